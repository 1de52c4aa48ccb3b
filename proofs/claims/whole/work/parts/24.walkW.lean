theorem dX10_stand_0 : decode cX10_stand 0 = .ok (.iload_n 1, 1) := by decide +kernel
theorem dX10_stand_1 : decode cX10_stand 1 = .ok (.iconst 1, 1) := by decide +kernel
theorem dX10_stand_2 : decode cX10_stand 2 = .ok (.if_icmp .lt 8, 3) := by decide +kernel
theorem dX10_stand_5 : decode cX10_stand 5 = .ok (.iload_n 1, 1) := by decide +kernel
theorem dX10_stand_6 : decode cX10_stand 6 = .ok (.iconst 3, 1) := by decide +kernel
theorem dX10_stand_7 : decode cX10_stand 7 = .ok (.if_icmp .le 6, 3) := by decide +kernel
theorem dX10_stand_10 : decode cX10_stand 10 = .ok (.bipush (-2), 2) := by decide +kernel
theorem dX10_stand_12 : decode cX10_stand 12 = .ok (.ireturn, 1) := by decide +kernel
theorem dX10_stand_13 : decode cX10_stand 13 = .ok (.aload_n 0, 1) := by decide +kernel
theorem dX10_stand_14 : decode cX10_stand 14 = .ok (.getfield 25, 3) := by decide +kernel
theorem dX10_stand_17 : decode cX10_stand 17 = .ok (.iload_n 1, 1) := by decide +kernel
theorem dX10_stand_18 : decode cX10_stand 18 = .ok (.invokevirtual 53, 3) := by decide +kernel
theorem dX10_stand_21 : decode cX10_stand 21 = .ok (.ireturn, 1) := by decide +kernel
theorem dX10_set_0 : decode cX10_set 0 = .ok (.iload_n 1, 1) := by decide +kernel
theorem dX10_set_1 : decode cX10_set 1 = .ok (.iload_n 2, 1) := by decide +kernel
theorem dX10_set_2 : decode cX10_set 2 = .ok (.invokestatic 57, 3) := by decide +kernel
theorem dX10_set_5 : decode cX10_set 5 = .ok (.ifCond .ne 6, 3) := by decide +kernel
theorem dX10_set_8 : decode cX10_set 8 = .ok (.bipush (-2), 2) := by decide +kernel
theorem dX10_set_10 : decode cX10_set 10 = .ok (.ireturn, 1) := by decide +kernel
theorem dX10_set_11 : decode cX10_set 11 = .ok (.iload_n 1, 1) := by decide +kernel
theorem dX10_set_12 : decode cX10_set 12 = .ok (.iconst 5, 1) := by decide +kernel
theorem dX10_set_13 : decode cX10_set 13 = .ok (.if_icmp .ge 19, 3) := by decide +kernel
theorem dX10_set_16 : decode cX10_set 16 = .ok (.iload_n 2, 1) := by decide +kernel
theorem dX10_set_17 : decode cX10_set 17 = .ok (.aload_n 0, 1) := by decide +kernel
theorem dX10_set_18 : decode cX10_set 18 = .ok (.getfield 25, 3) := by decide +kernel
theorem dX10_set_21 : decode cX10_set 21 = .ok (.getfield 63, 3) := by decide +kernel
theorem dX10_set_24 : decode cX10_set 24 = .ok (.iload_n 1, 1) := by decide +kernel
theorem dX10_set_25 : decode cX10_set 25 = .ok (.iaload, 1) := by decide +kernel
theorem dX10_set_26 : decode cX10_set 26 = .ok (.if_icmp .ge 6, 3) := by decide +kernel
theorem dX10_set_29 : decode cX10_set 29 = .ok (.bipush (-3), 2) := by decide +kernel
theorem dX10_set_31 : decode cX10_set 31 = .ok (.ireturn, 1) := by decide +kernel
theorem dX10_set_32 : decode cX10_set 32 = .ok (.aload_n 0, 1) := by decide +kernel
theorem dX10_set_33 : decode cX10_set 33 = .ok (.getfield 25, 3) := by decide +kernel
theorem dX10_set_36 : decode cX10_set 36 = .ok (.getfield 67, 3) := by decide +kernel
theorem dX10_set_39 : decode cX10_set 39 = .ok (.iload_n 1, 1) := by decide +kernel
theorem dX10_set_40 : decode cX10_set 40 = .ok (.iaload, 1) := by decide +kernel
theorem dX10_set_41 : decode cX10_set 41 = .ok (.istore_n 3, 1) := by decide +kernel
theorem dX10_set_42 : decode cX10_set 42 = .ok (.aload_n 0, 1) := by decide +kernel
theorem dX10_set_43 : decode cX10_set 43 = .ok (.getfield 25, 3) := by decide +kernel
theorem dX10_set_46 : decode cX10_set 46 = .ok (.getfield 67, 3) := by decide +kernel
theorem dX10_set_49 : decode cX10_set 49 = .ok (.iload_n 1, 1) := by decide +kernel
theorem dX10_set_50 : decode cX10_set 50 = .ok (.iload_n 2, 1) := by decide +kernel
theorem dX10_set_51 : decode cX10_set 51 = .ok (.iastore, 1) := by decide +kernel
theorem dX10_set_52 : decode cX10_set 52 = .ok (.iload_n 3, 1) := by decide +kernel
theorem dX10_set_53 : decode cX10_set 53 = .ok (.ireturn, 1) := by decide +kernel
theorem dX10_visit_0 : decode cX10_visit 0 = .ok (.iload_n 1, 1) := by decide +kernel
theorem dX10_visit_1 : decode cX10_visit 1 = .ok (.invokestatic 70, 3) := by decide +kernel
theorem dX10_visit_4 : decode cX10_visit 4 = .ok (.ifCond .eq 51, 3) := by decide +kernel
theorem dX10_visit_7 : decode cX10_visit 7 = .ok (.iload_n 2, 1) := by decide +kernel
theorem dX10_visit_8 : decode cX10_visit 8 = .ok (.aload_n 0, 1) := by decide +kernel
theorem dX10_visit_9 : decode cX10_visit 9 = .ok (.getfield 25, 3) := by decide +kernel
theorem dX10_visit_12 : decode cX10_visit 12 = .ok (.getfield 74, 3) := by decide +kernel
theorem dX10_visit_15 : decode cX10_visit 15 = .ok (.if_icmp .lt 40, 3) := by decide +kernel
theorem dX10_visit_18 : decode cX10_visit 18 = .ok (.iload_n 2, 1) := by decide +kernel
theorem dX10_visit_19 : decode cX10_visit 19 = .ok (.sipush 9999, 3) := by decide +kernel
theorem dX10_visit_22 : decode cX10_visit 22 = .ok (.if_icmp .gt 33, 3) := by decide +kernel
theorem dX10_visit_25 : decode cX10_visit 25 = .ok (.iload_n 3, 1) := by decide +kernel
theorem dX10_visit_26 : decode cX10_visit 26 = .ok (.iload_n 2, 1) := by decide +kernel
theorem dX10_visit_27 : decode cX10_visit 27 = .ok (.if_icmp .le 28, 3) := by decide +kernel
theorem dX10_visit_30 : decode cX10_visit 30 = .ok (.iload_n 3, 1) := by decide +kernel
theorem dX10_visit_31 : decode cX10_visit 31 = .ok (.sipush 9999, 3) := by decide +kernel
theorem dX10_visit_34 : decode cX10_visit 34 = .ok (.if_icmp .gt 21, 3) := by decide +kernel
theorem dX10_visit_37 : decode cX10_visit 37 = .ok (.iload 4, 2) := by decide +kernel
theorem dX10_visit_39 : decode cX10_visit 39 = .ok (.iconst 1, 1) := by decide +kernel
theorem dX10_visit_40 : decode cX10_visit 40 = .ok (.if_icmp .lt 15, 3) := by decide +kernel
theorem dX10_visit_43 : decode cX10_visit 43 = .ok (.iload 4, 2) := by decide +kernel
theorem dX10_visit_45 : decode cX10_visit 45 = .ok (.sipush 999, 3) := by decide +kernel
theorem dX10_visit_48 : decode cX10_visit 48 = .ok (.if_icmp .gt 7, 3) := by decide +kernel
theorem dX10_visit_51 : decode cX10_visit 51 = .ok (.iconst 1, 1) := by decide +kernel
theorem dX10_visit_52 : decode cX10_visit 52 = .ok (.goto 4, 3) := by decide +kernel
theorem dX10_visit_55 : decode cX10_visit 55 = .ok (.iconst 0, 1) := by decide +kernel
theorem dX10_visit_56 : decode cX10_visit 56 = .ok (.istore 5, 2) := by decide +kernel
theorem dX10_visit_58 : decode cX10_visit 58 = .ok (.iload 5, 2) := by decide +kernel
theorem dX10_visit_60 : decode cX10_visit 60 = .ok (.ifCond .ne 6, 3) := by decide +kernel
theorem dX10_visit_63 : decode cX10_visit 63 = .ok (.bipush (-2), 2) := by decide +kernel
theorem dX10_visit_65 : decode cX10_visit 65 = .ok (.ireturn, 1) := by decide +kernel
theorem dX10_visit_66 : decode cX10_visit 66 = .ok (.aload_n 0, 1) := by decide +kernel
theorem dX10_visit_67 : decode cX10_visit 67 = .ok (.getfield 25, 3) := by decide +kernel
theorem dX10_visit_70 : decode cX10_visit 70 = .ok (.iload_n 1, 1) := by decide +kernel
theorem dX10_visit_71 : decode cX10_visit 71 = .ok (.iload_n 2, 1) := by decide +kernel
theorem dX10_visit_72 : decode cX10_visit 72 = .ok (.iload_n 3, 1) := by decide +kernel
theorem dX10_visit_73 : decode cX10_visit 73 = .ok (.iload 4, 2) := by decide +kernel
theorem dX10_visit_75 : decode cX10_visit 75 = .ok (.invokevirtual 78, 3) := by decide +kernel
theorem dX10_visit_78 : decode cX10_visit 78 = .ok (.ireturn, 1) := by decide +kernel
theorem dX10_late_0 : decode cX10_late 0 = .ok (.aload_n 0, 1) := by decide +kernel
theorem dX10_late_1 : decode cX10_late 1 = .ok (.getfield 25, 3) := by decide +kernel
theorem dX10_late_4 : decode cX10_late 4 = .ok (.iload_n 1, 1) := by decide +kernel
theorem dX10_late_5 : decode cX10_late 5 = .ok (.invokevirtual 82, 3) := by decide +kernel
theorem dX10_late_8 : decode cX10_late 8 = .ok (.ifCond .ne 5, 3) := by decide +kernel
theorem dX10_late_11 : decode cX10_late 11 = .ok (.iconst (-1), 1) := by decide +kernel
theorem dX10_late_12 : decode cX10_late 12 = .ok (.ireturn, 1) := by decide +kernel
theorem dX10_late_13 : decode cX10_late 13 = .ok (.iload_n 2, 1) := by decide +kernel
theorem dX10_late_14 : decode cX10_late 14 = .ok (.ifCond .lt 10, 3) := by decide +kernel
theorem dX10_late_17 : decode cX10_late 17 = .ok (.iload_n 2, 1) := by decide +kernel
theorem dX10_late_18 : decode cX10_late 18 = .ok (.sipush 999, 3) := by decide +kernel
theorem dX10_late_21 : decode cX10_late 21 = .ok (.if_icmp .le 6, 3) := by decide +kernel
theorem dX10_late_24 : decode cX10_late 24 = .ok (.bipush (-2), 2) := by decide +kernel
theorem dX10_late_26 : decode cX10_late 26 = .ok (.ireturn, 1) := by decide +kernel
theorem dX10_late_27 : decode cX10_late 27 = .ok (.aload_n 0, 1) := by decide +kernel
theorem dX10_late_28 : decode cX10_late 28 = .ok (.getfield 25, 3) := by decide +kernel
theorem dX10_late_31 : decode cX10_late 31 = .ok (.getfield 85, 3) := by decide +kernel
theorem dX10_late_34 : decode cX10_late 34 = .ok (.iload_n 1, 1) := by decide +kernel
theorem dX10_late_35 : decode cX10_late 35 = .ok (.aaload, 1) := by decide +kernel
theorem dX10_late_36 : decode cX10_late 36 = .ok (.astore_n 3, 1) := by decide +kernel
theorem dX10_late_37 : decode cX10_late 37 = .ok (.aload_n 3, 1) := by decide +kernel
theorem dX10_late_38 : decode cX10_late 38 = .ok (.getfield 89, 3) := by decide +kernel
theorem dX10_late_41 : decode cX10_late 41 = .ok (.ifCond .eq 6, 3) := by decide +kernel
theorem dX10_late_44 : decode cX10_late 44 = .ok (.bipush (-3), 2) := by decide +kernel
theorem dX10_late_46 : decode cX10_late 46 = .ok (.ireturn, 1) := by decide +kernel
theorem dX10_late_47 : decode cX10_late 47 = .ok (.aload_n 3, 1) := by decide +kernel
theorem dX10_late_48 : decode cX10_late 48 = .ok (.getfield 94, 3) := by decide +kernel
theorem dX10_late_51 : decode cX10_late 51 = .ok (.istore 4, 2) := by decide +kernel
theorem dX10_late_53 : decode cX10_late 53 = .ok (.aload_n 3, 1) := by decide +kernel
theorem dX10_late_54 : decode cX10_late 54 = .ok (.iload_n 2, 1) := by decide +kernel
theorem dX10_late_55 : decode cX10_late 55 = .ok (.putfield 94, 3) := by decide +kernel
theorem dX10_late_58 : decode cX10_late 58 = .ok (.iload 4, 2) := by decide +kernel
theorem dX10_late_60 : decode cX10_late 60 = .ok (.ireturn, 1) := by decide +kernel
theorem dX10_wish_0 : decode cX10_wish 0 = .ok (.aload_n 0, 1) := by decide +kernel
theorem dX10_wish_1 : decode cX10_wish 1 = .ok (.getfield 25, 3) := by decide +kernel
theorem dX10_wish_4 : decode cX10_wish 4 = .ok (.iload_n 1, 1) := by decide +kernel
theorem dX10_wish_5 : decode cX10_wish 5 = .ok (.invokevirtual 82, 3) := by decide +kernel
theorem dX10_wish_8 : decode cX10_wish 8 = .ok (.ifCond .eq 19, 3) := by decide +kernel
theorem dX10_wish_11 : decode cX10_wish 11 = .ok (.iload_n 2, 1) := by decide +kernel
theorem dX10_wish_12 : decode cX10_wish 12 = .ok (.iconst (-1), 1) := by decide +kernel
theorem dX10_wish_13 : decode cX10_wish 13 = .ok (.if_icmp .eq 16, 3) := by decide +kernel
theorem dX10_wish_16 : decode cX10_wish 16 = .ok (.aload_n 0, 1) := by decide +kernel
theorem dX10_wish_17 : decode cX10_wish 17 = .ok (.getfield 25, 3) := by decide +kernel
theorem dX10_wish_20 : decode cX10_wish 20 = .ok (.iload_n 2, 1) := by decide +kernel
theorem dX10_wish_21 : decode cX10_wish 21 = .ok (.invokevirtual 97, 3) := by decide +kernel
theorem dX10_wish_24 : decode cX10_wish 24 = .ok (.ifCond .ne 5, 3) := by decide +kernel
theorem dX10_wish_27 : decode cX10_wish 27 = .ok (.iconst (-1), 1) := by decide +kernel
theorem dX10_wish_28 : decode cX10_wish 28 = .ok (.ireturn, 1) := by decide +kernel
theorem dX10_wish_29 : decode cX10_wish 29 = .ok (.aload_n 0, 1) := by decide +kernel
theorem dX10_wish_30 : decode cX10_wish 30 = .ok (.getfield 25, 3) := by decide +kernel
theorem dX10_wish_33 : decode cX10_wish 33 = .ok (.iload_n 1, 1) := by decide +kernel
theorem dX10_wish_34 : decode cX10_wish 34 = .ok (.iload_n 2, 1) := by decide +kernel
theorem dX10_wish_35 : decode cX10_wish 35 = .ok (.invokevirtual 100, 3) := by decide +kernel
theorem dX10_wish_38 : decode cX10_wish 38 = .ok (.ifCond .ne 6, 3) := by decide +kernel
theorem dX10_wish_41 : decode cX10_wish 41 = .ok (.bipush (-2), 2) := by decide +kernel
theorem dX10_wish_43 : decode cX10_wish 43 = .ok (.ireturn, 1) := by decide +kernel
theorem dX10_wish_44 : decode cX10_wish 44 = .ok (.aload_n 0, 1) := by decide +kernel
theorem dX10_wish_45 : decode cX10_wish 45 = .ok (.getfield 25, 3) := by decide +kernel
theorem dX10_wish_48 : decode cX10_wish 48 = .ok (.getfield 85, 3) := by decide +kernel
theorem dX10_wish_51 : decode cX10_wish 51 = .ok (.iload_n 1, 1) := by decide +kernel
theorem dX10_wish_52 : decode cX10_wish 52 = .ok (.aaload, 1) := by decide +kernel
theorem dX10_wish_53 : decode cX10_wish 53 = .ok (.astore_n 3, 1) := by decide +kernel
theorem dX10_wish_54 : decode cX10_wish 54 = .ok (.aload_n 3, 1) := by decide +kernel
theorem dX10_wish_55 : decode cX10_wish 55 = .ok (.invokevirtual 103, 3) := by decide +kernel
theorem dX10_wish_58 : decode cX10_wish 58 = .ok (.ifCond .ne 6, 3) := by decide +kernel
theorem dX10_wish_61 : decode cX10_wish 61 = .ok (.bipush (-3), 2) := by decide +kernel
theorem dX10_wish_63 : decode cX10_wish 63 = .ok (.ireturn, 1) := by decide +kernel
theorem dX10_wish_64 : decode cX10_wish 64 = .ok (.aload_n 3, 1) := by decide +kernel
theorem dX10_wish_65 : decode cX10_wish 65 = .ok (.getfield 107, 3) := by decide +kernel
theorem dX10_wish_68 : decode cX10_wish 68 = .ok (.istore 4, 2) := by decide +kernel
theorem dX10_wish_70 : decode cX10_wish 70 = .ok (.aload_n 3, 1) := by decide +kernel
theorem dX10_wish_71 : decode cX10_wish 71 = .ok (.iload_n 2, 1) := by decide +kernel
theorem dX10_wish_72 : decode cX10_wish 72 = .ok (.putfield 107, 3) := by decide +kernel
theorem dX10_wish_75 : decode cX10_wish 75 = .ok (.iload 4, 2) := by decide +kernel
theorem dX10_wish_77 : decode cX10_wish 77 = .ok (.ifCond .ge 8, 3) := by decide +kernel
theorem dX10_wish_80 : decode cX10_wish 80 = .ok (.bipush 6, 2) := by decide +kernel
theorem dX10_wish_82 : decode cX10_wish 82 = .ok (.goto 5, 3) := by decide +kernel
theorem dX10_wish_85 : decode cX10_wish 85 = .ok (.iload 4, 2) := by decide +kernel
theorem dX10_wish_87 : decode cX10_wish 87 = .ok (.ireturn, 1) := by decide +kernel
theorem dX10_feed_0 : decode cX10_feed 0 = .ok (.aload_n 0, 1) := by decide +kernel
theorem dX10_feed_1 : decode cX10_feed 1 = .ok (.getfield 25, 3) := by decide +kernel
theorem dX10_feed_4 : decode cX10_feed 4 = .ok (.iload_n 1, 1) := by decide +kernel
theorem dX10_feed_5 : decode cX10_feed 5 = .ok (.invokevirtual 82, 3) := by decide +kernel
theorem dX10_feed_8 : decode cX10_feed 8 = .ok (.ifCond .eq 14, 3) := by decide +kernel
theorem dX10_feed_11 : decode cX10_feed 11 = .ok (.aload_n 0, 1) := by decide +kernel
theorem dX10_feed_12 : decode cX10_feed 12 = .ok (.getfield 25, 3) := by decide +kernel
theorem dX10_feed_15 : decode cX10_feed 15 = .ok (.iload_n 2, 1) := by decide +kernel
theorem dX10_feed_16 : decode cX10_feed 16 = .ok (.invokevirtual 82, 3) := by decide +kernel
theorem dX10_feed_19 : decode cX10_feed 19 = .ok (.ifCond .ne 5, 3) := by decide +kernel
theorem dX10_feed_22 : decode cX10_feed 22 = .ok (.iconst (-1), 1) := by decide +kernel
theorem dX10_feed_23 : decode cX10_feed 23 = .ok (.ireturn, 1) := by decide +kernel
theorem dX10_feed_24 : decode cX10_feed 24 = .ok (.iload_n 1, 1) := by decide +kernel
theorem dX10_feed_25 : decode cX10_feed 25 = .ok (.iload_n 2, 1) := by decide +kernel
theorem dX10_feed_26 : decode cX10_feed 26 = .ok (.if_icmp .eq 27, 3) := by decide +kernel
theorem dX10_feed_29 : decode cX10_feed 29 = .ok (.iload_n 3, 1) := by decide +kernel
theorem dX10_feed_30 : decode cX10_feed 30 = .ok (.iconst 1, 1) := by decide +kernel
theorem dX10_feed_31 : decode cX10_feed 31 = .ok (.if_icmp .lt 22, 3) := by decide +kernel
theorem dX10_feed_34 : decode cX10_feed 34 = .ok (.iload_n 3, 1) := by decide +kernel
theorem dX10_feed_35 : decode cX10_feed 35 = .ok (.bipush 99, 2) := by decide +kernel
theorem dX10_feed_37 : decode cX10_feed 37 = .ok (.if_icmp .gt 16, 3) := by decide +kernel
theorem dX10_feed_40 : decode cX10_feed 40 = .ok (.iload 4, 2) := by decide +kernel
theorem dX10_feed_42 : decode cX10_feed 42 = .ok (.iconst 1, 1) := by decide +kernel
theorem dX10_feed_43 : decode cX10_feed 43 = .ok (.if_icmp .lt 10, 3) := by decide +kernel
theorem dX10_feed_46 : decode cX10_feed 46 = .ok (.iload 4, 2) := by decide +kernel
theorem dX10_feed_48 : decode cX10_feed 48 = .ok (.bipush 99, 2) := by decide +kernel
theorem dX10_feed_50 : decode cX10_feed 50 = .ok (.if_icmp .le 6, 3) := by decide +kernel
theorem dX10_feed_53 : decode cX10_feed 53 = .ok (.bipush (-2), 2) := by decide +kernel
theorem dX10_feed_55 : decode cX10_feed 55 = .ok (.ireturn, 1) := by decide +kernel
theorem dX10_feed_56 : decode cX10_feed 56 = .ok (.aload_n 0, 1) := by decide +kernel
theorem dX10_feed_57 : decode cX10_feed 57 = .ok (.getfield 25, 3) := by decide +kernel
theorem dX10_feed_60 : decode cX10_feed 60 = .ok (.getfield 85, 3) := by decide +kernel
theorem dX10_feed_63 : decode cX10_feed 63 = .ok (.iload_n 1, 1) := by decide +kernel
theorem dX10_feed_64 : decode cX10_feed 64 = .ok (.aaload, 1) := by decide +kernel
theorem dX10_feed_65 : decode cX10_feed 65 = .ok (.getfield 89, 3) := by decide +kernel
theorem dX10_feed_68 : decode cX10_feed 68 = .ok (.ifCond .ne 18, 3) := by decide +kernel
theorem dX10_feed_71 : decode cX10_feed 71 = .ok (.aload_n 0, 1) := by decide +kernel
theorem dX10_feed_72 : decode cX10_feed 72 = .ok (.getfield 25, 3) := by decide +kernel
theorem dX10_feed_75 : decode cX10_feed 75 = .ok (.getfield 85, 3) := by decide +kernel
theorem dX10_feed_78 : decode cX10_feed 78 = .ok (.iload_n 2, 1) := by decide +kernel
theorem dX10_feed_79 : decode cX10_feed 79 = .ok (.aaload, 1) := by decide +kernel
theorem dX10_feed_80 : decode cX10_feed 80 = .ok (.getfield 89, 3) := by decide +kernel
theorem dX10_feed_83 : decode cX10_feed 83 = .ok (.ifCond .eq 6, 3) := by decide +kernel
theorem dX10_feed_86 : decode cX10_feed 86 = .ok (.bipush (-3), 2) := by decide +kernel
theorem dX10_feed_88 : decode cX10_feed 88 = .ok (.ireturn, 1) := by decide +kernel
theorem dX10_feed_89 : decode cX10_feed 89 = .ok (.aload_n 0, 1) := by decide +kernel
theorem dX10_feed_90 : decode cX10_feed 90 = .ok (.getfield 25, 3) := by decide +kernel
theorem dX10_feed_93 : decode cX10_feed 93 = .ok (.iload_n 1, 1) := by decide +kernel
theorem dX10_feed_94 : decode cX10_feed 94 = .ok (.iload_n 2, 1) := by decide +kernel
theorem dX10_feed_95 : decode cX10_feed 95 = .ok (.iload_n 3, 1) := by decide +kernel
theorem dX10_feed_96 : decode cX10_feed 96 = .ok (.iload 4, 2) := by decide +kernel
theorem dX10_feed_98 : decode cX10_feed 98 = .ok (.invokevirtual 110, 3) := by decide +kernel
theorem dX10_feed_101 : decode cX10_feed 101 = .ok (.ireturn, 1) := by decide +kernel
theorem dX10_refusedAhead_0 : decode cX10_refusedAhead 0 = .ok (.iload_n 1, 1) := by decide +kernel
theorem dX10_refusedAhead_1 : decode cX10_refusedAhead 1 = .ok (.iconst 1, 1) := by decide +kernel
theorem dX10_refusedAhead_2 : decode cX10_refusedAhead 2 = .ok (.if_icmp .lt 8, 3) := by decide +kernel
theorem dX10_refusedAhead_5 : decode cX10_refusedAhead 5 = .ok (.iload_n 1, 1) := by decide +kernel
theorem dX10_refusedAhead_6 : decode cX10_refusedAhead 6 = .ok (.iload_n 2, 1) := by decide +kernel
theorem dX10_refusedAhead_7 : decode cX10_refusedAhead 7 = .ok (.if_icmp .le 6, 3) := by decide +kernel
theorem dX10_refusedAhead_10 : decode cX10_refusedAhead 10 = .ok (.bipush (-2), 2) := by decide +kernel
theorem dX10_refusedAhead_12 : decode cX10_refusedAhead 12 = .ok (.ireturn, 1) := by decide +kernel
theorem dX10_refusedAhead_13 : decode cX10_refusedAhead 13 = .ok (.aload_n 0, 1) := by decide +kernel
theorem dX10_refusedAhead_14 : decode cX10_refusedAhead 14 = .ok (.getfield 25, 3) := by decide +kernel
theorem dX10_refusedAhead_17 : decode cX10_refusedAhead 17 = .ok (.getfield 74, 3) := by decide +kernel
theorem dX10_refusedAhead_20 : decode cX10_refusedAhead 20 = .ok (.iload_n 1, 1) := by decide +kernel
theorem dX10_refusedAhead_21 : decode cX10_refusedAhead 21 = .ok (.iadd, 1) := by decide +kernel
theorem dX10_refusedAhead_22 : decode cX10_refusedAhead 22 = .ok (.sipush 9999, 3) := by decide +kernel
theorem dX10_refusedAhead_25 : decode cX10_refusedAhead 25 = .ok (.if_icmp .le 8, 3) := by decide +kernel
theorem dX10_refusedAhead_28 : decode cX10_refusedAhead 28 = .ok (.bipush (-4), 2) := by decide +kernel
theorem dX10_refusedAhead_30 : decode cX10_refusedAhead 30 = .ok (.goto 4, 3) := by decide +kernel
theorem dX10_refusedAhead_33 : decode cX10_refusedAhead 33 = .ok (.iconst 0, 1) := by decide +kernel
theorem dX10_refusedAhead_34 : decode cX10_refusedAhead 34 = .ok (.ireturn, 1) := by decide +kernel
theorem dX10_run_0 : decode cX10_run 0 = .ok (.aload_n 0, 1) := by decide +kernel
theorem dX10_run_1 : decode cX10_run 1 = .ok (.iload_n 1, 1) := by decide +kernel
theorem dX10_run_2 : decode cX10_run 2 = .ok (.sipush 200, 3) := by decide +kernel
theorem dX10_run_5 : decode cX10_run 5 = .ok (.invokevirtual 113, 3) := by decide +kernel
theorem dX10_run_8 : decode cX10_run 8 = .ok (.istore_n 2, 1) := by decide +kernel
theorem dX10_run_9 : decode cX10_run 9 = .ok (.iload_n 2, 1) := by decide +kernel
theorem dX10_run_10 : decode cX10_run 10 = .ok (.ifCond .eq 5, 3) := by decide +kernel
theorem dX10_run_13 : decode cX10_run 13 = .ok (.iload_n 2, 1) := by decide +kernel
theorem dX10_run_14 : decode cX10_run 14 = .ok (.ireturn, 1) := by decide +kernel
theorem dX10_run_15 : decode cX10_run 15 = .ok (.iconst 0, 1) := by decide +kernel
theorem dX10_run_16 : decode cX10_run 16 = .ok (.istore_n 3, 1) := by decide +kernel
theorem dX10_run_17 : decode cX10_run 17 = .ok (.iload_n 3, 1) := by decide +kernel
theorem dX10_run_18 : decode cX10_run 18 = .ok (.iload_n 1, 1) := by decide +kernel
theorem dX10_run_19 : decode cX10_run 19 = .ok (.if_icmp .ge 16, 3) := by decide +kernel
theorem dX10_run_22 : decode cX10_run 22 = .ok (.aload_n 0, 1) := by decide +kernel
theorem dX10_run_23 : decode cX10_run 23 = .ok (.getfield 25, 3) := by decide +kernel
theorem dX10_run_26 : decode cX10_run 26 = .ok (.invokevirtual 117, 3) := by decide +kernel
theorem dX10_run_29 : decode cX10_run 29 = .ok (.iinc 3 1, 3) := by decide +kernel
theorem dX10_run_32 : decode cX10_run 32 = .ok (.goto (-15), 3) := by decide +kernel
theorem dX10_run_35 : decode cX10_run 35 = .ok (.aload_n 0, 1) := by decide +kernel
theorem dX10_run_36 : decode cX10_run 36 = .ok (.getfield 25, 3) := by decide +kernel
theorem dX10_run_39 : decode cX10_run 39 = .ok (.getfield 74, 3) := by decide +kernel
theorem dX10_run_42 : decode cX10_run 42 = .ok (.ireturn, 1) := by decide +kernel
theorem dX10_visitTold_0 : decode cX10_visitTold 0 = .ok (.aload_n 0, 1) := by decide +kernel
theorem dX10_visitTold_1 : decode cX10_visitTold 1 = .ok (.getfield 25, 3) := by decide +kernel
theorem dX10_visitTold_4 : decode cX10_visitTold 4 = .ok (.iload_n 1, 1) := by decide +kernel
theorem dX10_visitTold_5 : decode cX10_visitTold 5 = .ok (.invokevirtual 82, 3) := by decide +kernel
theorem dX10_visitTold_8 : decode cX10_visitTold 8 = .ok (.ifCond .ne 5, 3) := by decide +kernel
theorem dX10_visitTold_11 : decode cX10_visitTold 11 = .ok (.iconst (-1), 1) := by decide +kernel
theorem dX10_visitTold_12 : decode cX10_visitTold 12 = .ok (.ireturn, 1) := by decide +kernel
theorem dX10_visitTold_13 : decode cX10_visitTold 13 = .ok (.aload_n 0, 1) := by decide +kernel
theorem dX10_visitTold_14 : decode cX10_visitTold 14 = .ok (.getfield 25, 3) := by decide +kernel
theorem dX10_visitTold_17 : decode cX10_visitTold 17 = .ok (.getfield 85, 3) := by decide +kernel
theorem dX10_visitTold_20 : decode cX10_visitTold 20 = .ok (.iload_n 1, 1) := by decide +kernel
theorem dX10_visitTold_21 : decode cX10_visitTold 21 = .ok (.aaload, 1) := by decide +kernel
theorem dX10_visitTold_22 : decode cX10_visitTold 22 = .ok (.iload_n 2, 1) := by decide +kernel
theorem dX10_visitTold_23 : decode cX10_visitTold 23 = .ok (.invokevirtual 120, 3) := by decide +kernel
theorem dX10_visitTold_26 : decode cX10_visitTold 26 = .ok (.ireturn, 1) := by decide +kernel
theorem dX10_cause_0 : decode cX10_cause 0 = .ok (.aload_n 0, 1) := by decide +kernel
theorem dX10_cause_1 : decode cX10_cause 1 = .ok (.getfield 25, 3) := by decide +kernel
theorem dX10_cause_4 : decode cX10_cause 4 = .ok (.iload_n 1, 1) := by decide +kernel
theorem dX10_cause_5 : decode cX10_cause 5 = .ok (.invokevirtual 82, 3) := by decide +kernel
theorem dX10_cause_8 : decode cX10_cause 8 = .ok (.ifCond .ne 5, 3) := by decide +kernel
theorem dX10_cause_11 : decode cX10_cause 11 = .ok (.iconst (-1), 1) := by decide +kernel
theorem dX10_cause_12 : decode cX10_cause 12 = .ok (.ireturn, 1) := by decide +kernel
theorem dX10_cause_13 : decode cX10_cause 13 = .ok (.iload_n 2, 1) := by decide +kernel
theorem dX10_cause_14 : decode cX10_cause 14 = .ok (.ifCond .lt 9, 3) := by decide +kernel
theorem dX10_cause_17 : decode cX10_cause 17 = .ok (.iload_n 2, 1) := by decide +kernel
theorem dX10_cause_18 : decode cX10_cause 18 = .ok (.bipush 9, 2) := by decide +kernel
theorem dX10_cause_20 : decode cX10_cause 20 = .ok (.if_icmp .lt 6, 3) := by decide +kernel
theorem dX10_cause_23 : decode cX10_cause 23 = .ok (.bipush (-2), 2) := by decide +kernel
theorem dX10_cause_25 : decode cX10_cause 25 = .ok (.ireturn, 1) := by decide +kernel
theorem dX10_cause_26 : decode cX10_cause 26 = .ok (.aload_n 0, 1) := by decide +kernel
theorem dX10_cause_27 : decode cX10_cause 27 = .ok (.getfield 25, 3) := by decide +kernel
theorem dX10_cause_30 : decode cX10_cause 30 = .ok (.getfield 85, 3) := by decide +kernel
theorem dX10_cause_33 : decode cX10_cause 33 = .ok (.iload_n 1, 1) := by decide +kernel
theorem dX10_cause_34 : decode cX10_cause 34 = .ok (.aaload, 1) := by decide +kernel
theorem dX10_cause_35 : decode cX10_cause 35 = .ok (.getfield 123, 3) := by decide +kernel
theorem dX10_cause_38 : decode cX10_cause 38 = .ok (.iload_n 2, 1) := by decide +kernel
theorem dX10_cause_39 : decode cX10_cause 39 = .ok (.iaload, 1) := by decide +kernel
theorem dX10_cause_40 : decode cX10_cause 40 = .ok (.ireturn, 1) := by decide +kernel
theorem dX10_feedTold_0 : decode cX10_feedTold 0 = .ok (.aload_n 0, 1) := by decide +kernel
theorem dX10_feedTold_1 : decode cX10_feedTold 1 = .ok (.getfield 25, 3) := by decide +kernel
theorem dX10_feedTold_4 : decode cX10_feedTold 4 = .ok (.iload_n 1, 1) := by decide +kernel
theorem dX10_feedTold_5 : decode cX10_feedTold 5 = .ok (.invokevirtual 126, 3) := by decide +kernel
theorem dX10_feedTold_8 : decode cX10_feedTold 8 = .ok (.ifCond .ne 5, 3) := by decide +kernel
theorem dX10_feedTold_11 : decode cX10_feedTold 11 = .ok (.iconst (-1), 1) := by decide +kernel
theorem dX10_feedTold_12 : decode cX10_feedTold 12 = .ok (.ireturn, 1) := by decide +kernel
theorem dX10_feedTold_13 : decode cX10_feedTold 13 = .ok (.aload_n 0, 1) := by decide +kernel
theorem dX10_feedTold_14 : decode cX10_feedTold 14 = .ok (.getfield 25, 3) := by decide +kernel
theorem dX10_feedTold_17 : decode cX10_feedTold 17 = .ok (.getfield 129, 3) := by decide +kernel
theorem dX10_feedTold_20 : decode cX10_feedTold 20 = .ok (.iload_n 1, 1) := by decide +kernel
theorem dX10_feedTold_21 : decode cX10_feedTold 21 = .ok (.aaload, 1) := by decide +kernel
theorem dX10_feedTold_22 : decode cX10_feedTold 22 = .ok (.iload_n 2, 1) := by decide +kernel
theorem dX10_feedTold_23 : decode cX10_feedTold 23 = .ok (.invokevirtual 133, 3) := by decide +kernel
theorem dX10_feedTold_26 : decode cX10_feedTold 26 = .ok (.ireturn, 1) := by decide +kernel
theorem dX10_standTold_0 : decode cX10_standTold 0 = .ok (.aload_n 0, 1) := by decide +kernel
theorem dX10_standTold_1 : decode cX10_standTold 1 = .ok (.getfield 25, 3) := by decide +kernel
theorem dX10_standTold_4 : decode cX10_standTold 4 = .ok (.iload_n 1, 1) := by decide +kernel
theorem dX10_standTold_5 : decode cX10_standTold 5 = .ok (.invokevirtual 97, 3) := by decide +kernel
theorem dX10_standTold_8 : decode cX10_standTold 8 = .ok (.ifCond .ne 6, 3) := by decide +kernel
theorem dX10_standTold_11 : decode cX10_standTold 11 = .ok (.bipush (-3), 2) := by decide +kernel
theorem dX10_standTold_13 : decode cX10_standTold 13 = .ok (.ireturn, 1) := by decide +kernel
theorem dX10_standTold_14 : decode cX10_standTold 14 = .ok (.iload_n 2, 1) := by decide +kernel
theorem dX10_standTold_15 : decode cX10_standTold 15 = .ok (.ifCond .ne 13, 3) := by decide +kernel
theorem dX10_standTold_18 : decode cX10_standTold 18 = .ok (.aload_n 0, 1) := by decide +kernel
theorem dX10_standTold_19 : decode cX10_standTold 19 = .ok (.getfield 25, 3) := by decide +kernel
theorem dX10_standTold_22 : decode cX10_standTold 22 = .ok (.getfield 136, 3) := by decide +kernel
theorem dX10_standTold_25 : decode cX10_standTold 25 = .ok (.iload_n 1, 1) := by decide +kernel
theorem dX10_standTold_26 : decode cX10_standTold 26 = .ok (.iaload, 1) := by decide +kernel
theorem dX10_standTold_27 : decode cX10_standTold 27 = .ok (.ireturn, 1) := by decide +kernel
theorem dX10_standTold_28 : decode cX10_standTold 28 = .ok (.iload_n 2, 1) := by decide +kernel
theorem dX10_standTold_29 : decode cX10_standTold 29 = .ok (.iconst 1, 1) := by decide +kernel
theorem dX10_standTold_30 : decode cX10_standTold 30 = .ok (.if_icmp .ne 15, 3) := by decide +kernel
theorem dX10_standTold_33 : decode cX10_standTold 33 = .ok (.aload_n 0, 1) := by decide +kernel
theorem dX10_standTold_34 : decode cX10_standTold 34 = .ok (.getfield 25, 3) := by decide +kernel
theorem dX10_standTold_37 : decode cX10_standTold 37 = .ok (.getfield 139, 3) := by decide +kernel
theorem dX10_standTold_40 : decode cX10_standTold 40 = .ok (.iload_n 1, 1) := by decide +kernel
theorem dX10_standTold_41 : decode cX10_standTold 41 = .ok (.iaload, 1) := by decide +kernel
theorem dX10_standTold_42 : decode cX10_standTold 42 = .ok (.goto 5, 3) := by decide +kernel
theorem dX10_standTold_45 : decode cX10_standTold 45 = .ok (.bipush (-2), 2) := by decide +kernel
theorem dX10_standTold_47 : decode cX10_standTold 47 = .ok (.ireturn, 1) := by decide +kernel
theorem dX10_runwayTold_0 : decode cX10_runwayTold 0 = .ok (.iload_n 1, 1) := by decide +kernel
theorem dX10_runwayTold_1 : decode cX10_runwayTold 1 = .ok (.ifCond .lt 8, 3) := by decide +kernel
theorem dX10_runwayTold_4 : decode cX10_runwayTold 4 = .ok (.iload_n 1, 1) := by decide +kernel
theorem dX10_runwayTold_5 : decode cX10_runwayTold 5 = .ok (.iconst 2, 1) := by decide +kernel
theorem dX10_runwayTold_6 : decode cX10_runwayTold 6 = .ok (.if_icmp .lt 6, 3) := by decide +kernel
theorem dX10_runwayTold_9 : decode cX10_runwayTold 9 = .ok (.bipush (-3), 2) := by decide +kernel
theorem dX10_runwayTold_11 : decode cX10_runwayTold 11 = .ok (.ireturn, 1) := by decide +kernel
theorem dX10_runwayTold_12 : decode cX10_runwayTold 12 = .ok (.iload_n 2, 1) := by decide +kernel
theorem dX10_runwayTold_13 : decode cX10_runwayTold 13 = .ok (.ifCond .ne 13, 3) := by decide +kernel
theorem dX10_runwayTold_16 : decode cX10_runwayTold 16 = .ok (.aload_n 0, 1) := by decide +kernel
theorem dX10_runwayTold_17 : decode cX10_runwayTold 17 = .ok (.getfield 25, 3) := by decide +kernel
theorem dX10_runwayTold_20 : decode cX10_runwayTold 20 = .ok (.getfield 142, 3) := by decide +kernel
theorem dX10_runwayTold_23 : decode cX10_runwayTold 23 = .ok (.iload_n 1, 1) := by decide +kernel
theorem dX10_runwayTold_24 : decode cX10_runwayTold 24 = .ok (.iaload, 1) := by decide +kernel
theorem dX10_runwayTold_25 : decode cX10_runwayTold 25 = .ok (.ireturn, 1) := by decide +kernel
theorem dX10_runwayTold_26 : decode cX10_runwayTold 26 = .ok (.iload_n 2, 1) := by decide +kernel
theorem dX10_runwayTold_27 : decode cX10_runwayTold 27 = .ok (.iconst 1, 1) := by decide +kernel
theorem dX10_runwayTold_28 : decode cX10_runwayTold 28 = .ok (.if_icmp .ne 15, 3) := by decide +kernel
theorem dX10_runwayTold_31 : decode cX10_runwayTold 31 = .ok (.aload_n 0, 1) := by decide +kernel
theorem dX10_runwayTold_32 : decode cX10_runwayTold 32 = .ok (.getfield 25, 3) := by decide +kernel
theorem dX10_runwayTold_35 : decode cX10_runwayTold 35 = .ok (.getfield 145, 3) := by decide +kernel
theorem dX10_runwayTold_38 : decode cX10_runwayTold 38 = .ok (.iload_n 1, 1) := by decide +kernel
theorem dX10_runwayTold_39 : decode cX10_runwayTold 39 = .ok (.iaload, 1) := by decide +kernel
theorem dX10_runwayTold_40 : decode cX10_runwayTold 40 = .ok (.goto 5, 3) := by decide +kernel
theorem dX10_runwayTold_43 : decode cX10_runwayTold 43 = .ok (.bipush (-2), 2) := by decide +kernel
theorem dX10_runwayTold_45 : decode cX10_runwayTold 45 = .ok (.ireturn, 1) := by decide +kernel
theorem dX10_ticks_0 : decode cX10_ticks 0 = .ok (.iload_n 1, 1) := by decide +kernel
theorem dX10_ticks_1 : decode cX10_ticks 1 = .ok (.invokestatic 70, 3) := by decide +kernel
theorem dX10_ticks_4 : decode cX10_ticks 4 = .ok (.ifCond .eq 13, 3) := by decide +kernel
theorem dX10_ticks_7 : decode cX10_ticks 7 = .ok (.iload_n 2, 1) := by decide +kernel
theorem dX10_ticks_8 : decode cX10_ticks 8 = .ok (.ifCond .lt 9, 3) := by decide +kernel
theorem dX10_ticks_11 : decode cX10_ticks 11 = .ok (.iload_n 2, 1) := by decide +kernel
theorem dX10_ticks_12 : decode cX10_ticks 12 = .ok (.bipush 8, 2) := by decide +kernel
theorem dX10_ticks_14 : decode cX10_ticks 14 = .ok (.if_icmp .lt 6, 3) := by decide +kernel
theorem dX10_ticks_17 : decode cX10_ticks 17 = .ok (.bipush (-2), 2) := by decide +kernel
theorem dX10_ticks_19 : decode cX10_ticks 19 = .ok (.ireturn, 1) := by decide +kernel
theorem dX10_ticks_20 : decode cX10_ticks 20 = .ok (.iload_n 1, 1) := by decide +kernel
theorem dX10_ticks_21 : decode cX10_ticks 21 = .ok (.iload_n 2, 1) := by decide +kernel
theorem dX10_ticks_22 : decode cX10_ticks 22 = .ok (.invokestatic 148, 3) := by decide +kernel
theorem dX10_ticks_25 : decode cX10_ticks 25 = .ok (.ireturn, 1) := by decide +kernel
theorem dX10_kindTold_0 : decode cX10_kindTold 0 = .ok (.iload_n 1, 1) := by decide +kernel
theorem dX10_kindTold_1 : decode cX10_kindTold 1 = .ok (.invokestatic 70, 3) := by decide +kernel
theorem dX10_kindTold_4 : decode cX10_kindTold 4 = .ok (.ifCond .ne 6, 3) := by decide +kernel
theorem dX10_kindTold_7 : decode cX10_kindTold 7 = .ok (.bipush (-2), 2) := by decide +kernel
theorem dX10_kindTold_9 : decode cX10_kindTold 9 = .ok (.ireturn, 1) := by decide +kernel
theorem dX10_kindTold_10 : decode cX10_kindTold 10 = .ok (.iload_n 2, 1) := by decide +kernel
theorem dX10_kindTold_11 : decode cX10_kindTold 11 = .ok (.ifCond .ne 8, 3) := by decide +kernel
theorem dX10_kindTold_14 : decode cX10_kindTold 14 = .ok (.iload_n 1, 1) := by decide +kernel
theorem dX10_kindTold_15 : decode cX10_kindTold 15 = .ok (.invokestatic 151, 3) := by decide +kernel
theorem dX10_kindTold_18 : decode cX10_kindTold 18 = .ok (.ireturn, 1) := by decide +kernel
theorem dX10_kindTold_19 : decode cX10_kindTold 19 = .ok (.iload_n 2, 1) := by decide +kernel
theorem dX10_kindTold_20 : decode cX10_kindTold 20 = .ok (.iconst 1, 1) := by decide +kernel
theorem dX10_kindTold_21 : decode cX10_kindTold 21 = .ok (.if_icmp .ne 10, 3) := by decide +kernel
theorem dX10_kindTold_24 : decode cX10_kindTold 24 = .ok (.iload_n 1, 1) := by decide +kernel
theorem dX10_kindTold_25 : decode cX10_kindTold 25 = .ok (.invokestatic 154, 3) := by decide +kernel
theorem dX10_kindTold_28 : decode cX10_kindTold 28 = .ok (.goto 5, 3) := by decide +kernel
theorem dX10_kindTold_31 : decode cX10_kindTold 31 = .ok (.bipush (-2), 2) := by decide +kernel
theorem dX10_kindTold_33 : decode cX10_kindTold 33 = .ok (.ireturn, 1) := by decide +kernel
theorem dX10_trucks_0 : decode cX10_trucks 0 = .ok (.iload_n 1, 1) := by decide +kernel
theorem dX10_trucks_1 : decode cX10_trucks 1 = .ok (.ifCond .lt 8, 3) := by decide +kernel
theorem dX10_trucks_4 : decode cX10_trucks 4 = .ok (.iload_n 1, 1) := by decide +kernel
theorem dX10_trucks_5 : decode cX10_trucks 5 = .ok (.iconst 5, 1) := by decide +kernel
theorem dX10_trucks_6 : decode cX10_trucks 6 = .ok (.if_icmp .lt 6, 3) := by decide +kernel
theorem dX10_trucks_9 : decode cX10_trucks 9 = .ok (.bipush (-3), 2) := by decide +kernel
theorem dX10_trucks_11 : decode cX10_trucks 11 = .ok (.ireturn, 1) := by decide +kernel
theorem dX10_trucks_12 : decode cX10_trucks 12 = .ok (.iload_n 2, 1) := by decide +kernel
theorem dX10_trucks_13 : decode cX10_trucks 13 = .ok (.ifCond .ne 13, 3) := by decide +kernel
theorem dX10_trucks_16 : decode cX10_trucks 16 = .ok (.aload_n 0, 1) := by decide +kernel
theorem dX10_trucks_17 : decode cX10_trucks 17 = .ok (.getfield 25, 3) := by decide +kernel
theorem dX10_trucks_20 : decode cX10_trucks 20 = .ok (.getfield 67, 3) := by decide +kernel
theorem dX10_trucks_23 : decode cX10_trucks 23 = .ok (.iload_n 1, 1) := by decide +kernel
theorem dX10_trucks_24 : decode cX10_trucks 24 = .ok (.iaload, 1) := by decide +kernel
theorem dX10_trucks_25 : decode cX10_trucks 25 = .ok (.ireturn, 1) := by decide +kernel
theorem dX10_trucks_26 : decode cX10_trucks 26 = .ok (.iload_n 2, 1) := by decide +kernel
theorem dX10_trucks_27 : decode cX10_trucks 27 = .ok (.iconst 1, 1) := by decide +kernel
theorem dX10_trucks_28 : decode cX10_trucks 28 = .ok (.if_icmp .ne 15, 3) := by decide +kernel
theorem dX10_trucks_31 : decode cX10_trucks 31 = .ok (.aload_n 0, 1) := by decide +kernel
theorem dX10_trucks_32 : decode cX10_trucks 32 = .ok (.getfield 25, 3) := by decide +kernel
theorem dX10_trucks_35 : decode cX10_trucks 35 = .ok (.getfield 63, 3) := by decide +kernel
theorem dX10_trucks_38 : decode cX10_trucks 38 = .ok (.iload_n 1, 1) := by decide +kernel
theorem dX10_trucks_39 : decode cX10_trucks 39 = .ok (.iaload, 1) := by decide +kernel
theorem dX10_trucks_40 : decode cX10_trucks 40 = .ok (.goto 5, 3) := by decide +kernel
theorem dX10_trucks_43 : decode cX10_trucks 43 = .ok (.bipush (-2), 2) := by decide +kernel
theorem dX10_trucks_45 : decode cX10_trucks 45 = .ok (.ireturn, 1) := by decide +kernel
theorem dX10_beside_0 : decode cX10_beside 0 = .ok (.iload_n 2, 1) := by decide +kernel
theorem dX10_beside_1 : decode cX10_beside 1 = .ok (.ifCond .lt 8, 3) := by decide +kernel
theorem dX10_beside_4 : decode cX10_beside 4 = .ok (.iload_n 2, 1) := by decide +kernel
theorem dX10_beside_5 : decode cX10_beside 5 = .ok (.iconst 5, 1) := by decide +kernel
theorem dX10_beside_6 : decode cX10_beside 6 = .ok (.if_icmp .lt 6, 3) := by decide +kernel
theorem dX10_beside_9 : decode cX10_beside 9 = .ok (.bipush (-2), 2) := by decide +kernel
theorem dX10_beside_11 : decode cX10_beside 11 = .ok (.ireturn, 1) := by decide +kernel
theorem dX10_beside_12 : decode cX10_beside 12 = .ok (.aload_n 0, 1) := by decide +kernel
theorem dX10_beside_13 : decode cX10_beside 13 = .ok (.iload_n 1, 1) := by decide +kernel
theorem dX10_beside_14 : decode cX10_beside 14 = .ok (.sipush 200, 3) := by decide +kernel
theorem dX10_beside_17 : decode cX10_beside 17 = .ok (.invokevirtual 113, 3) := by decide +kernel
theorem dX10_beside_20 : decode cX10_beside 20 = .ok (.istore_n 3, 1) := by decide +kernel
theorem dX10_beside_21 : decode cX10_beside 21 = .ok (.iload_n 3, 1) := by decide +kernel
theorem dX10_beside_22 : decode cX10_beside 22 = .ok (.ifCond .eq 5, 3) := by decide +kernel
theorem dX10_beside_25 : decode cX10_beside 25 = .ok (.iload_n 3, 1) := by decide +kernel
theorem dX10_beside_26 : decode cX10_beside 26 = .ok (.ireturn, 1) := by decide +kernel
theorem dX10_beside_27 : decode cX10_beside 27 = .ok (.aload_n 0, 1) := by decide +kernel
theorem dX10_beside_28 : decode cX10_beside 28 = .ok (.getfield 29, 3) := by decide +kernel
theorem dX10_beside_31 : decode cX10_beside 31 = .ok (.aload_n 0, 1) := by decide +kernel
theorem dX10_beside_32 : decode cX10_beside 32 = .ok (.getfield 25, 3) := by decide +kernel
theorem dX10_beside_35 : decode cX10_beside 35 = .ok (.invokevirtual 157, 3) := by decide +kernel
theorem dX10_beside_38 : decode cX10_beside 38 = .ok (.iconst 0, 1) := by decide +kernel
theorem dX10_beside_39 : decode cX10_beside 39 = .ok (.istore 4, 2) := by decide +kernel
theorem dX10_beside_41 : decode cX10_beside 41 = .ok (.iload 4, 2) := by decide +kernel
theorem dX10_beside_43 : decode cX10_beside 43 = .ok (.iload_n 1, 1) := by decide +kernel
theorem dX10_beside_44 : decode cX10_beside 44 = .ok (.if_icmp .ge 16, 3) := by decide +kernel
theorem dX10_beside_47 : decode cX10_beside 47 = .ok (.aload_n 0, 1) := by decide +kernel
theorem dX10_beside_48 : decode cX10_beside 48 = .ok (.getfield 29, 3) := by decide +kernel
theorem dX10_beside_51 : decode cX10_beside 51 = .ok (.invokevirtual 117, 3) := by decide +kernel
theorem dX10_beside_54 : decode cX10_beside 54 = .ok (.iinc 4 1, 3) := by decide +kernel
theorem dX10_beside_57 : decode cX10_beside 57 = .ok (.goto (-16), 3) := by decide +kernel
theorem dX10_beside_60 : decode cX10_beside 60 = .ok (.aload_n 0, 1) := by decide +kernel
theorem dX10_beside_61 : decode cX10_beside 61 = .ok (.getfield 29, 3) := by decide +kernel
theorem dX10_beside_64 : decode cX10_beside 64 = .ok (.iload_n 2, 1) := by decide +kernel
theorem dX10_beside_65 : decode cX10_beside 65 = .ok (.invokevirtual 161, 3) := by decide +kernel
theorem dX10_beside_68 : decode cX10_beside 68 = .ok (.ireturn, 1) := by decide +kernel
theorem dX10_areAhead_0 : decode cX10_areAhead 0 = .ok (.iconst 0, 1) := by decide +kernel
theorem dX10_areAhead_1 : decode cX10_areAhead 1 = .ok (.istore_n 2, 1) := by decide +kernel
theorem dX10_areAhead_2 : decode cX10_areAhead 2 = .ok (.iload_n 2, 1) := by decide +kernel
theorem dX10_areAhead_3 : decode cX10_areAhead 3 = .ok (.aload_n 0, 1) := by decide +kernel
theorem dX10_areAhead_4 : decode cX10_areAhead 4 = .ok (.getfield 25, 3) := by decide +kernel
theorem dX10_areAhead_7 : decode cX10_areAhead 7 = .ok (.getfield 193, 3) := by decide +kernel
theorem dX10_areAhead_10 : decode cX10_areAhead 10 = .ok (.if_icmp .ge 35, 3) := by decide +kernel
theorem dX10_areAhead_13 : decode cX10_areAhead 13 = .ok (.iload_n 1, 1) := by decide +kernel
theorem dX10_areAhead_14 : decode cX10_areAhead 14 = .ok (.iload_n 2, 1) := by decide +kernel
theorem dX10_areAhead_15 : decode cX10_areAhead 15 = .ok (.ishr, 1) := by decide +kernel
theorem dX10_areAhead_16 : decode cX10_areAhead 16 = .ok (.iconst 1, 1) := by decide +kernel
theorem dX10_areAhead_17 : decode cX10_areAhead 17 = .ok (.iand, 1) := by decide +kernel
theorem dX10_areAhead_18 : decode cX10_areAhead 18 = .ok (.iconst 1, 1) := by decide +kernel
theorem dX10_areAhead_19 : decode cX10_areAhead 19 = .ok (.if_icmp .ne 20, 3) := by decide +kernel
theorem dX10_areAhead_22 : decode cX10_areAhead 22 = .ok (.aload_n 0, 1) := by decide +kernel
theorem dX10_areAhead_23 : decode cX10_areAhead 23 = .ok (.getfield 25, 3) := by decide +kernel
theorem dX10_areAhead_26 : decode cX10_areAhead 26 = .ok (.getfield 85, 3) := by decide +kernel
theorem dX10_areAhead_29 : decode cX10_areAhead 29 = .ok (.iload_n 2, 1) := by decide +kernel
theorem dX10_areAhead_30 : decode cX10_areAhead 30 = .ok (.aaload, 1) := by decide +kernel
theorem dX10_areAhead_31 : decode cX10_areAhead 31 = .ok (.invokevirtual 103, 3) := by decide +kernel
theorem dX10_areAhead_34 : decode cX10_areAhead 34 = .ok (.ifCond .ne 5, 3) := by decide +kernel
theorem dX10_areAhead_37 : decode cX10_areAhead 37 = .ok (.iconst 0, 1) := by decide +kernel
theorem dX10_areAhead_38 : decode cX10_areAhead 38 = .ok (.ireturn, 1) := by decide +kernel
theorem dX10_areAhead_39 : decode cX10_areAhead 39 = .ok (.iinc 2 1, 3) := by decide +kernel
theorem dX10_areAhead_42 : decode cX10_areAhead 42 = .ok (.goto (-40), 3) := by decide +kernel
theorem dX10_areAhead_45 : decode cX10_areAhead 45 = .ok (.iconst 1, 1) := by decide +kernel
theorem dX10_areAhead_46 : decode cX10_areAhead 46 = .ok (.ireturn, 1) := by decide +kernel
theorem dX10_refusedPlan_0 : decode cX10_refusedPlan 0 = .ok (.iload_n 1, 1) := by decide +kernel
theorem dX10_refusedPlan_1 : decode cX10_refusedPlan 1 = .ok (.ifCond .eq 15, 3) := by decide +kernel
theorem dX10_refusedPlan_4 : decode cX10_refusedPlan 4 = .ok (.iload_n 1, 1) := by decide +kernel
theorem dX10_refusedPlan_5 : decode cX10_refusedPlan 5 = .ok (.aload_n 0, 1) := by decide +kernel
theorem dX10_refusedPlan_6 : decode cX10_refusedPlan 6 = .ok (.getfield 25, 3) := by decide +kernel
theorem dX10_refusedPlan_9 : decode cX10_refusedPlan 9 = .ok (.getfield 193, 3) := by decide +kernel
theorem dX10_refusedPlan_12 : decode cX10_refusedPlan 12 = .ok (.iushr, 1) := by decide +kernel
theorem dX10_refusedPlan_13 : decode cX10_refusedPlan 13 = .ok (.ifCond .eq 5, 3) := by decide +kernel
theorem dX10_refusedPlan_16 : decode cX10_refusedPlan 16 = .ok (.iconst (-1), 1) := by decide +kernel
theorem dX10_refusedPlan_17 : decode cX10_refusedPlan 17 = .ok (.ireturn, 1) := by decide +kernel
theorem dX10_refusedPlan_18 : decode cX10_refusedPlan 18 = .ok (.aload_n 0, 1) := by decide +kernel
theorem dX10_refusedPlan_19 : decode cX10_refusedPlan 19 = .ok (.iload_n 2, 1) := by decide +kernel
theorem dX10_refusedPlan_20 : decode cX10_refusedPlan 20 = .ok (.bipush 40, 2) := by decide +kernel
theorem dX10_refusedPlan_22 : decode cX10_refusedPlan 22 = .ok (.invokevirtual 113, 3) := by decide +kernel
theorem dX10_refusedPlan_25 : decode cX10_refusedPlan 25 = .ok (.istore_n 3, 1) := by decide +kernel
theorem dX10_refusedPlan_26 : decode cX10_refusedPlan 26 = .ok (.iload_n 3, 1) := by decide +kernel
theorem dX10_refusedPlan_27 : decode cX10_refusedPlan 27 = .ok (.bipush (-2), 2) := by decide +kernel
theorem dX10_refusedPlan_29 : decode cX10_refusedPlan 29 = .ok (.if_icmp .eq 11, 3) := by decide +kernel
theorem dX10_refusedPlan_32 : decode cX10_refusedPlan 32 = .ok (.iload_n 1, 1) := by decide +kernel
theorem dX10_refusedPlan_33 : decode cX10_refusedPlan 33 = .ok (.invokestatic 196, 3) := by decide +kernel
theorem dX10_refusedPlan_36 : decode cX10_refusedPlan 36 = .ok (.iconst 2, 1) := by decide +kernel
theorem dX10_refusedPlan_37 : decode cX10_refusedPlan 37 = .ok (.if_icmp .le 6, 3) := by decide +kernel
theorem dX10_refusedPlan_40 : decode cX10_refusedPlan 40 = .ok (.bipush (-2), 2) := by decide +kernel
theorem dX10_refusedPlan_42 : decode cX10_refusedPlan 42 = .ok (.ireturn, 1) := by decide +kernel
theorem dX10_refusedPlan_43 : decode cX10_refusedPlan 43 = .ok (.aload_n 0, 1) := by decide +kernel
theorem dX10_refusedPlan_44 : decode cX10_refusedPlan 44 = .ok (.iload_n 1, 1) := by decide +kernel
theorem dX10_refusedPlan_45 : decode cX10_refusedPlan 45 = .ok (.invokevirtual 190, 3) := by decide +kernel
theorem dX10_refusedPlan_48 : decode cX10_refusedPlan 48 = .ok (.ifCond .eq 7, 3) := by decide +kernel
theorem dX10_refusedPlan_51 : decode cX10_refusedPlan 51 = .ok (.iload_n 3, 1) := by decide +kernel
theorem dX10_refusedPlan_52 : decode cX10_refusedPlan 52 = .ok (.goto 5, 3) := by decide +kernel
theorem dX10_refusedPlan_55 : decode cX10_refusedPlan 55 = .ok (.bipush (-3), 2) := by decide +kernel
theorem dX10_refusedPlan_57 : decode cX10_refusedPlan 57 = .ok (.ireturn, 1) := by decide +kernel
theorem dX10_lowest_0 : decode cX10_lowest 0 = .ok (.iconst 0, 1) := by decide +kernel
theorem dX10_lowest_1 : decode cX10_lowest 1 = .ok (.istore_n 2, 1) := by decide +kernel
theorem dX10_lowest_2 : decode cX10_lowest 2 = .ok (.iload_n 2, 1) := by decide +kernel
theorem dX10_lowest_3 : decode cX10_lowest 3 = .ok (.aload_n 0, 1) := by decide +kernel
theorem dX10_lowest_4 : decode cX10_lowest 4 = .ok (.getfield 25, 3) := by decide +kernel
theorem dX10_lowest_7 : decode cX10_lowest 7 = .ok (.getfield 193, 3) := by decide +kernel
theorem dX10_lowest_10 : decode cX10_lowest 10 = .ok (.if_icmp .ge 20, 3) := by decide +kernel
theorem dX10_lowest_13 : decode cX10_lowest 13 = .ok (.iload_n 1, 1) := by decide +kernel
theorem dX10_lowest_14 : decode cX10_lowest 14 = .ok (.iload_n 2, 1) := by decide +kernel
theorem dX10_lowest_15 : decode cX10_lowest 15 = .ok (.ishr, 1) := by decide +kernel
theorem dX10_lowest_16 : decode cX10_lowest 16 = .ok (.iconst 1, 1) := by decide +kernel
theorem dX10_lowest_17 : decode cX10_lowest 17 = .ok (.iand, 1) := by decide +kernel
theorem dX10_lowest_18 : decode cX10_lowest 18 = .ok (.iconst 1, 1) := by decide +kernel
theorem dX10_lowest_19 : decode cX10_lowest 19 = .ok (.if_icmp .ne 5, 3) := by decide +kernel
theorem dX10_lowest_22 : decode cX10_lowest 22 = .ok (.iload_n 2, 1) := by decide +kernel
theorem dX10_lowest_23 : decode cX10_lowest 23 = .ok (.ireturn, 1) := by decide +kernel
theorem dX10_lowest_24 : decode cX10_lowest 24 = .ok (.iinc 2 1, 3) := by decide +kernel
theorem dX10_lowest_27 : decode cX10_lowest 27 = .ok (.goto (-25), 3) := by decide +kernel
theorem dX10_lowest_30 : decode cX10_lowest 30 = .ok (.iconst (-1), 1) := by decide +kernel
theorem dX10_lowest_31 : decode cX10_lowest 31 = .ok (.ireturn, 1) := by decide +kernel
theorem dX10_lateWith_0 : decode cX10_lateWith 0 = .ok (.aload_n 0, 1) := by decide +kernel
theorem dX10_lateWith_1 : decode cX10_lateWith 1 = .ok (.getfield 29, 3) := by decide +kernel
theorem dX10_lateWith_4 : decode cX10_lateWith 4 = .ok (.aload_n 0, 1) := by decide +kernel
theorem dX10_lateWith_5 : decode cX10_lateWith 5 = .ok (.getfield 25, 3) := by decide +kernel
theorem dX10_lateWith_8 : decode cX10_lateWith 8 = .ok (.invokevirtual 157, 3) := by decide +kernel
theorem dX10_lateWith_11 : decode cX10_lateWith 11 = .ok (.aload_n 0, 1) := by decide +kernel
theorem dX10_lateWith_12 : decode cX10_lateWith 12 = .ok (.getfield 29, 3) := by decide +kernel
theorem dX10_lateWith_15 : decode cX10_lateWith 15 = .ok (.getfield 85, 3) := by decide +kernel
theorem dX10_lateWith_18 : decode cX10_lateWith 18 = .ok (.iload_n 1, 1) := by decide +kernel
theorem dX10_lateWith_19 : decode cX10_lateWith 19 = .ok (.aaload, 1) := by decide +kernel
theorem dX10_lateWith_20 : decode cX10_lateWith 20 = .ok (.iload_n 2, 1) := by decide +kernel
theorem dX10_lateWith_21 : decode cX10_lateWith 21 = .ok (.putfield 107, 3) := by decide +kernel
theorem dX10_lateWith_24 : decode cX10_lateWith 24 = .ok (.iload_n 3, 1) := by decide +kernel
theorem dX10_lateWith_25 : decode cX10_lateWith 25 = .ok (.ifCond .lt 17, 3) := by decide +kernel
theorem dX10_lateWith_28 : decode cX10_lateWith 28 = .ok (.aload_n 0, 1) := by decide +kernel
theorem dX10_lateWith_29 : decode cX10_lateWith 29 = .ok (.getfield 29, 3) := by decide +kernel
theorem dX10_lateWith_32 : decode cX10_lateWith 32 = .ok (.getfield 85, 3) := by decide +kernel
theorem dX10_lateWith_35 : decode cX10_lateWith 35 = .ok (.iload_n 3, 1) := by decide +kernel
theorem dX10_lateWith_36 : decode cX10_lateWith 36 = .ok (.aaload, 1) := by decide +kernel
theorem dX10_lateWith_37 : decode cX10_lateWith 37 = .ok (.iload 4, 2) := by decide +kernel
theorem dX10_lateWith_39 : decode cX10_lateWith 39 = .ok (.putfield 107, 3) := by decide +kernel
theorem dX10_lateWith_42 : decode cX10_lateWith 42 = .ok (.iconst 0, 1) := by decide +kernel
theorem dX10_lateWith_43 : decode cX10_lateWith 43 = .ok (.istore 6, 2) := by decide +kernel
theorem dX10_lateWith_45 : decode cX10_lateWith 45 = .ok (.iload 6, 2) := by decide +kernel
theorem dX10_lateWith_47 : decode cX10_lateWith 47 = .ok (.iload 5, 2) := by decide +kernel
theorem dX10_lateWith_49 : decode cX10_lateWith 49 = .ok (.if_icmp .ge 16, 3) := by decide +kernel
theorem dX10_lateWith_52 : decode cX10_lateWith 52 = .ok (.aload_n 0, 1) := by decide +kernel
theorem dX10_lateWith_53 : decode cX10_lateWith 53 = .ok (.getfield 29, 3) := by decide +kernel
theorem dX10_lateWith_56 : decode cX10_lateWith 56 = .ok (.invokevirtual 117, 3) := by decide +kernel
theorem dX10_lateWith_59 : decode cX10_lateWith 59 = .ok (.iinc 6 1, 3) := by decide +kernel
theorem dX10_lateWith_62 : decode cX10_lateWith 62 = .ok (.goto (-17), 3) := by decide +kernel
theorem dX10_lateWith_65 : decode cX10_lateWith 65 = .ok (.aload_n 0, 1) := by decide +kernel
theorem dX10_lateWith_66 : decode cX10_lateWith 66 = .ok (.getfield 29, 3) := by decide +kernel
theorem dX10_lateWith_69 : decode cX10_lateWith 69 = .ok (.invokevirtual 274, 3) := by decide +kernel
theorem dX10_lateWith_72 : decode cX10_lateWith 72 = .ok (.ireturn, 1) := by decide +kernel
theorem dX10_plan_0 : decode cX10_plan 0 = .ok (.aload_n 0, 1) := by decide +kernel
theorem dX10_plan_1 : decode cX10_plan 1 = .ok (.iload_n 1, 1) := by decide +kernel
theorem dX10_plan_2 : decode cX10_plan 2 = .ok (.iload_n 2, 1) := by decide +kernel
theorem dX10_plan_3 : decode cX10_plan 3 = .ok (.invokevirtual 164, 3) := by decide +kernel
theorem dX10_plan_6 : decode cX10_plan 6 = .ok (.istore_n 3, 1) := by decide +kernel
theorem dX10_plan_7 : decode cX10_plan 7 = .ok (.iload_n 3, 1) := by decide +kernel
theorem dX10_plan_8 : decode cX10_plan 8 = .ok (.ifCond .eq 5, 3) := by decide +kernel
theorem dX10_plan_11 : decode cX10_plan 11 = .ok (.iload_n 3, 1) := by decide +kernel
theorem dX10_plan_12 : decode cX10_plan 12 = .ok (.ireturn, 1) := by decide +kernel
theorem dX10_plan_13 : decode cX10_plan 13 = .ok (.aload_n 0, 1) := by decide +kernel
theorem dX10_plan_14 : decode cX10_plan 14 = .ok (.iload_n 1, 1) := by decide +kernel
theorem dX10_plan_15 : decode cX10_plan 15 = .ok (.invokevirtual 167, 3) := by decide +kernel
theorem dX10_plan_18 : decode cX10_plan 18 = .ok (.istore 4, 2) := by decide +kernel
theorem dX10_plan_20 : decode cX10_plan 20 = .ok (.aload_n 0, 1) := by decide +kernel
theorem dX10_plan_21 : decode cX10_plan 21 = .ok (.iload_n 1, 1) := by decide +kernel
theorem dX10_plan_22 : decode cX10_plan 22 = .ok (.iconst 1, 1) := by decide +kernel
theorem dX10_plan_23 : decode cX10_plan 23 = .ok (.iload 4, 2) := by decide +kernel
theorem dX10_plan_25 : decode cX10_plan 25 = .ok (.ishl, 1) := by decide +kernel
theorem dX10_plan_26 : decode cX10_plan 26 = .ok (.iconst (-1), 1) := by decide +kernel
theorem dX10_plan_27 : decode cX10_plan 27 = .ok (.ixor, 1) := by decide +kernel
theorem dX10_plan_28 : decode cX10_plan 28 = .ok (.iand, 1) := by decide +kernel
theorem dX10_plan_29 : decode cX10_plan 29 = .ok (.invokevirtual 167, 3) := by decide +kernel
theorem dX10_plan_32 : decode cX10_plan 32 = .ok (.istore 5, 2) := by decide +kernel
theorem dX10_plan_34 : decode cX10_plan 34 = .ok (.iload 5, 2) := by decide +kernel
theorem dX10_plan_36 : decode cX10_plan 36 = .ok (.ifCond .ge 7, 3) := by decide +kernel
theorem dX10_plan_39 : decode cX10_plan 39 = .ok (.iconst 0, 1) := by decide +kernel
theorem dX10_plan_40 : decode cX10_plan 40 = .ok (.goto 10, 3) := by decide +kernel
theorem dX10_plan_43 : decode cX10_plan 43 = .ok (.aload_n 0, 1) := by decide +kernel
theorem dX10_plan_44 : decode cX10_plan 44 = .ok (.getfield 25, 3) := by decide +kernel
theorem dX10_plan_47 : decode cX10_plan 47 = .ok (.getfield 170, 3) := by decide +kernel
theorem dX10_plan_50 : decode cX10_plan 50 = .ok (.istore 6, 2) := by decide +kernel
theorem dX10_plan_52 : decode cX10_plan 52 = .ok (.iconst (-1), 1) := by decide +kernel
theorem dX10_plan_53 : decode cX10_plan 53 = .ok (.istore 7, 2) := by decide +kernel
theorem dX10_plan_55 : decode cX10_plan 55 = .ok (.iconst (-1), 1) := by decide +kernel
theorem dX10_plan_56 : decode cX10_plan 56 = .ok (.istore 8, 2) := by decide +kernel
theorem dX10_plan_58 : decode cX10_plan 58 = .ok (.iload 8, 2) := by decide +kernel
theorem dX10_plan_60 : decode cX10_plan 60 = .ok (.aload_n 0, 1) := by decide +kernel
theorem dX10_plan_61 : decode cX10_plan 61 = .ok (.getfield 25, 3) := by decide +kernel
theorem dX10_plan_64 : decode cX10_plan 64 = .ok (.getfield 170, 3) := by decide +kernel
theorem dX10_plan_67 : decode cX10_plan 67 = .ok (.if_icmp .ge 106, 3) := by decide +kernel
theorem dX10_plan_70 : decode cX10_plan 70 = .ok (.iconst (-1), 1) := by decide +kernel
theorem dX10_plan_71 : decode cX10_plan 71 = .ok (.istore 9, 2) := by decide +kernel
theorem dX10_plan_73 : decode cX10_plan 73 = .ok (.iload 9, 2) := by decide +kernel
theorem dX10_plan_75 : decode cX10_plan 75 = .ok (.iload 6, 2) := by decide +kernel
theorem dX10_plan_77 : decode cX10_plan 77 = .ok (.if_icmp .ge 90, 3) := by decide +kernel
theorem dX10_plan_80 : decode cX10_plan 80 = .ok (.aload_n 0, 1) := by decide +kernel
theorem dX10_plan_81 : decode cX10_plan 81 = .ok (.getfield 25, 3) := by decide +kernel
theorem dX10_plan_84 : decode cX10_plan 84 = .ok (.iload 4, 2) := by decide +kernel
theorem dX10_plan_86 : decode cX10_plan 86 = .ok (.iload 8, 2) := by decide +kernel
theorem dX10_plan_88 : decode cX10_plan 88 = .ok (.invokevirtual 100, 3) := by decide +kernel
theorem dX10_plan_91 : decode cX10_plan 91 = .ok (.ifCond .eq 70, 3) := by decide +kernel
theorem dX10_plan_94 : decode cX10_plan 94 = .ok (.iload 5, 2) := by decide +kernel
theorem dX10_plan_96 : decode cX10_plan 96 = .ok (.ifCond .lt 20, 3) := by decide +kernel
theorem dX10_plan_99 : decode cX10_plan 99 = .ok (.aload_n 0, 1) := by decide +kernel
theorem dX10_plan_100 : decode cX10_plan 100 = .ok (.getfield 25, 3) := by decide +kernel
theorem dX10_plan_103 : decode cX10_plan 103 = .ok (.iload 5, 2) := by decide +kernel
theorem dX10_plan_105 : decode cX10_plan 105 = .ok (.iload 9, 2) := by decide +kernel
theorem dX10_plan_107 : decode cX10_plan 107 = .ok (.invokevirtual 100, 3) := by decide +kernel
theorem dX10_plan_110 : decode cX10_plan 110 = .ok (.ifCond .ne 6, 3) := by decide +kernel
theorem dX10_plan_113 : decode cX10_plan 113 = .ok (.goto 48, 3) := by decide +kernel
theorem dX10_plan_116 : decode cX10_plan 116 = .ok (.aload_n 0, 1) := by decide +kernel
theorem dX10_plan_117 : decode cX10_plan 117 = .ok (.iload 4, 2) := by decide +kernel
theorem dX10_plan_119 : decode cX10_plan 119 = .ok (.iload 8, 2) := by decide +kernel
theorem dX10_plan_121 : decode cX10_plan 121 = .ok (.iload 5, 2) := by decide +kernel
theorem dX10_plan_123 : decode cX10_plan 123 = .ok (.iload 9, 2) := by decide +kernel
theorem dX10_plan_125 : decode cX10_plan 125 = .ok (.iload_n 2, 1) := by decide +kernel
theorem dX10_plan_126 : decode cX10_plan 126 = .ok (.invokevirtual 173, 3) := by decide +kernel
theorem dX10_plan_129 : decode cX10_plan 129 = .ok (.istore 10, 2) := by decide +kernel
theorem dX10_plan_131 : decode cX10_plan 131 = .ok (.iload 7, 2) := by decide +kernel
theorem dX10_plan_133 : decode cX10_plan 133 = .ok (.ifCond .lt 10, 3) := by decide +kernel
theorem dX10_plan_136 : decode cX10_plan 136 = .ok (.iload 10, 2) := by decide +kernel
theorem dX10_plan_138 : decode cX10_plan 138 = .ok (.iload 7, 2) := by decide +kernel
theorem dX10_plan_140 : decode cX10_plan 140 = .ok (.if_icmp .ge 21, 3) := by decide +kernel
theorem dX10_plan_143 : decode cX10_plan 143 = .ok (.iload 10, 2) := by decide +kernel
theorem dX10_plan_145 : decode cX10_plan 145 = .ok (.istore 7, 2) := by decide +kernel
theorem dX10_plan_147 : decode cX10_plan 147 = .ok (.aload_n 0, 1) := by decide +kernel
theorem dX10_plan_148 : decode cX10_plan 148 = .ok (.getfield 35, 3) := by decide +kernel
theorem dX10_plan_151 : decode cX10_plan 151 = .ok (.iload_n 1, 1) := by decide +kernel
theorem dX10_plan_152 : decode cX10_plan 152 = .ok (.iload 4, 2) := by decide +kernel
theorem dX10_plan_154 : decode cX10_plan 154 = .ok (.iload 8, 2) := by decide +kernel
theorem dX10_plan_156 : decode cX10_plan 156 = .ok (.iload 9, 2) := by decide +kernel
theorem dX10_plan_158 : decode cX10_plan 158 = .ok (.invokevirtual 177, 3) := by decide +kernel
theorem dX10_plan_161 : decode cX10_plan 161 = .ok (.iinc 9 1, 3) := by decide +kernel
theorem dX10_plan_164 : decode cX10_plan 164 = .ok (.goto (-91), 3) := by decide +kernel
theorem dX10_plan_167 : decode cX10_plan 167 = .ok (.iinc 8 1, 3) := by decide +kernel
theorem dX10_plan_170 : decode cX10_plan 170 = .ok (.goto (-112), 3) := by decide +kernel
theorem dX10_plan_173 : decode cX10_plan 173 = .ok (.iload 7, 2) := by decide +kernel
theorem dX10_plan_175 : decode cX10_plan 175 = .ok (.ireturn, 1) := by decide +kernel
theorem dX10_planned_0 : decode cX10_planned 0 = .ok (.aload_n 0, 1) := by decide +kernel
theorem dX10_planned_1 : decode cX10_planned 1 = .ok (.getfield 35, 3) := by decide +kernel
theorem dX10_planned_4 : decode cX10_planned 4 = .ok (.iload_n 1, 1) := by decide +kernel
theorem dX10_planned_5 : decode cX10_planned 5 = .ok (.invokevirtual 181, 3) := by decide +kernel
theorem dX10_planned_8 : decode cX10_planned 8 = .ok (.ifCond .eq 14, 3) := by decide +kernel
theorem dX10_planned_11 : decode cX10_planned 11 = .ok (.aload_n 0, 1) := by decide +kernel
theorem dX10_planned_12 : decode cX10_planned 12 = .ok (.getfield 35, 3) := by decide +kernel
theorem dX10_planned_15 : decode cX10_planned 15 = .ok (.iload_n 1, 1) := by decide +kernel
theorem dX10_planned_16 : decode cX10_planned 16 = .ok (.invokevirtual 184, 3) := by decide +kernel
theorem dX10_planned_19 : decode cX10_planned 19 = .ok (.goto 5, 3) := by decide +kernel
theorem dX10_planned_22 : decode cX10_planned 22 = .ok (.bipush (-3), 2) := by decide +kernel
theorem dX10_planned_24 : decode cX10_planned 24 = .ok (.ireturn, 1) := by decide +kernel
theorem dX10_settle_0 : decode cX10_settle 0 = .ok (.aload_n 0, 1) := by decide +kernel
theorem dX10_settle_1 : decode cX10_settle 1 = .ok (.aload_n 0, 1) := by decide +kernel
theorem dX10_settle_2 : decode cX10_settle 2 = .ok (.getfield 35, 3) := by decide +kernel
theorem dX10_settle_5 : decode cX10_settle 5 = .ok (.getfield 187, 3) := by decide +kernel
theorem dX10_settle_8 : decode cX10_settle 8 = .ok (.invokevirtual 190, 3) := by decide +kernel
theorem dX10_settle_11 : decode cX10_settle 11 = .ok (.ifCond .ne 6, 3) := by decide +kernel
theorem dX10_settle_14 : decode cX10_settle 14 = .ok (.bipush (-3), 2) := by decide +kernel
theorem dX10_settle_16 : decode cX10_settle 16 = .ok (.ireturn, 1) := by decide +kernel
theorem dX10_settle_17 : decode cX10_settle 17 = .ok (.iconst 0, 1) := by decide +kernel
theorem dX10_settle_18 : decode cX10_settle 18 = .ok (.istore_n 1, 1) := by decide +kernel
theorem dX10_settle_19 : decode cX10_settle 19 = .ok (.iload_n 1, 1) := by decide +kernel
theorem dX10_settle_20 : decode cX10_settle 20 = .ok (.aload_n 0, 1) := by decide +kernel
theorem dX10_settle_21 : decode cX10_settle 21 = .ok (.getfield 25, 3) := by decide +kernel
theorem dX10_settle_24 : decode cX10_settle 24 = .ok (.getfield 193, 3) := by decide +kernel
theorem dX10_settle_27 : decode cX10_settle 27 = .ok (.if_icmp .ge 40, 3) := by decide +kernel
theorem dX10_settle_30 : decode cX10_settle 30 = .ok (.aload_n 0, 1) := by decide +kernel
theorem dX10_settle_31 : decode cX10_settle 31 = .ok (.getfield 35, 3) := by decide +kernel
theorem dX10_settle_34 : decode cX10_settle 34 = .ok (.iload_n 1, 1) := by decide +kernel
theorem dX10_settle_35 : decode cX10_settle 35 = .ok (.invokevirtual 181, 3) := by decide +kernel
theorem dX10_settle_38 : decode cX10_settle 38 = .ok (.ifCond .eq 23, 3) := by decide +kernel
theorem dX10_settle_41 : decode cX10_settle 41 = .ok (.aload_n 0, 1) := by decide +kernel
theorem dX10_settle_42 : decode cX10_settle 42 = .ok (.getfield 25, 3) := by decide +kernel
theorem dX10_settle_45 : decode cX10_settle 45 = .ok (.getfield 85, 3) := by decide +kernel
theorem dX10_settle_48 : decode cX10_settle 48 = .ok (.iload_n 1, 1) := by decide +kernel
theorem dX10_settle_49 : decode cX10_settle 49 = .ok (.aaload, 1) := by decide +kernel
theorem dX10_settle_50 : decode cX10_settle 50 = .ok (.aload_n 0, 1) := by decide +kernel
theorem dX10_settle_51 : decode cX10_settle 51 = .ok (.getfield 35, 3) := by decide +kernel
theorem dX10_settle_54 : decode cX10_settle 54 = .ok (.iload_n 1, 1) := by decide +kernel
theorem dX10_settle_55 : decode cX10_settle 55 = .ok (.invokevirtual 184, 3) := by decide +kernel
theorem dX10_settle_58 : decode cX10_settle 58 = .ok (.putfield 107, 3) := by decide +kernel
theorem dX10_settle_61 : decode cX10_settle 61 = .ok (.iinc 1 1, 3) := by decide +kernel
theorem dX10_settle_64 : decode cX10_settle 64 = .ok (.goto (-45), 3) := by decide +kernel
theorem dX10_settle_67 : decode cX10_settle 67 = .ok (.aload_n 0, 1) := by decide +kernel
theorem dX10_settle_68 : decode cX10_settle 68 = .ok (.getfield 35, 3) := by decide +kernel
theorem dX10_settle_71 : decode cX10_settle 71 = .ok (.getfield 187, 3) := by decide +kernel
theorem dX10_settle_74 : decode cX10_settle 74 = .ok (.invokestatic 196, 3) := by decide +kernel
theorem dX10_settle_77 : decode cX10_settle 77 = .ok (.ireturn, 1) := by decide +kernel
theorem dX10_estimate_0 : decode cX10_estimate 0 = .ok (.aload_n 0, 1) := by decide +kernel
theorem dX10_estimate_1 : decode cX10_estimate 1 = .ok (.getfield 25, 3) := by decide +kernel
theorem dX10_estimate_4 : decode cX10_estimate 4 = .ok (.iload_n 1, 1) := by decide +kernel
theorem dX10_estimate_5 : decode cX10_estimate 5 = .ok (.invokevirtual 82, 3) := by decide +kernel
theorem dX10_estimate_8 : decode cX10_estimate 8 = .ok (.ifCond .ne 5, 3) := by decide +kernel
theorem dX10_estimate_11 : decode cX10_estimate 11 = .ok (.iconst (-1), 1) := by decide +kernel
theorem dX10_estimate_12 : decode cX10_estimate 12 = .ok (.ireturn, 1) := by decide +kernel
theorem dX10_estimate_13 : decode cX10_estimate 13 = .ok (.iload_n 2, 1) := by decide +kernel
theorem dX10_estimate_14 : decode cX10_estimate 14 = .ok (.ifCond .lt 10, 3) := by decide +kernel
theorem dX10_estimate_17 : decode cX10_estimate 17 = .ok (.iload_n 2, 1) := by decide +kernel
theorem dX10_estimate_18 : decode cX10_estimate 18 = .ok (.sipush 9999, 3) := by decide +kernel
theorem dX10_estimate_21 : decode cX10_estimate 21 = .ok (.if_icmp .le 6, 3) := by decide +kernel
theorem dX10_estimate_24 : decode cX10_estimate 24 = .ok (.bipush (-2), 2) := by decide +kernel
theorem dX10_estimate_26 : decode cX10_estimate 26 = .ok (.ireturn, 1) := by decide +kernel
theorem dX10_estimate_27 : decode cX10_estimate 27 = .ok (.aload_n 0, 1) := by decide +kernel
theorem dX10_estimate_28 : decode cX10_estimate 28 = .ok (.getfield 42, 3) := by decide +kernel
theorem dX10_estimate_31 : decode cX10_estimate 31 = .ok (.iload_n 1, 1) := by decide +kernel
theorem dX10_estimate_32 : decode cX10_estimate 32 = .ok (.iload_n 2, 1) := by decide +kernel
theorem dX10_estimate_33 : decode cX10_estimate 33 = .ok (.aload_n 0, 1) := by decide +kernel
theorem dX10_estimate_34 : decode cX10_estimate 34 = .ok (.getfield 25, 3) := by decide +kernel
theorem dX10_estimate_37 : decode cX10_estimate 37 = .ok (.getfield 74, 3) := by decide +kernel
theorem dX10_estimate_40 : decode cX10_estimate 40 = .ok (.invokevirtual 201, 3) := by decide +kernel
theorem dX10_estimate_43 : decode cX10_estimate 43 = .ok (.ireturn, 1) := by decide +kernel
theorem dX10_thereBy_0 : decode cX10_thereBy 0 = .ok (.aload_n 0, 1) := by decide +kernel
theorem dX10_thereBy_1 : decode cX10_thereBy 1 = .ok (.getfield 25, 3) := by decide +kernel
theorem dX10_thereBy_4 : decode cX10_thereBy 4 = .ok (.getfield 85, 3) := by decide +kernel
theorem dX10_thereBy_7 : decode cX10_thereBy 7 = .ok (.iload_n 1, 1) := by decide +kernel
theorem dX10_thereBy_8 : decode cX10_thereBy 8 = .ok (.aaload, 1) := by decide +kernel
theorem dX10_thereBy_9 : decode cX10_thereBy 9 = .ok (.astore_n 3, 1) := by decide +kernel
theorem dX10_thereBy_10 : decode cX10_thereBy 10 = .ok (.aload_n 0, 1) := by decide +kernel
theorem dX10_thereBy_11 : decode cX10_thereBy 11 = .ok (.getfield 42, 3) := by decide +kernel
theorem dX10_thereBy_14 : decode cX10_thereBy 14 = .ok (.iload_n 1, 1) := by decide +kernel
theorem dX10_thereBy_15 : decode cX10_thereBy 15 = .ok (.iload_n 2, 1) := by decide +kernel
theorem dX10_thereBy_16 : decode cX10_thereBy 16 = .ok (.aload_n 3, 1) := by decide +kernel
theorem dX10_thereBy_17 : decode cX10_thereBy 17 = .ok (.getfield 314, 3) := by decide +kernel
theorem dX10_thereBy_20 : decode cX10_thereBy 20 = .ok (.invokevirtual 317, 3) := by decide +kernel
theorem dX10_thereBy_23 : decode cX10_thereBy 23 = .ok (.aload_n 3, 1) := by decide +kernel
theorem dX10_thereBy_24 : decode cX10_thereBy 24 = .ok (.getfield 211, 3) := by decide +kernel
theorem dX10_thereBy_27 : decode cX10_thereBy 27 = .ok (.invokestatic 154, 3) := by decide +kernel
theorem dX10_thereBy_30 : decode cX10_thereBy 30 = .ok (.iadd, 1) := by decide +kernel
theorem dX10_thereBy_31 : decode cX10_thereBy 31 = .ok (.iconst 4, 1) := by decide +kernel
theorem dX10_thereBy_32 : decode cX10_thereBy 32 = .ok (.iadd, 1) := by decide +kernel
theorem dX10_thereBy_33 : decode cX10_thereBy 33 = .ok (.ireturn, 1) := by decide +kernel
theorem dX10_expects_0 : decode cX10_expects 0 = .ok (.aload_n 0, 1) := by decide +kernel
theorem dX10_expects_1 : decode cX10_expects 1 = .ok (.getfield 25, 3) := by decide +kernel
theorem dX10_expects_4 : decode cX10_expects 4 = .ok (.iload_n 1, 1) := by decide +kernel
theorem dX10_expects_5 : decode cX10_expects 5 = .ok (.invokevirtual 82, 3) := by decide +kernel
theorem dX10_expects_8 : decode cX10_expects 8 = .ok (.ifCond .ne 5, 3) := by decide +kernel
theorem dX10_expects_11 : decode cX10_expects 11 = .ok (.iconst (-1), 1) := by decide +kernel
theorem dX10_expects_12 : decode cX10_expects 12 = .ok (.ireturn, 1) := by decide +kernel
theorem dX10_expects_13 : decode cX10_expects 13 = .ok (.iload_n 2, 1) := by decide +kernel
theorem dX10_expects_14 : decode cX10_expects 14 = .ok (.ifCond .lt 14, 3) := by decide +kernel
theorem dX10_expects_17 : decode cX10_expects 17 = .ok (.iload_n 2, 1) := by decide +kernel
theorem dX10_expects_18 : decode cX10_expects 18 = .ok (.aload_n 0, 1) := by decide +kernel
theorem dX10_expects_19 : decode cX10_expects 19 = .ok (.getfield 25, 3) := by decide +kernel
theorem dX10_expects_22 : decode cX10_expects 22 = .ok (.getfield 74, 3) := by decide +kernel
theorem dX10_expects_25 : decode cX10_expects 25 = .ok (.if_icmp .le 6, 3) := by decide +kernel
theorem dX10_expects_28 : decode cX10_expects 28 = .ok (.bipush (-2), 2) := by decide +kernel
theorem dX10_expects_30 : decode cX10_expects 30 = .ok (.ireturn, 1) := by decide +kernel
theorem dX10_expects_31 : decode cX10_expects 31 = .ok (.aload_n 0, 1) := by decide +kernel
theorem dX10_expects_32 : decode cX10_expects 32 = .ok (.getfield 25, 3) := by decide +kernel
theorem dX10_expects_35 : decode cX10_expects 35 = .ok (.getfield 85, 3) := by decide +kernel
theorem dX10_expects_38 : decode cX10_expects 38 = .ok (.iload_n 1, 1) := by decide +kernel
theorem dX10_expects_39 : decode cX10_expects 39 = .ok (.aaload, 1) := by decide +kernel
theorem dX10_expects_40 : decode cX10_expects 40 = .ok (.astore_n 3, 1) := by decide +kernel
theorem dX10_expects_41 : decode cX10_expects 41 = .ok (.aload_n 0, 1) := by decide +kernel
theorem dX10_expects_42 : decode cX10_expects 42 = .ok (.getfield 25, 3) := by decide +kernel
theorem dX10_expects_45 : decode cX10_expects 45 = .ok (.getfield 67, 3) := by decide +kernel
theorem dX10_expects_48 : decode cX10_expects 48 = .ok (.bipush 6, 2) := by decide +kernel
theorem dX10_expects_50 : decode cX10_expects 50 = .ok (.iaload, 1) := by decide +kernel
theorem dX10_expects_51 : decode cX10_expects 51 = .ok (.iconst 1, 1) := by decide +kernel
theorem dX10_expects_52 : decode cX10_expects 52 = .ok (.if_icmp .ne 7, 3) := by decide +kernel
theorem dX10_expects_55 : decode cX10_expects 55 = .ok (.iconst 1, 1) := by decide +kernel
theorem dX10_expects_56 : decode cX10_expects 56 = .ok (.goto 4, 3) := by decide +kernel
theorem dX10_expects_59 : decode cX10_expects 59 = .ok (.iconst 0, 1) := by decide +kernel
theorem dX10_expects_60 : decode cX10_expects 60 = .ok (.istore 4, 2) := by decide +kernel
theorem dX10_expects_62 : decode cX10_expects 62 = .ok (.aload_n 3, 1) := by decide +kernel
theorem dX10_expects_63 : decode cX10_expects 63 = .ok (.getfield 205, 3) := by decide +kernel
theorem dX10_expects_66 : decode cX10_expects 66 = .ok (.aload_n 0, 1) := by decide +kernel
theorem dX10_expects_67 : decode cX10_expects 67 = .ok (.iload_n 1, 1) := by decide +kernel
theorem dX10_expects_68 : decode cX10_expects 68 = .ok (.iload_n 2, 1) := by decide +kernel
theorem dX10_expects_69 : decode cX10_expects 69 = .ok (.invokevirtual 208, 3) := by decide +kernel
theorem dX10_expects_72 : decode cX10_expects 72 = .ok (.aload_n 3, 1) := by decide +kernel
theorem dX10_expects_73 : decode cX10_expects 73 = .ok (.getfield 211, 3) := by decide +kernel
theorem dX10_expects_76 : decode cX10_expects 76 = .ok (.iload 4, 2) := by decide +kernel
theorem dX10_expects_78 : decode cX10_expects 78 = .ok (.invokestatic 214, 3) := by decide +kernel
theorem dX10_expects_81 : decode cX10_expects 81 = .ok (.iadd, 1) := by decide +kernel
theorem dX10_expects_82 : decode cX10_expects 82 = .ok (.invokestatic 218, 3) := by decide +kernel
theorem dX10_expects_85 : decode cX10_expects 85 = .ok (.ireturn, 1) := by decide +kernel
theorem dX10_cartThereBy_0 : decode cX10_cartThereBy 0 = .ok (.aload_n 0, 1) := by decide +kernel
theorem dX10_cartThereBy_1 : decode cX10_cartThereBy 1 = .ok (.aload_n 1, 1) := by decide +kernel
theorem dX10_cartThereBy_2 : decode cX10_cartThereBy 2 = .ok (.getfield 320, 3) := by decide +kernel
theorem dX10_cartThereBy_5 : decode cX10_cartThereBy 5 = .ok (.iload_n 2, 1) := by decide +kernel
theorem dX10_cartThereBy_6 : decode cX10_cartThereBy 6 = .ok (.invokevirtual 208, 3) := by decide +kernel
theorem dX10_cartThereBy_9 : decode cX10_cartThereBy 9 = .ok (.aload_n 0, 1) := by decide +kernel
theorem dX10_cartThereBy_10 : decode cX10_cartThereBy 10 = .ok (.getfield 25, 3) := by decide +kernel
theorem dX10_cartThereBy_13 : decode cX10_cartThereBy 13 = .ok (.getfield 85, 3) := by decide +kernel
theorem dX10_cartThereBy_16 : decode cX10_cartThereBy 16 = .ok (.aload_n 1, 1) := by decide +kernel
theorem dX10_cartThereBy_17 : decode cX10_cartThereBy 17 = .ok (.getfield 320, 3) := by decide +kernel
theorem dX10_cartThereBy_20 : decode cX10_cartThereBy 20 = .ok (.aaload, 1) := by decide +kernel
theorem dX10_cartThereBy_21 : decode cX10_cartThereBy 21 = .ok (.getfield 211, 3) := by decide +kernel
theorem dX10_cartThereBy_24 : decode cX10_cartThereBy 24 = .ok (.invokestatic 323, 3) := by decide +kernel
theorem dX10_cartThereBy_27 : decode cX10_cartThereBy 27 = .ok (.iadd, 1) := by decide +kernel
theorem dX10_cartThereBy_28 : decode cX10_cartThereBy 28 = .ok (.aload_n 1, 1) := by decide +kernel
theorem dX10_cartThereBy_29 : decode cX10_cartThereBy 29 = .ok (.getfield 326, 3) := by decide +kernel
theorem dX10_cartThereBy_32 : decode cX10_cartThereBy 32 = .ok (.iadd, 1) := by decide +kernel
theorem dX10_cartThereBy_33 : decode cX10_cartThereBy 33 = .ok (.ireturn, 1) := by decide +kernel
theorem dX10_misses_0 : decode cX10_misses 0 = .ok (.aload_n 0, 1) := by decide +kernel
theorem dX10_misses_1 : decode cX10_misses 1 = .ok (.getfield 25, 3) := by decide +kernel
theorem dX10_misses_4 : decode cX10_misses 4 = .ok (.iload_n 1, 1) := by decide +kernel
theorem dX10_misses_5 : decode cX10_misses 5 = .ok (.invokevirtual 82, 3) := by decide +kernel
theorem dX10_misses_8 : decode cX10_misses 8 = .ok (.ifCond .ne 5, 3) := by decide +kernel
theorem dX10_misses_11 : decode cX10_misses 11 = .ok (.iconst (-1), 1) := by decide +kernel
theorem dX10_misses_12 : decode cX10_misses 12 = .ok (.ireturn, 1) := by decide +kernel
theorem dX10_misses_13 : decode cX10_misses 13 = .ok (.iload_n 2, 1) := by decide +kernel
theorem dX10_misses_14 : decode cX10_misses 14 = .ok (.ifCond .lt 14, 3) := by decide +kernel
theorem dX10_misses_17 : decode cX10_misses 17 = .ok (.iload_n 2, 1) := by decide +kernel
theorem dX10_misses_18 : decode cX10_misses 18 = .ok (.aload_n 0, 1) := by decide +kernel
theorem dX10_misses_19 : decode cX10_misses 19 = .ok (.getfield 25, 3) := by decide +kernel
theorem dX10_misses_22 : decode cX10_misses 22 = .ok (.getfield 74, 3) := by decide +kernel
theorem dX10_misses_25 : decode cX10_misses 25 = .ok (.if_icmp .le 6, 3) := by decide +kernel
theorem dX10_misses_28 : decode cX10_misses 28 = .ok (.bipush (-2), 2) := by decide +kernel
theorem dX10_misses_30 : decode cX10_misses 30 = .ok (.ireturn, 1) := by decide +kernel
theorem dX10_misses_31 : decode cX10_misses 31 = .ok (.aload_n 0, 1) := by decide +kernel
theorem dX10_misses_32 : decode cX10_misses 32 = .ok (.getfield 25, 3) := by decide +kernel
theorem dX10_misses_35 : decode cX10_misses 35 = .ok (.getfield 85, 3) := by decide +kernel
theorem dX10_misses_38 : decode cX10_misses 38 = .ok (.iload_n 1, 1) := by decide +kernel
theorem dX10_misses_39 : decode cX10_misses 39 = .ok (.aaload, 1) := by decide +kernel
theorem dX10_misses_40 : decode cX10_misses 40 = .ok (.astore_n 3, 1) := by decide +kernel
theorem dX10_misses_41 : decode cX10_misses 41 = .ok (.aload_n 0, 1) := by decide +kernel
theorem dX10_misses_42 : decode cX10_misses 42 = .ok (.iload_n 1, 1) := by decide +kernel
theorem dX10_misses_43 : decode cX10_misses 43 = .ok (.iload_n 2, 1) := by decide +kernel
theorem dX10_misses_44 : decode cX10_misses 44 = .ok (.invokevirtual 208, 3) := by decide +kernel
theorem dX10_misses_47 : decode cX10_misses 47 = .ok (.aload_n 3, 1) := by decide +kernel
theorem dX10_misses_48 : decode cX10_misses 48 = .ok (.getfield 211, 3) := by decide +kernel
theorem dX10_misses_51 : decode cX10_misses 51 = .ok (.invokestatic 223, 3) := by decide +kernel
theorem dX10_misses_54 : decode cX10_misses 54 = .ok (.iadd, 1) := by decide +kernel
theorem dX10_misses_55 : decode cX10_misses 55 = .ok (.istore 4, 2) := by decide +kernel
theorem dX10_misses_57 : decode cX10_misses 57 = .ok (.aload_n 3, 1) := by decide +kernel
theorem dX10_misses_58 : decode cX10_misses 58 = .ok (.getfield 205, 3) := by decide +kernel
theorem dX10_misses_61 : decode cX10_misses 61 = .ok (.aload_n 3, 1) := by decide +kernel
theorem dX10_misses_62 : decode cX10_misses 62 = .ok (.getfield 211, 3) := by decide +kernel
theorem dX10_misses_65 : decode cX10_misses 65 = .ok (.bipush 7, 2) := by decide +kernel
theorem dX10_misses_67 : decode cX10_misses 67 = .ok (.invokestatic 148, 3) := by decide +kernel
theorem dX10_misses_70 : decode cX10_misses 70 = .ok (.isub, 1) := by decide +kernel
theorem dX10_misses_71 : decode cX10_misses 71 = .ok (.iload 4, 2) := by decide +kernel
theorem dX10_misses_73 : decode cX10_misses 73 = .ok (.invokestatic 218, 3) := by decide +kernel
theorem dX10_misses_76 : decode cX10_misses 76 = .ok (.istore 5, 2) := by decide +kernel
theorem dX10_misses_78 : decode cX10_misses 78 = .ok (.iconst 0, 1) := by decide +kernel
theorem dX10_misses_79 : decode cX10_misses 79 = .ok (.istore 6, 2) := by decide +kernel
theorem dX10_misses_81 : decode cX10_misses 81 = .ok (.iconst 0, 1) := by decide +kernel
theorem dX10_misses_82 : decode cX10_misses 82 = .ok (.istore 7, 2) := by decide +kernel
theorem dX10_misses_84 : decode cX10_misses 84 = .ok (.iload 7, 2) := by decide +kernel
theorem dX10_misses_86 : decode cX10_misses 86 = .ok (.aload_n 0, 1) := by decide +kernel
theorem dX10_misses_87 : decode cX10_misses 87 = .ok (.getfield 25, 3) := by decide +kernel
theorem dX10_misses_90 : decode cX10_misses 90 = .ok (.getfield 226, 3) := by decide +kernel
theorem dX10_misses_93 : decode cX10_misses 93 = .ok (.if_icmp .ge 52, 3) := by decide +kernel
theorem dX10_misses_96 : decode cX10_misses 96 = .ok (.aload_n 0, 1) := by decide +kernel
theorem dX10_misses_97 : decode cX10_misses 97 = .ok (.getfield 25, 3) := by decide +kernel
theorem dX10_misses_100 : decode cX10_misses 100 = .ok (.getfield 129, 3) := by decide +kernel
theorem dX10_misses_103 : decode cX10_misses 103 = .ok (.iload 7, 2) := by decide +kernel
theorem dX10_misses_105 : decode cX10_misses 105 = .ok (.aaload, 1) := by decide +kernel
theorem dX10_misses_106 : decode cX10_misses 106 = .ok (.astore 8, 2) := by decide +kernel
theorem dX10_misses_108 : decode cX10_misses 108 = .ok (.aload 8, 2) := by decide +kernel
theorem dX10_misses_110 : decode cX10_misses 110 = .ok (.getfield 229, 3) := by decide +kernel
theorem dX10_misses_113 : decode cX10_misses 113 = .ok (.iload_n 1, 1) := by decide +kernel
theorem dX10_misses_114 : decode cX10_misses 114 = .ok (.if_icmp .ne 25, 3) := by decide +kernel
theorem dX10_misses_117 : decode cX10_misses 117 = .ok (.aload_n 0, 1) := by decide +kernel
theorem dX10_misses_118 : decode cX10_misses 118 = .ok (.aload 8, 2) := by decide +kernel
theorem dX10_misses_120 : decode cX10_misses 120 = .ok (.iload_n 2, 1) := by decide +kernel
theorem dX10_misses_121 : decode cX10_misses 121 = .ok (.invokevirtual 232, 3) := by decide +kernel
theorem dX10_misses_124 : decode cX10_misses 124 = .ok (.iload 5, 2) := by decide +kernel
theorem dX10_misses_126 : decode cX10_misses 126 = .ok (.if_icmp .le 13, 3) := by decide +kernel
theorem dX10_misses_129 : decode cX10_misses 129 = .ok (.iload 6, 2) := by decide +kernel
theorem dX10_misses_131 : decode cX10_misses 131 = .ok (.aload 8, 2) := by decide +kernel
theorem dX10_misses_133 : decode cX10_misses 133 = .ok (.getfield 236, 3) := by decide +kernel
theorem dX10_misses_136 : decode cX10_misses 136 = .ok (.iadd, 1) := by decide +kernel
theorem dX10_misses_137 : decode cX10_misses 137 = .ok (.istore 6, 2) := by decide +kernel
theorem dX10_misses_139 : decode cX10_misses 139 = .ok (.iinc 7 1, 3) := by decide +kernel
theorem dX10_misses_142 : decode cX10_misses 142 = .ok (.goto (-58), 3) := by decide +kernel
theorem dX10_misses_145 : decode cX10_misses 145 = .ok (.iload 6, 2) := by decide +kernel
theorem dX10_misses_147 : decode cX10_misses 147 = .ok (.ireturn, 1) := by decide +kernel
theorem dX10_feedTape_0 : decode cX10_feedTape 0 = .ok (.iload_n 3, 1) := by decide +kernel
theorem dX10_feedTape_1 : decode cX10_feedTape 1 = .ok (.iconst 1, 1) := by decide +kernel
theorem dX10_feedTape_2 : decode cX10_feedTape 2 = .ok (.if_icmp .lt 9, 3) := by decide +kernel
theorem dX10_feedTape_5 : decode cX10_feedTape 5 = .ok (.iload_n 3, 1) := by decide +kernel
theorem dX10_feedTape_6 : decode cX10_feedTape 6 = .ok (.bipush 8, 2) := by decide +kernel
theorem dX10_feedTape_8 : decode cX10_feedTape 8 = .ok (.if_icmp .le 6, 3) := by decide +kernel
theorem dX10_feedTape_11 : decode cX10_feedTape 11 = .ok (.bipush (-2), 2) := by decide +kernel
theorem dX10_feedTape_13 : decode cX10_feedTape 13 = .ok (.ireturn, 1) := by decide +kernel
theorem dX10_feedTape_14 : decode cX10_feedTape 14 = .ok (.aload_n 0, 1) := by decide +kernel
theorem dX10_feedTape_15 : decode cX10_feedTape 15 = .ok (.getfield 10, 3) := by decide +kernel
theorem dX10_feedTape_18 : decode cX10_feedTape 18 = .ok (.lload_n 1, 1) := by decide +kernel
theorem dX10_feedTape_19 : decode cX10_feedTape 19 = .ok (.iload_n 3, 1) := by decide +kernel
theorem dX10_feedTape_20 : decode cX10_feedTape 20 = .ok (.invokevirtual 239, 3) := by decide +kernel
theorem dX10_feedTape_23 : decode cX10_feedTape 23 = .ok (.ireturn, 1) := by decide +kernel
theorem dX10_text_0 : decode cX10_text 0 = .ok (.aload_n 0, 1) := by decide +kernel
theorem dX10_text_1 : decode cX10_text 1 = .ok (.getfield 10, 3) := by decide +kernel
theorem dX10_text_4 : decode cX10_text 4 = .ok (.invokevirtual 243, 3) := by decide +kernel
theorem dX10_text_7 : decode cX10_text 7 = .ok (.ireturn, 1) := by decide +kernel
theorem dX10_force_0 : decode cX10_force 0 = .ok (.iload_n 1, 1) := by decide +kernel
theorem dX10_force_1 : decode cX10_force 1 = .ok (.ifCond .lt 14, 3) := by decide +kernel
theorem dX10_force_4 : decode cX10_force 4 = .ok (.iload_n 1, 1) := by decide +kernel
theorem dX10_force_5 : decode cX10_force 5 = .ok (.aload_n 0, 1) := by decide +kernel
theorem dX10_force_6 : decode cX10_force 6 = .ok (.getfield 10, 3) := by decide +kernel
theorem dX10_force_9 : decode cX10_force 9 = .ok (.getfield 247, 3) := by decide +kernel
theorem dX10_force_12 : decode cX10_force 12 = .ok (.if_icmp .lt 6, 3) := by decide +kernel
theorem dX10_force_15 : decode cX10_force 15 = .ok (.bipush (-2), 2) := by decide +kernel
theorem dX10_force_17 : decode cX10_force 17 = .ok (.ireturn, 1) := by decide +kernel
theorem dX10_force_18 : decode cX10_force 18 = .ok (.aload_n 0, 1) := by decide +kernel
theorem dX10_force_19 : decode cX10_force 19 = .ok (.getfield 10, 3) := by decide +kernel
theorem dX10_force_22 : decode cX10_force 22 = .ok (.getfield 249, 3) := by decide +kernel
theorem dX10_force_25 : decode cX10_force 25 = .ok (.istore_n 2, 1) := by decide +kernel
theorem dX10_force_26 : decode cX10_force 26 = .ok (.aload_n 0, 1) := by decide +kernel
theorem dX10_force_27 : decode cX10_force 27 = .ok (.getfield 10, 3) := by decide +kernel
theorem dX10_force_30 : decode cX10_force 30 = .ok (.iload_n 1, 1) := by decide +kernel
theorem dX10_force_31 : decode cX10_force 31 = .ok (.putfield 249, 3) := by decide +kernel
theorem dX10_force_34 : decode cX10_force 34 = .ok (.aload_n 0, 1) := by decide +kernel
theorem dX10_force_35 : decode cX10_force 35 = .ok (.getfield 25, 3) := by decide +kernel
theorem dX10_force_38 : decode cX10_force 38 = .ok (.aload_n 0, 1) := by decide +kernel
theorem dX10_force_39 : decode cX10_force 39 = .ok (.getfield 10, 3) := by decide +kernel
theorem dX10_force_42 : decode cX10_force 42 = .ok (.invokevirtual 18, 3) := by decide +kernel
theorem dX10_force_45 : decode cX10_force 45 = .ok (.putfield 252, 3) := by decide +kernel
theorem dX10_force_48 : decode cX10_force 48 = .ok (.iload_n 2, 1) := by decide +kernel
theorem dX10_force_49 : decode cX10_force 49 = .ok (.ireturn, 1) := by decide +kernel
theorem dX10_tells_0 : decode cX10_tells 0 = .ok (.aload_n 0, 1) := by decide +kernel
theorem dX10_tells_1 : decode cX10_tells 1 = .ok (.getfield 25, 3) := by decide +kernel
theorem dX10_tells_4 : decode cX10_tells 4 = .ok (.iload_n 1, 1) := by decide +kernel
theorem dX10_tells_5 : decode cX10_tells 5 = .ok (.invokevirtual 82, 3) := by decide +kernel
theorem dX10_tells_8 : decode cX10_tells 8 = .ok (.ifCond .eq 12, 3) := by decide +kernel
theorem dX10_tells_11 : decode cX10_tells 11 = .ok (.iload_n 2, 1) := by decide +kernel
theorem dX10_tells_12 : decode cX10_tells 12 = .ok (.ifCond .lt 8, 3) := by decide +kernel
theorem dX10_tells_15 : decode cX10_tells 15 = .ok (.iload_n 2, 1) := by decide +kernel
theorem dX10_tells_16 : decode cX10_tells 16 = .ok (.iconst 3, 1) := by decide +kernel
theorem dX10_tells_17 : decode cX10_tells 17 = .ok (.if_icmp .lt 7, 3) := by decide +kernel
theorem dX10_tells_20 : decode cX10_tells 20 = .ok (.ldc2_w 257, 3) := by decide +kernel
theorem dX10_tells_23 : decode cX10_tells 23 = .ok (.lreturn, 1) := by decide +kernel
theorem dX10_tells_24 : decode cX10_tells 24 = .ok (.aload_n 0, 1) := by decide +kernel
theorem dX10_tells_25 : decode cX10_tells 25 = .ok (.getfield 25, 3) := by decide +kernel
theorem dX10_tells_28 : decode cX10_tells 28 = .ok (.iload_n 1, 1) := by decide +kernel
theorem dX10_tells_29 : decode cX10_tells 29 = .ok (.iconst (-1), 1) := by decide +kernel
theorem dX10_tells_30 : decode cX10_tells 30 = .ok (.invokevirtual 259, 3) := by decide +kernel
theorem dX10_tells_33 : decode cX10_tells 33 = .ok (.aload_n 0, 1) := by decide +kernel
theorem dX10_tells_34 : decode cX10_tells 34 = .ok (.getfield 25, 3) := by decide +kernel
theorem dX10_tells_37 : decode cX10_tells 37 = .ok (.getfield 252, 3) := by decide +kernel
theorem dX10_tells_40 : decode cX10_tells 40 = .ok (.iload_n 2, 1) := by decide +kernel
theorem dX10_tells_41 : decode cX10_tells 41 = .ok (.aload_n 0, 1) := by decide +kernel
theorem dX10_tells_42 : decode cX10_tells 42 = .ok (.getfield 25, 3) := by decide +kernel
theorem dX10_tells_45 : decode cX10_tells 45 = .ok (.getfield 263, 3) := by decide +kernel
theorem dX10_tells_48 : decode cX10_tells 48 = .ok (.invokevirtual 266, 3) := by decide +kernel
theorem dX10_tells_51 : decode cX10_tells 51 = .ok (.i2l, 1) := by decide +kernel
theorem dX10_tells_52 : decode cX10_tells 52 = .ok (.lreturn, 1) := by decide +kernel
theorem dX10_count_0 : decode cX10_count 0 = .ok (.iload_n 1, 1) := by decide +kernel
theorem dX10_count_1 : decode cX10_count 1 = .ok (.tableswitch 194 0 13 #[71, 79, 87, 95, 103, 111, 119, 127, 135, 143, 151, 162, 172, 183], 71) := by decide +kernel
theorem dX10_count_72 : decode cX10_count 72 = .ok (.aload_n 0, 1) := by decide +kernel
theorem dX10_count_73 : decode cX10_count 73 = .ok (.getfield 25, 3) := by decide +kernel
theorem dX10_count_76 : decode cX10_count 76 = .ok (.getfield 74, 3) := by decide +kernel
theorem dX10_count_79 : decode cX10_count 79 = .ok (.ireturn, 1) := by decide +kernel
theorem dX10_count_80 : decode cX10_count 80 = .ok (.aload_n 0, 1) := by decide +kernel
theorem dX10_count_81 : decode cX10_count 81 = .ok (.getfield 25, 3) := by decide +kernel
theorem dX10_count_84 : decode cX10_count 84 = .ok (.getfield 193, 3) := by decide +kernel
theorem dX10_count_87 : decode cX10_count 87 = .ok (.ireturn, 1) := by decide +kernel
theorem dX10_count_88 : decode cX10_count 88 = .ok (.aload_n 0, 1) := by decide +kernel
theorem dX10_count_89 : decode cX10_count 89 = .ok (.getfield 25, 3) := by decide +kernel
theorem dX10_count_92 : decode cX10_count 92 = .ok (.getfield 170, 3) := by decide +kernel
theorem dX10_count_95 : decode cX10_count 95 = .ok (.ireturn, 1) := by decide +kernel
theorem dX10_count_96 : decode cX10_count 96 = .ok (.aload_n 0, 1) := by decide +kernel
theorem dX10_count_97 : decode cX10_count 97 = .ok (.getfield 25, 3) := by decide +kernel
theorem dX10_count_100 : decode cX10_count 100 = .ok (.getfield 226, 3) := by decide +kernel
theorem dX10_count_103 : decode cX10_count 103 = .ok (.ireturn, 1) := by decide +kernel
theorem dX10_count_104 : decode cX10_count 104 = .ok (.aload_n 0, 1) := by decide +kernel
theorem dX10_count_105 : decode cX10_count 105 = .ok (.getfield 10, 3) := by decide +kernel
theorem dX10_count_108 : decode cX10_count 108 = .ok (.getfield 247, 3) := by decide +kernel
theorem dX10_count_111 : decode cX10_count 111 = .ok (.ireturn, 1) := by decide +kernel
theorem dX10_count_112 : decode cX10_count 112 = .ok (.aload_n 0, 1) := by decide +kernel
theorem dX10_count_113 : decode cX10_count 113 = .ok (.getfield 10, 3) := by decide +kernel
theorem dX10_count_116 : decode cX10_count 116 = .ok (.getfield 249, 3) := by decide +kernel
theorem dX10_count_119 : decode cX10_count 119 = .ok (.ireturn, 1) := by decide +kernel
theorem dX10_count_120 : decode cX10_count 120 = .ok (.aload_n 0, 1) := by decide +kernel
theorem dX10_count_121 : decode cX10_count 121 = .ok (.getfield 10, 3) := by decide +kernel
theorem dX10_count_124 : decode cX10_count 124 = .ok (.getfield 270, 3) := by decide +kernel
theorem dX10_count_127 : decode cX10_count 127 = .ok (.ireturn, 1) := by decide +kernel
theorem dX10_count_128 : decode cX10_count 128 = .ok (.aload_n 0, 1) := by decide +kernel
theorem dX10_count_129 : decode cX10_count 129 = .ok (.getfield 42, 3) := by decide +kernel
theorem dX10_count_132 : decode cX10_count 132 = .ok (.getfield 273, 3) := by decide +kernel
theorem dX10_count_135 : decode cX10_count 135 = .ok (.ireturn, 1) := by decide +kernel
theorem dX10_count_136 : decode cX10_count 136 = .ok (.aload_n 0, 1) := by decide +kernel
theorem dX10_count_137 : decode cX10_count 137 = .ok (.getfield 25, 3) := by decide +kernel
theorem dX10_count_140 : decode cX10_count 140 = .ok (.invokevirtual 274, 3) := by decide +kernel
theorem dX10_count_143 : decode cX10_count 143 = .ok (.ireturn, 1) := by decide +kernel
theorem dX10_count_144 : decode cX10_count 144 = .ok (.aload_n 0, 1) := by decide +kernel
theorem dX10_count_145 : decode cX10_count 145 = .ok (.getfield 25, 3) := by decide +kernel
theorem dX10_count_148 : decode cX10_count 148 = .ok (.invokevirtual 277, 3) := by decide +kernel
theorem dX10_count_151 : decode cX10_count 151 = .ok (.ireturn, 1) := by decide +kernel
theorem dX10_count_152 : decode cX10_count 152 = .ok (.aload_n 0, 1) := by decide +kernel
theorem dX10_count_153 : decode cX10_count 153 = .ok (.getfield 25, 3) := by decide +kernel
theorem dX10_count_156 : decode cX10_count 156 = .ok (.getfield 67, 3) := by decide +kernel
theorem dX10_count_159 : decode cX10_count 159 = .ok (.bipush 7, 2) := by decide +kernel
theorem dX10_count_161 : decode cX10_count 161 = .ok (.iaload, 1) := by decide +kernel
theorem dX10_count_162 : decode cX10_count 162 = .ok (.ireturn, 1) := by decide +kernel
theorem dX10_count_163 : decode cX10_count 163 = .ok (.aload_n 0, 1) := by decide +kernel
theorem dX10_count_164 : decode cX10_count 164 = .ok (.getfield 25, 3) := by decide +kernel
theorem dX10_count_167 : decode cX10_count 167 = .ok (.getfield 67, 3) := by decide +kernel
theorem dX10_count_170 : decode cX10_count 170 = .ok (.iconst 5, 1) := by decide +kernel
theorem dX10_count_171 : decode cX10_count 171 = .ok (.iaload, 1) := by decide +kernel
theorem dX10_count_172 : decode cX10_count 172 = .ok (.ireturn, 1) := by decide +kernel
theorem dX10_count_173 : decode cX10_count 173 = .ok (.aload_n 0, 1) := by decide +kernel
theorem dX10_count_174 : decode cX10_count 174 = .ok (.getfield 25, 3) := by decide +kernel
theorem dX10_count_177 : decode cX10_count 177 = .ok (.getfield 67, 3) := by decide +kernel
theorem dX10_count_180 : decode cX10_count 180 = .ok (.bipush 6, 2) := by decide +kernel
theorem dX10_count_182 : decode cX10_count 182 = .ok (.iaload, 1) := by decide +kernel
theorem dX10_count_183 : decode cX10_count 183 = .ok (.ireturn, 1) := by decide +kernel
theorem dX10_count_184 : decode cX10_count 184 = .ok (.aload_n 0, 1) := by decide +kernel
theorem dX10_count_185 : decode cX10_count 185 = .ok (.getfield 25, 3) := by decide +kernel
theorem dX10_count_188 : decode cX10_count 188 = .ok (.getfield 67, 3) := by decide +kernel
theorem dX10_count_191 : decode cX10_count 191 = .ok (.bipush 8, 2) := by decide +kernel
theorem dX10_count_193 : decode cX10_count 193 = .ok (.iaload, 1) := by decide +kernel
theorem dX10_count_194 : decode cX10_count 194 = .ok (.ireturn, 1) := by decide +kernel
theorem dX10_count_195 : decode cX10_count 195 = .ok (.bipush (-2), 2) := by decide +kernel
theorem dX10_count_197 : decode cX10_count 197 = .ok (.ireturn, 1) := by decide +kernel
theorem dX10_sheet_0 : decode cX10_sheet 0 = .ok (.iload_n 1, 1) := by decide +kernel
theorem dX10_sheet_1 : decode cX10_sheet 1 = .ok (.ifCond .lt 18, 3) := by decide +kernel
theorem dX10_sheet_4 : decode cX10_sheet 4 = .ok (.iload_n 1, 1) := by decide +kernel
theorem dX10_sheet_5 : decode cX10_sheet 5 = .ok (.iconst 4, 1) := by decide +kernel
theorem dX10_sheet_6 : decode cX10_sheet 6 = .ok (.if_icmp .ge 13, 3) := by decide +kernel
theorem dX10_sheet_9 : decode cX10_sheet 9 = .ok (.iload_n 2, 1) := by decide +kernel
theorem dX10_sheet_10 : decode cX10_sheet 10 = .ok (.iconst (-1), 1) := by decide +kernel
theorem dX10_sheet_11 : decode cX10_sheet 11 = .ok (.if_icmp .lt 8, 3) := by decide +kernel
theorem dX10_sheet_14 : decode cX10_sheet 14 = .ok (.iload_n 2, 1) := by decide +kernel
theorem dX10_sheet_15 : decode cX10_sheet 15 = .ok (.iconst 3, 1) := by decide +kernel
theorem dX10_sheet_16 : decode cX10_sheet 16 = .ok (.if_icmp .lt 6, 3) := by decide +kernel
theorem dX10_sheet_19 : decode cX10_sheet 19 = .ok (.bipush (-2), 2) := by decide +kernel
theorem dX10_sheet_21 : decode cX10_sheet 21 = .ok (.ireturn, 1) := by decide +kernel
theorem dX10_sheet_22 : decode cX10_sheet 22 = .ok (.iload_n 2, 1) := by decide +kernel
theorem dX10_sheet_23 : decode cX10_sheet 23 = .ok (.iconst (-1), 1) := by decide +kernel
theorem dX10_sheet_24 : decode cX10_sheet 24 = .ok (.if_icmp .eq 19, 3) := by decide +kernel
theorem dX10_sheet_27 : decode cX10_sheet 27 = .ok (.iload_n 3, 1) := by decide +kernel
theorem dX10_sheet_28 : decode cX10_sheet 28 = .ok (.bipush 40, 2) := by decide +kernel
theorem dX10_sheet_30 : decode cX10_sheet 30 = .ok (.if_icmp .le 6, 3) := by decide +kernel
theorem dX10_sheet_33 : decode cX10_sheet 33 = .ok (.bipush (-2), 2) := by decide +kernel
theorem dX10_sheet_35 : decode cX10_sheet 35 = .ok (.ireturn, 1) := by decide +kernel
theorem dX10_sheet_36 : decode cX10_sheet 36 = .ok (.iload_n 3, 1) := by decide +kernel
theorem dX10_sheet_37 : decode cX10_sheet 37 = .ok (.ifCond .ge 6, 3) := by decide +kernel
theorem dX10_sheet_40 : decode cX10_sheet 40 = .ok (.bipush (-14), 2) := by decide +kernel
theorem dX10_sheet_42 : decode cX10_sheet 42 = .ok (.ireturn, 1) := by decide +kernel
theorem dX10_sheet_43 : decode cX10_sheet 43 = .ok (.aload_n 0, 1) := by decide +kernel
theorem dX10_sheet_44 : decode cX10_sheet 44 = .ok (.getfield 48, 3) := by decide +kernel
theorem dX10_sheet_47 : decode cX10_sheet 47 = .ok (.iload_n 1, 1) := by decide +kernel
theorem dX10_sheet_48 : decode cX10_sheet 48 = .ok (.aaload, 1) := by decide +kernel
theorem dX10_sheet_49 : decode cX10_sheet 49 = .ok (.iload_n 2, 1) := by decide +kernel
theorem dX10_sheet_50 : decode cX10_sheet 50 = .ok (.iload_n 3, 1) := by decide +kernel
theorem dX10_sheet_51 : decode cX10_sheet 51 = .ok (.invokevirtual 280, 3) := by decide +kernel
theorem dX10_sheet_54 : decode cX10_sheet 54 = .ok (.iconst 1, 1) := by decide +kernel
theorem dX10_sheet_55 : decode cX10_sheet 55 = .ok (.ireturn, 1) := by decide +kernel
theorem dX10_cell_0 : decode cX10_cell 0 = .ok (.iload_n 1, 1) := by decide +kernel
theorem dX10_cell_1 : decode cX10_cell 1 = .ok (.ifCond .lt 8, 3) := by decide +kernel
theorem dX10_cell_4 : decode cX10_cell 4 = .ok (.iload_n 1, 1) := by decide +kernel
theorem dX10_cell_5 : decode cX10_cell 5 = .ok (.iconst 4, 1) := by decide +kernel
theorem dX10_cell_6 : decode cX10_cell 6 = .ok (.if_icmp .lt 6, 3) := by decide +kernel
theorem dX10_cell_9 : decode cX10_cell 9 = .ok (.bipush (-2), 2) := by decide +kernel
theorem dX10_cell_11 : decode cX10_cell 11 = .ok (.ireturn, 1) := by decide +kernel
theorem dX10_cell_12 : decode cX10_cell 12 = .ok (.aload_n 0, 1) := by decide +kernel
theorem dX10_cell_13 : decode cX10_cell 13 = .ok (.getfield 48, 3) := by decide +kernel
theorem dX10_cell_16 : decode cX10_cell 16 = .ok (.iload_n 1, 1) := by decide +kernel
theorem dX10_cell_17 : decode cX10_cell 17 = .ok (.aaload, 1) := by decide +kernel
theorem dX10_cell_18 : decode cX10_cell 18 = .ok (.astore 4, 2) := by decide +kernel
theorem dX10_cell_20 : decode cX10_cell 20 = .ok (.aload 4, 2) := by decide +kernel
theorem dX10_cell_22 : decode cX10_cell 22 = .ok (.invokevirtual 283, 3) := by decide +kernel
theorem dX10_cell_25 : decode cX10_cell 25 = .ok (.ifCond .eq 6, 3) := by decide +kernel
theorem dX10_cell_28 : decode cX10_cell 28 = .ok (.bipush (-11), 2) := by decide +kernel
theorem dX10_cell_30 : decode cX10_cell 30 = .ok (.ireturn, 1) := by decide +kernel
theorem dX10_cell_31 : decode cX10_cell 31 = .ok (.aload 4, 2) := by decide +kernel
theorem dX10_cell_33 : decode cX10_cell 33 = .ok (.iload_n 2, 1) := by decide +kernel
theorem dX10_cell_34 : decode cX10_cell 34 = .ok (.invokevirtual 286, 3) := by decide +kernel
theorem dX10_cell_37 : decode cX10_cell 37 = .ok (.ifCond .ne 6, 3) := by decide +kernel
theorem dX10_cell_40 : decode cX10_cell 40 = .ok (.bipush (-12), 2) := by decide +kernel
theorem dX10_cell_42 : decode cX10_cell 42 = .ok (.ireturn, 1) := by decide +kernel
theorem dX10_cell_43 : decode cX10_cell 43 = .ok (.aload 4, 2) := by decide +kernel
theorem dX10_cell_45 : decode cX10_cell 45 = .ok (.iload_n 2, 1) := by decide +kernel
theorem dX10_cell_46 : decode cX10_cell 46 = .ok (.iload_n 3, 1) := by decide +kernel
theorem dX10_cell_47 : decode cX10_cell 47 = .ok (.invokevirtual 289, 3) := by decide +kernel
theorem dX10_cell_50 : decode cX10_cell 50 = .ok (.iconst 1, 1) := by decide +kernel
theorem dX10_cell_51 : decode cX10_cell 51 = .ok (.ireturn, 1) := by decide +kernel
theorem dX10_copy_0 : decode cX10_copy 0 = .ok (.iload_n 1, 1) := by decide +kernel
theorem dX10_copy_1 : decode cX10_copy 1 = .ok (.ifCond .lt 17, 3) := by decide +kernel
theorem dX10_copy_4 : decode cX10_copy 4 = .ok (.iload_n 1, 1) := by decide +kernel
theorem dX10_copy_5 : decode cX10_copy 5 = .ok (.iconst 4, 1) := by decide +kernel
theorem dX10_copy_6 : decode cX10_copy 6 = .ok (.if_icmp .ge 12, 3) := by decide +kernel
theorem dX10_copy_9 : decode cX10_copy 9 = .ok (.iload_n 3, 1) := by decide +kernel
theorem dX10_copy_10 : decode cX10_copy 10 = .ok (.ifCond .lt 8, 3) := by decide +kernel
theorem dX10_copy_13 : decode cX10_copy 13 = .ok (.iload_n 3, 1) := by decide +kernel
theorem dX10_copy_14 : decode cX10_copy 14 = .ok (.iconst 4, 1) := by decide +kernel
theorem dX10_copy_15 : decode cX10_copy 15 = .ok (.if_icmp .lt 6, 3) := by decide +kernel
theorem dX10_copy_18 : decode cX10_copy 18 = .ok (.bipush (-2), 2) := by decide +kernel
theorem dX10_copy_20 : decode cX10_copy 20 = .ok (.ireturn, 1) := by decide +kernel
theorem dX10_copy_21 : decode cX10_copy 21 = .ok (.aload_n 0, 1) := by decide +kernel
theorem dX10_copy_22 : decode cX10_copy 22 = .ok (.getfield 48, 3) := by decide +kernel
theorem dX10_copy_25 : decode cX10_copy 25 = .ok (.iload_n 1, 1) := by decide +kernel
theorem dX10_copy_26 : decode cX10_copy 26 = .ok (.aaload, 1) := by decide +kernel
theorem dX10_copy_27 : decode cX10_copy 27 = .ok (.astore 6, 2) := by decide +kernel
theorem dX10_copy_29 : decode cX10_copy 29 = .ok (.aload_n 0, 1) := by decide +kernel
theorem dX10_copy_30 : decode cX10_copy 30 = .ok (.getfield 48, 3) := by decide +kernel
theorem dX10_copy_33 : decode cX10_copy 33 = .ok (.iload_n 3, 1) := by decide +kernel
theorem dX10_copy_34 : decode cX10_copy 34 = .ok (.aaload, 1) := by decide +kernel
theorem dX10_copy_35 : decode cX10_copy 35 = .ok (.astore 7, 2) := by decide +kernel
theorem dX10_copy_37 : decode cX10_copy 37 = .ok (.aload 6, 2) := by decide +kernel
theorem dX10_copy_39 : decode cX10_copy 39 = .ok (.invokevirtual 283, 3) := by decide +kernel
theorem dX10_copy_42 : decode cX10_copy 42 = .ok (.ifCond .ne 11, 3) := by decide +kernel
theorem dX10_copy_45 : decode cX10_copy 45 = .ok (.aload 7, 2) := by decide +kernel
theorem dX10_copy_47 : decode cX10_copy 47 = .ok (.invokevirtual 283, 3) := by decide +kernel
theorem dX10_copy_50 : decode cX10_copy 50 = .ok (.ifCond .eq 6, 3) := by decide +kernel
theorem dX10_copy_53 : decode cX10_copy 53 = .ok (.bipush (-11), 2) := by decide +kernel
theorem dX10_copy_55 : decode cX10_copy 55 = .ok (.ireturn, 1) := by decide +kernel
theorem dX10_copy_56 : decode cX10_copy 56 = .ok (.aload 6, 2) := by decide +kernel
theorem dX10_copy_58 : decode cX10_copy 58 = .ok (.getfield 292, 3) := by decide +kernel
theorem dX10_copy_61 : decode cX10_copy 61 = .ok (.aload 7, 2) := by decide +kernel
theorem dX10_copy_63 : decode cX10_copy 63 = .ok (.getfield 292, 3) := by decide +kernel
theorem dX10_copy_66 : decode cX10_copy 66 = .ok (.if_icmp .eq 6, 3) := by decide +kernel
theorem dX10_copy_69 : decode cX10_copy 69 = .ok (.bipush (-13), 2) := by decide +kernel
theorem dX10_copy_71 : decode cX10_copy 71 = .ok (.ireturn, 1) := by decide +kernel
theorem dX10_copy_72 : decode cX10_copy 72 = .ok (.aload 6, 2) := by decide +kernel
theorem dX10_copy_74 : decode cX10_copy 74 = .ok (.iload_n 2, 1) := by decide +kernel
theorem dX10_copy_75 : decode cX10_copy 75 = .ok (.iload 5, 2) := by decide +kernel
theorem dX10_copy_77 : decode cX10_copy 77 = .ok (.invokevirtual 295, 3) := by decide +kernel
theorem dX10_copy_80 : decode cX10_copy 80 = .ok (.ifCond .eq 15, 3) := by decide +kernel
theorem dX10_copy_83 : decode cX10_copy 83 = .ok (.aload 7, 2) := by decide +kernel
theorem dX10_copy_85 : decode cX10_copy 85 = .ok (.iload 4, 2) := by decide +kernel
theorem dX10_copy_87 : decode cX10_copy 87 = .ok (.iload 5, 2) := by decide +kernel
theorem dX10_copy_89 : decode cX10_copy 89 = .ok (.invokevirtual 295, 3) := by decide +kernel
theorem dX10_copy_92 : decode cX10_copy 92 = .ok (.ifCond .ne 6, 3) := by decide +kernel
theorem dX10_copy_95 : decode cX10_copy 95 = .ok (.bipush (-12), 2) := by decide +kernel
theorem dX10_copy_97 : decode cX10_copy 97 = .ok (.ireturn, 1) := by decide +kernel
theorem dX10_copy_98 : decode cX10_copy 98 = .ok (.aload 6, 2) := by decide +kernel
theorem dX10_copy_100 : decode cX10_copy 100 = .ok (.getfield 298, 3) := by decide +kernel
theorem dX10_copy_103 : decode cX10_copy 103 = .ok (.iload_n 2, 1) := by decide +kernel
theorem dX10_copy_104 : decode cX10_copy 104 = .ok (.aload 7, 2) := by decide +kernel
theorem dX10_copy_106 : decode cX10_copy 106 = .ok (.getfield 298, 3) := by decide +kernel
theorem dX10_copy_109 : decode cX10_copy 109 = .ok (.iload 4, 2) := by decide +kernel
theorem dX10_copy_111 : decode cX10_copy 111 = .ok (.iload 5, 2) := by decide +kernel
theorem dX10_copy_113 : decode cX10_copy 113 = .ok (.invokestatic 301, 3) := by decide +kernel
theorem dX10_copy_116 : decode cX10_copy 116 = .ok (.iload 5, 2) := by decide +kernel
theorem dX10_copy_118 : decode cX10_copy 118 = .ok (.ireturn, 1) := by decide +kernel
theorem dX10_visitsOf_0 : decode cX10_visitsOf 0 = .ok (.iconst 0, 1) := by decide +kernel
theorem dX10_visitsOf_1 : decode cX10_visitsOf 1 = .ok (.istore 4, 2) := by decide +kernel
theorem dX10_visitsOf_3 : decode cX10_visitsOf 3 = .ok (.iconst 0, 1) := by decide +kernel
theorem dX10_visitsOf_4 : decode cX10_visitsOf 4 = .ok (.istore 5, 2) := by decide +kernel
theorem dX10_visitsOf_6 : decode cX10_visitsOf 6 = .ok (.iload 5, 2) := by decide +kernel
theorem dX10_visitsOf_8 : decode cX10_visitsOf 8 = .ok (.iload_n 3, 1) := by decide +kernel
theorem dX10_visitsOf_9 : decode cX10_visitsOf 9 = .ok (.if_icmp .ge 99, 3) := by decide +kernel
theorem dX10_visitsOf_12 : decode cX10_visitsOf 12 = .ok (.iload_n 2, 1) := by decide +kernel
theorem dX10_visitsOf_13 : decode cX10_visitsOf 13 = .ok (.i2l, 1) := by decide +kernel
theorem dX10_visitsOf_14 : decode cX10_visitsOf 14 = .ok (.iload 5, 2) := by decide +kernel
theorem dX10_visitsOf_16 : decode cX10_visitsOf 16 = .ok (.i2l, 1) := by decide +kernel
theorem dX10_visitsOf_17 : decode cX10_visitsOf 17 = .ok (.ldc2_w 329, 3) := by decide +kernel
theorem dX10_visitsOf_20 : decode cX10_visitsOf 20 = .ok (.lmul, 1) := by decide +kernel
theorem dX10_visitsOf_21 : decode cX10_visitsOf 21 = .ok (.ladd, 1) := by decide +kernel
theorem dX10_visitsOf_22 : decode cX10_visitsOf 22 = .ok (.lstore 6, 2) := by decide +kernel
theorem dX10_visitsOf_24 : decode cX10_visitsOf 24 = .ok (.lload 6, 2) := by decide +kernel
theorem dX10_visitsOf_26 : decode cX10_visitsOf 26 = .ok (.lconst 0, 1) := by decide +kernel
theorem dX10_visitsOf_27 : decode cX10_visitsOf 27 = .ok (.lcmp, 1) := by decide +kernel
theorem dX10_visitsOf_28 : decode cX10_visitsOf 28 = .ok (.ifCond .lt 18, 3) := by decide +kernel
theorem dX10_visitsOf_31 : decode cX10_visitsOf 31 = .ok (.lload 6, 2) := by decide +kernel
theorem dX10_visitsOf_33 : decode cX10_visitsOf 33 = .ok (.ldc2_w 329, 3) := by decide +kernel
theorem dX10_visitsOf_36 : decode cX10_visitsOf 36 = .ok (.ladd, 1) := by decide +kernel
theorem dX10_visitsOf_37 : decode cX10_visitsOf 37 = .ok (.aload_n 1, 1) := by decide +kernel
theorem dX10_visitsOf_38 : decode cX10_visitsOf 38 = .ok (.getfield 331, 3) := by decide +kernel
theorem dX10_visitsOf_41 : decode cX10_visitsOf 41 = .ok (.i2l, 1) := by decide +kernel
theorem dX10_visitsOf_42 : decode cX10_visitsOf 42 = .ok (.lcmp, 1) := by decide +kernel
theorem dX10_visitsOf_43 : decode cX10_visitsOf 43 = .ok (.ifCond .le 6, 3) := by decide +kernel
theorem dX10_visitsOf_46 : decode cX10_visitsOf 46 = .ok (.bipush (-12), 2) := by decide +kernel
theorem dX10_visitsOf_48 : decode cX10_visitsOf 48 = .ok (.ireturn, 1) := by decide +kernel
theorem dX10_visitsOf_49 : decode cX10_visitsOf 49 = .ok (.lload 6, 2) := by decide +kernel
theorem dX10_visitsOf_51 : decode cX10_visitsOf 51 = .ok (.l2i, 1) := by decide +kernel
theorem dX10_visitsOf_52 : decode cX10_visitsOf 52 = .ok (.istore 8, 2) := by decide +kernel
theorem dX10_visitsOf_54 : decode cX10_visitsOf 54 = .ok (.aload_n 0, 1) := by decide +kernel
theorem dX10_visitsOf_55 : decode cX10_visitsOf 55 = .ok (.aload_n 1, 1) := by decide +kernel
theorem dX10_visitsOf_56 : decode cX10_visitsOf 56 = .ok (.getfield 298, 3) := by decide +kernel
theorem dX10_visitsOf_59 : decode cX10_visitsOf 59 = .ok (.iload 8, 2) := by decide +kernel
theorem dX10_visitsOf_61 : decode cX10_visitsOf 61 = .ok (.iaload, 1) := by decide +kernel
theorem dX10_visitsOf_62 : decode cX10_visitsOf 62 = .ok (.aload_n 1, 1) := by decide +kernel
theorem dX10_visitsOf_63 : decode cX10_visitsOf 63 = .ok (.getfield 298, 3) := by decide +kernel
theorem dX10_visitsOf_66 : decode cX10_visitsOf 66 = .ok (.iload 8, 2) := by decide +kernel
theorem dX10_visitsOf_68 : decode cX10_visitsOf 68 = .ok (.iconst 1, 1) := by decide +kernel
theorem dX10_visitsOf_69 : decode cX10_visitsOf 69 = .ok (.iadd, 1) := by decide +kernel
theorem dX10_visitsOf_70 : decode cX10_visitsOf 70 = .ok (.iaload, 1) := by decide +kernel
theorem dX10_visitsOf_71 : decode cX10_visitsOf 71 = .ok (.aload_n 1, 1) := by decide +kernel
theorem dX10_visitsOf_72 : decode cX10_visitsOf 72 = .ok (.getfield 298, 3) := by decide +kernel
theorem dX10_visitsOf_75 : decode cX10_visitsOf 75 = .ok (.iload 8, 2) := by decide +kernel
theorem dX10_visitsOf_77 : decode cX10_visitsOf 77 = .ok (.iconst 2, 1) := by decide +kernel
theorem dX10_visitsOf_78 : decode cX10_visitsOf 78 = .ok (.iadd, 1) := by decide +kernel
theorem dX10_visitsOf_79 : decode cX10_visitsOf 79 = .ok (.iaload, 1) := by decide +kernel
theorem dX10_visitsOf_80 : decode cX10_visitsOf 80 = .ok (.aload_n 1, 1) := by decide +kernel
theorem dX10_visitsOf_81 : decode cX10_visitsOf 81 = .ok (.getfield 298, 3) := by decide +kernel
theorem dX10_visitsOf_84 : decode cX10_visitsOf 84 = .ok (.iload 8, 2) := by decide +kernel
theorem dX10_visitsOf_86 : decode cX10_visitsOf 86 = .ok (.iconst 3, 1) := by decide +kernel
theorem dX10_visitsOf_87 : decode cX10_visitsOf 87 = .ok (.iadd, 1) := by decide +kernel
theorem dX10_visitsOf_88 : decode cX10_visitsOf 88 = .ok (.iaload, 1) := by decide +kernel
theorem dX10_visitsOf_89 : decode cX10_visitsOf 89 = .ok (.invokevirtual 332, 3) := by decide +kernel
theorem dX10_visitsOf_92 : decode cX10_visitsOf 92 = .ok (.istore 9, 2) := by decide +kernel
theorem dX10_visitsOf_94 : decode cX10_visitsOf 94 = .ok (.iload 9, 2) := by decide +kernel
theorem dX10_visitsOf_96 : decode cX10_visitsOf 96 = .ok (.ifCond .lt 6, 3) := by decide +kernel
theorem dX10_visitsOf_99 : decode cX10_visitsOf 99 = .ok (.iinc 4 1, 3) := by decide +kernel
theorem dX10_visitsOf_102 : decode cX10_visitsOf 102 = .ok (.iinc 5 1, 3) := by decide +kernel
theorem dX10_visitsOf_105 : decode cX10_visitsOf 105 = .ok (.goto (-99), 3) := by decide +kernel
theorem dX10_visitsOf_108 : decode cX10_visitsOf 108 = .ok (.iload 4, 2) := by decide +kernel
theorem dX10_visitsOf_110 : decode cX10_visitsOf 110 = .ok (.ireturn, 1) := by decide +kernel
theorem dX10_visits_0 : decode cX10_visits 0 = .ok (.iload_n 1, 1) := by decide +kernel
theorem dX10_visits_1 : decode cX10_visits 1 = .ok (.ifCond .lt 33, 3) := by decide +kernel
theorem dX10_visits_4 : decode cX10_visits 4 = .ok (.iload_n 1, 1) := by decide +kernel
theorem dX10_visits_5 : decode cX10_visits 5 = .ok (.iconst 4, 1) := by decide +kernel
theorem dX10_visits_6 : decode cX10_visits 6 = .ok (.if_icmp .ge 28, 3) := by decide +kernel
theorem dX10_visits_9 : decode cX10_visits 9 = .ok (.iload_n 2, 1) := by decide +kernel
theorem dX10_visits_10 : decode cX10_visits 10 = .ok (.ifCond .lt 24, 3) := by decide +kernel
theorem dX10_visits_13 : decode cX10_visits 13 = .ok (.iload_n 2, 1) := by decide +kernel
theorem dX10_visits_14 : decode cX10_visits 14 = .ok (.iconst 3, 1) := by decide +kernel
theorem dX10_visits_15 : decode cX10_visits 15 = .ok (.if_icmp .ge 19, 3) := by decide +kernel
theorem dX10_visits_18 : decode cX10_visits 18 = .ok (.iload 4, 2) := by decide +kernel
theorem dX10_visits_20 : decode cX10_visits 20 = .ok (.ifCond .lt 14, 3) := by decide +kernel
theorem dX10_visits_23 : decode cX10_visits 23 = .ok (.iload 4, 2) := by decide +kernel
theorem dX10_visits_25 : decode cX10_visits 25 = .ok (.bipush 10, 2) := by decide +kernel
theorem dX10_visits_27 : decode cX10_visits 27 = .ok (.if_icmp .gt 7, 3) := by decide +kernel
theorem dX10_visits_30 : decode cX10_visits 30 = .ok (.iconst 1, 1) := by decide +kernel
theorem dX10_visits_31 : decode cX10_visits 31 = .ok (.goto 4, 3) := by decide +kernel
theorem dX10_visits_34 : decode cX10_visits 34 = .ok (.iconst 0, 1) := by decide +kernel
theorem dX10_visits_35 : decode cX10_visits 35 = .ok (.istore 5, 2) := by decide +kernel
theorem dX10_visits_37 : decode cX10_visits 37 = .ok (.iload 5, 2) := by decide +kernel
theorem dX10_visits_39 : decode cX10_visits 39 = .ok (.ifCond .ne 6, 3) := by decide +kernel
theorem dX10_visits_42 : decode cX10_visits 42 = .ok (.bipush (-2), 2) := by decide +kernel
theorem dX10_visits_44 : decode cX10_visits 44 = .ok (.ireturn, 1) := by decide +kernel
theorem dX10_visits_45 : decode cX10_visits 45 = .ok (.aload_n 0, 1) := by decide +kernel
theorem dX10_visits_46 : decode cX10_visits 46 = .ok (.getfield 48, 3) := by decide +kernel
theorem dX10_visits_49 : decode cX10_visits 49 = .ok (.iload_n 1, 1) := by decide +kernel
theorem dX10_visits_50 : decode cX10_visits 50 = .ok (.aaload, 1) := by decide +kernel
theorem dX10_visits_51 : decode cX10_visits 51 = .ok (.astore 6, 2) := by decide +kernel
theorem dX10_visits_53 : decode cX10_visits 53 = .ok (.aload 6, 2) := by decide +kernel
theorem dX10_visits_55 : decode cX10_visits 55 = .ok (.invokevirtual 283, 3) := by decide +kernel
theorem dX10_visits_58 : decode cX10_visits 58 = .ok (.ifCond .eq 6, 3) := by decide +kernel
theorem dX10_visits_61 : decode cX10_visits 61 = .ok (.bipush (-11), 2) := by decide +kernel
theorem dX10_visits_63 : decode cX10_visits 63 = .ok (.ireturn, 1) := by decide +kernel
theorem dX10_visits_64 : decode cX10_visits 64 = .ok (.aload 6, 2) := by decide +kernel
theorem dX10_visits_66 : decode cX10_visits 66 = .ok (.getfield 292, 3) := by decide +kernel
theorem dX10_visits_69 : decode cX10_visits 69 = .ok (.iload_n 2, 1) := by decide +kernel
theorem dX10_visits_70 : decode cX10_visits 70 = .ok (.if_icmp .eq 6, 3) := by decide +kernel
theorem dX10_visits_73 : decode cX10_visits 73 = .ok (.bipush (-13), 2) := by decide +kernel
theorem dX10_visits_75 : decode cX10_visits 75 = .ok (.ireturn, 1) := by decide +kernel
theorem dX10_visits_76 : decode cX10_visits 76 = .ok (.aload_n 0, 1) := by decide +kernel
theorem dX10_visits_77 : decode cX10_visits 77 = .ok (.aload 6, 2) := by decide +kernel
theorem dX10_visits_79 : decode cX10_visits 79 = .ok (.iload_n 3, 1) := by decide +kernel
theorem dX10_visits_80 : decode cX10_visits 80 = .ok (.iload 4, 2) := by decide +kernel
theorem dX10_visits_82 : decode cX10_visits 82 = .ok (.invokevirtual 307, 3) := by decide +kernel
theorem dX10_visits_85 : decode cX10_visits 85 = .ok (.ireturn, 1) := by decide +kernel
theorem dX10_taken_0 : decode cX10_taken 0 = .ok (.iload_n 2, 1) := by decide +kernel
theorem dX10_taken_1 : decode cX10_taken 1 = .ok (.invokestatic 70, 3) := by decide +kernel
theorem dX10_taken_4 : decode cX10_taken 4 = .ok (.ifCond .ne 6, 3) := by decide +kernel
theorem dX10_taken_7 : decode cX10_taken 7 = .ok (.bipush (-2), 2) := by decide +kernel
theorem dX10_taken_9 : decode cX10_taken 9 = .ok (.ireturn, 1) := by decide +kernel
theorem dX10_taken_10 : decode cX10_taken 10 = .ok (.aload_n 0, 1) := by decide +kernel
theorem dX10_taken_11 : decode cX10_taken 11 = .ok (.getfield 25, 3) := by decide +kernel
theorem dX10_taken_14 : decode cX10_taken 14 = .ok (.iload_n 1, 1) := by decide +kernel
theorem dX10_taken_15 : decode cX10_taken 15 = .ok (.invokevirtual 82, 3) := by decide +kernel
theorem dX10_taken_18 : decode cX10_taken 18 = .ok (.ifCond .ne 6, 3) := by decide +kernel
theorem dX10_taken_21 : decode cX10_taken 21 = .ok (.bipush (-11), 2) := by decide +kernel
theorem dX10_taken_23 : decode cX10_taken 23 = .ok (.ireturn, 1) := by decide +kernel
theorem dX10_taken_24 : decode cX10_taken 24 = .ok (.aload_n 0, 1) := by decide +kernel
theorem dX10_taken_25 : decode cX10_taken 25 = .ok (.getfield 25, 3) := by decide +kernel
theorem dX10_taken_28 : decode cX10_taken 28 = .ok (.getfield 85, 3) := by decide +kernel
theorem dX10_taken_31 : decode cX10_taken 31 = .ok (.iload_n 1, 1) := by decide +kernel
theorem dX10_taken_32 : decode cX10_taken 32 = .ok (.aaload, 1) := by decide +kernel
theorem dX10_taken_33 : decode cX10_taken 33 = .ok (.getfield 211, 3) := by decide +kernel
theorem dX10_taken_36 : decode cX10_taken 36 = .ok (.istore_n 3, 1) := by decide +kernel
theorem dX10_taken_37 : decode cX10_taken 37 = .ok (.iload_n 3, 1) := by decide +kernel
theorem dX10_taken_38 : decode cX10_taken 38 = .ok (.iload_n 2, 1) := by decide +kernel
theorem dX10_taken_39 : decode cX10_taken 39 = .ok (.invokestatic 311, 3) := by decide +kernel
theorem dX10_taken_42 : decode cX10_taken 42 = .ok (.ifCond .eq 10, 3) := by decide +kernel
theorem dX10_taken_45 : decode cX10_taken 45 = .ok (.iload_n 3, 1) := by decide +kernel
theorem dX10_taken_46 : decode cX10_taken 46 = .ok (.invokestatic 151, 3) := by decide +kernel
theorem dX10_taken_49 : decode cX10_taken 49 = .ok (.goto 5, 3) := by decide +kernel
theorem dX10_taken_52 : decode cX10_taken 52 = .ok (.bipush (-13), 2) := by decide +kernel
theorem dX10_taken_54 : decode cX10_taken 54 = .ok (.ireturn, 1) := by decide +kernel
section WK
variable {p : Program} {l : Launch} {e : Env} {s : State} {m : MethodId} {args : Array Value} {below : List Frame} {meth : Method} {c : Code}
set_option maxHeartbeats 4000000 in
set_option maxRecDepth 20000 in
theorem kX10_stand (l : Launch) {k : En} {S : Nat → Prop} (hS : ∀ t, S t) {a1 : Int32} {res : Mm × Int32} {g : Mm} (hf : fX10_stand g a1 = some res) : Mt l yX10_stand cX10_stand 2 (some .int) (RmN 1 21) YC S k [.ref (k.1 + adC 0 0 0), .int a1] g (some (.int res.2)) res.1 := by
  refine Mt.of (by decide) (Nat.le_of_ble_eq_true rfl) ?_
  intro p e s m args below meth c ls X _ h hl
  have X : Cx YC S k p s m args meth c cX10_stand 2 (some .int) RX10 := X
  have hl : lv_has ls 2 [(0, .ref (k.1 + adC 0 0 0)), (1, .int a1)] := hl
  have JR : res = res := rfl
  unfold fX10_stand at hf
  refine lv_iload_n X.x X.b dX10_stand_0 rfl (lv_at hl 1 rfl) ?_
  refine lv_iconst (v := 1) X.x X.b dX10_stand_1 (by decide) ?_
  refine lv_icmp_lt (tgt := 10) X.x X.b dX10_stand_2 (by decide) (fun c1 => ?_) (fun c1 => ?_)
  · have hf := wT c1 hf
    refine lv_bipush (v := (-2)) X.x X.b dX10_stand_10 (by decide) ?_
    cases (Option.some.inj hf).trans JR
    exact ro_iret X h dX10_stand_12
  · have hf := wF c1 hf
    refine lv_iload_n X.x X.b dX10_stand_5 rfl (lv_at hl 1 rfl) ?_
    refine lv_iconst (v := 3) X.x X.b dX10_stand_6 (by decide) ?_
    refine lv_icmp_le (tgt := 13) X.x X.b dX10_stand_7 (by decide) (fun c2 => ?_) (fun c2 => ?_)
    · have hf := wT c2 hf
      refine lv_aload_n X.x X.b dX10_stand_13 rfl (lv_at hl 0 rfl) ?_
      refine gC_0_0 X h (hS 0) Nat.one_pos Nat.one_pos lk_X10_25 dX10_stand_14 ?_
      refine lv_iload_n X.x X.b dX10_stand_17 rfl (lv_at hl 1 rfl) ?_
      obtain ⟨g5, y4, e3, hf⟩ := wB2_s hf
      refine ro_callvI (As := [.int a1]) (g1 := g5) (x := y4) X h (kX4_addStand l hS (Nat.le_of_ble_eq_true rfl) e3) mv_X4_addStand lk_X10_53 ⟨rfl, rfl⟩ ⟨(Nat.le_of_ble_eq_true rfl), (Nat.le_of_ble_eq_true rfl)⟩ (rC_9 X h (hS 9) (Nat.le_of_ble_eq_true rfl) Nat.one_pos) rfl hl rfl (Nat.le_of_ble_eq_true rfl) ⟨Nat.zero_le _, Nat.zero_le _⟩ dX10_stand_18 (fun H locs h => ?_)
      cases (Option.some.inj hf).trans JR
      exact ro_iret X h dX10_stand_21
    · have hf := wF c2 hf
      refine lv_bipush (v := (-2)) X.x X.b dX10_stand_10 (by decide) ?_
      cases (Option.some.inj hf).trans JR
      exact ro_iret X h dX10_stand_12
set_option maxHeartbeats 4000000 in
set_option maxRecDepth 20000 in
theorem wX10_set_b32 {k : En} {S : Nat → Prop} (hS : ∀ t, S t) {a1 : Int32} {a2 : Int32} {res : Mm × Int32} (X : Cx YC S k p s m args meth c cX10_set 4 (some .int) RX10) {g : Mm} {H : Heap} {locs : List Loc} {ls : Array Slot} (h : Hx YC S k s g H locs) (hl : lv_has ls 4 [(0, .ref (k.1 + adC 0 0 0)), (1, .int a1), (2, .int a2)]) {r : Mm × Int32} (hf : fX10_set_b32 g a1 a2 = some r) (JR : r = res) :
    W p l e (RmN 1 21) s m args below meth c H locs 0 0 (Fin YC S k args s below (some (.int res.2)) res.1) (F0 m 32 ls []) := by
  unfold fX10_set_b32 at hf
  refine lv_aload_n X.x X.b dX10_set_32 rfl (lv_at hl 0 rfl) ?_
  refine gC_0_0 X h (hS 0) Nat.one_pos Nat.one_pos lk_X10_25 dX10_set_33 ?_
  refine gC_9_5 X h (hS 9) (Nat.le_of_ble_eq_true rfl) Nat.one_pos lk_X10_67 dX10_set_36 ?_
  refine lv_iload_n X.x X.b dX10_set_39 rfl (lv_at hl 1 rfl) ?_
  obtain ⟨b5, hf⟩ := wGi_s hf
  refine aC_10 X h (hS 10) (Nat.le_of_ble_eq_true rfl) Nat.one_pos b5 dX10_set_40 ?_
  obtain ⟨y6, e7, hf⟩ := wLe_s hf
  refine lv_nmi e7 ?_
  refine lv_istore_n (lv' := [(3, .int y6), (0, .ref (k.1 + adC 0 0 0)), (1, .int a1), (2, .int a2)]) X.x X.b dX10_set_41 rfl hl (by decide) rfl (fun ls hl => ?_)
  refine lv_aload_n X.x X.b dX10_set_42 rfl (lv_at hl 1 rfl) ?_
  refine gC_0_0 X h (hS 0) Nat.one_pos Nat.one_pos lk_X10_25 dX10_set_43 ?_
  refine gC_9_5 X h (hS 9) (Nat.le_of_ble_eq_true rfl) Nat.one_pos lk_X10_67 dX10_set_46 ?_
  refine lv_iload_n X.x X.b dX10_set_49 rfl (lv_at hl 2 rfl) ?_
  refine lv_iload_n X.x X.b dX10_set_50 rfl (lv_at hl 3 rfl) ?_
  obtain ⟨b8, hf⟩ := wGi_s hf
  obtain ⟨g9, e10, hf⟩ := wLe_s hf
  refine bC_10 X h (hS 10) (Nat.le_of_ble_eq_true rfl) Nat.one_pos e10 b8 dX10_set_51 (fun H locs h => ?_)
  refine lv_iload_n X.x X.b dX10_set_52 rfl (lv_at hl 0 rfl) ?_
  cases (Option.some.inj hf).trans JR
  exact ro_iret X h dX10_set_53
set_option maxHeartbeats 4000000 in
set_option maxRecDepth 20000 in
theorem kX10_set (l : Launch) {k : En} {S : Nat → Prop} (hS : ∀ t, S t) {a1 : Int32} {a2 : Int32} {res : Mm × Int32} {g : Mm} (hf : fX10_set g a1 a2 = some res) : Mt l yX10_set cX10_set 4 (some .int) (RmN 1 21) YC S k [.ref (k.1 + adC 0 0 0), .int a1, .int a2] g (some (.int res.2)) res.1 := by
  refine Mt.of (by decide) (Nat.le_of_ble_eq_true rfl) ?_
  intro p e s m args below meth c ls X _ h hl
  have X : Cx YC S k p s m args meth c cX10_set 4 (some .int) RX10 := X
  have hl : lv_has ls 4 [(0, .ref (k.1 + adC 0 0 0)), (1, .int a1), (2, .int a2)] := hl
  have JR : res = res := rfl
  unfold fX10_set at hf
  refine lv_iload_n X.x X.b dX10_set_0 rfl (lv_at hl 1 rfl) ?_
  refine lv_iload_n X.x X.b dX10_set_1 rfl (lv_at hl 2 rfl) ?_
  obtain ⟨y2, e1, hf⟩ := wBd_s hf
  refine ro_callsI (As := [.int a1, .int a2]) (g1 := g) (x := y2) X h (kX4_maySet l hS e1) mv_X4_maySet lk_X10_57 ⟨rfl, rfl⟩ ⟨(Nat.le_of_ble_eq_true rfl), (Nat.le_of_ble_eq_true rfl)⟩ rfl hl rfl (Nat.le_of_ble_eq_true rfl) ⟨Nat.zero_le _, Nat.zero_le _⟩ dX10_set_2 (fun H locs h => ?_)
  refine lv_if_ne (tgt := 11) X.x X.b dX10_set_5 (by decide) (fun c3 => ?_) (fun c3 => ?_)
  · have hf := wF c3 hf
    refine lv_iload_n X.x X.b dX10_set_11 rfl (lv_at hl 1 rfl) ?_
    refine lv_iconst (v := 5) X.x X.b dX10_set_12 (by decide) ?_
    refine lv_icmp_ge (tgt := 32) X.x X.b dX10_set_13 (by decide) (fun c4 => ?_) (fun c4 => ?_)
    · have hf := wT c4 hf
      exact wX10_set_b32 hS X h (lv_sub hl [0, 1, 2] rfl) hf JR
    · have hf := wF c4 hf
      refine lv_iload_n X.x X.b dX10_set_16 rfl (lv_at hl 2 rfl) ?_
      refine lv_aload_n X.x X.b dX10_set_17 rfl (lv_at hl 0 rfl) ?_
      refine gC_0_0 X h (hS 0) Nat.one_pos Nat.one_pos lk_X10_25 dX10_set_18 ?_
      refine gC_9_6 X h (hS 9) (Nat.le_of_ble_eq_true rfl) Nat.one_pos lk_X10_63 dX10_set_21 ?_
      refine lv_iload_n X.x X.b dX10_set_24 rfl (lv_at hl 1 rfl) ?_
      obtain ⟨b11, hf⟩ := wGi_s hf
      refine aC_11 X h (hS 11) (Nat.le_of_ble_eq_true rfl) Nat.one_pos b11 dX10_set_25 ?_
      refine lv_icmp_ge (tgt := 32) X.x X.b dX10_set_26 (by decide) (fun c12 => ?_) (fun c12 => ?_)
      · have hf := wT c12 hf
        exact wX10_set_b32 hS X h (lv_sub hl [0, 1, 2] rfl) hf JR
      · have hf := wF c12 hf
        refine lv_bipush (v := (-3)) X.x X.b dX10_set_29 (by decide) ?_
        cases (Option.some.inj hf).trans JR
        exact ro_iret X h dX10_set_31
  · have hf := wT c3 hf
    refine lv_bipush (v := (-2)) X.x X.b dX10_set_8 (by decide) ?_
    cases (Option.some.inj hf).trans JR
    exact ro_iret X h dX10_set_10
set_option maxHeartbeats 4000000 in
set_option maxRecDepth 20000 in
theorem wX10_visit_b56 {k : En} {S : Nat → Prop} (hS : ∀ t, S t) {a1 : Int32} {a2 : Int32} {a3 : Int32} {a4 : Int32} {res : Mm × Int32} (X : Cx YC S k p s m args meth c cX10_visit 6 (some .int) RX10) {g : Mm} {z0 : Int32} {H : Heap} {locs : List Loc} {ls : Array Slot} (h : Hx YC S k s g H locs) (hl : lv_has ls 6 [(0, .ref (k.1 + adC 0 0 0)), (1, .int a1), (2, .int a2), (3, .int a3), (4, .int a4)]) {r : Mm × Int32} (hf : fX10_visit_b56 g a1 a2 a3 a4 z0 = some r) (JR : r = res) :
    W p l e (RmN 3 71) s m args below meth c H locs 0 0 (Fin YC S k args s below (some (.int res.2)) res.1) (F0 m 56 ls [.int z0]) := by
  unfold fX10_visit_b56 at hf
  refine lv_istore (lv' := [(5, .int z0), (0, .ref (k.1 + adC 0 0 0)), (1, .int a1), (2, .int a2), (3, .int a3), (4, .int a4)]) X.x X.b dX10_visit_56 hl (by decide) rfl (fun ls hl => ?_)
  refine lv_iload X.x X.b dX10_visit_58 (lv_at hl 0 rfl) ?_
  refine lv_if_ne (tgt := 66) X.x X.b dX10_visit_60 (by decide) (fun c4 => ?_) (fun c4 => ?_)
  · have hf := wF c4 hf
    refine lv_aload_n X.x X.b dX10_visit_66 rfl (lv_at hl 1 rfl) ?_
    refine gC_0_0 X h (hS 0) Nat.one_pos Nat.one_pos lk_X10_25 dX10_visit_67 ?_
    refine lv_iload_n X.x X.b dX10_visit_70 rfl (lv_at hl 2 rfl) ?_
    refine lv_iload_n X.x X.b dX10_visit_71 rfl (lv_at hl 3 rfl) ?_
    refine lv_iload_n X.x X.b dX10_visit_72 rfl (lv_at hl 4 rfl) ?_
    refine lv_iload X.x X.b dX10_visit_73 (lv_at hl 5 rfl) ?_
    obtain ⟨g7, y6, e5, hf⟩ := wB2_s hf
    refine ro_callvI (As := [.int a1, .int a2, .int a3, .int a4]) (g1 := g7) (x := y6) X h (kX4_addVisit l hS (Nat.le_of_ble_eq_true rfl) e5) mv_X4_addVisit lk_X10_78 ⟨rfl, rfl⟩ ⟨(Nat.le_of_ble_eq_true rfl), (Nat.le_of_ble_eq_true rfl)⟩ (rC_9 X h (hS 9) (Nat.le_of_ble_eq_true rfl) Nat.one_pos) rfl hl rfl (Nat.le_of_ble_eq_true rfl) ⟨Nat.zero_le _, Nat.zero_le _⟩ dX10_visit_75 (fun H locs h => ?_)
    cases (Option.some.inj hf).trans JR
    exact ro_iret X h dX10_visit_78
  · have hf := wT c4 hf
    refine lv_bipush (v := (-2)) X.x X.b dX10_visit_63 (by decide) ?_
    cases (Option.some.inj hf).trans JR
    exact ro_iret X h dX10_visit_65
set_option maxHeartbeats 4000000 in
set_option maxRecDepth 20000 in
theorem wX10_visit_b55 {k : En} {S : Nat → Prop} (hS : ∀ t, S t) {a1 : Int32} {a2 : Int32} {a3 : Int32} {a4 : Int32} {res : Mm × Int32} (X : Cx YC S k p s m args meth c cX10_visit 6 (some .int) RX10) {g : Mm} {H : Heap} {locs : List Loc} {ls : Array Slot} (h : Hx YC S k s g H locs) (hl : lv_has ls 6 [(0, .ref (k.1 + adC 0 0 0)), (1, .int a1), (2, .int a2), (3, .int a3), (4, .int a4)]) {r : Mm × Int32} (hf : fX10_visit_b55 g a1 a2 a3 a4 = some r) (JR : r = res) :
    W p l e (RmN 3 71) s m args below meth c H locs 0 0 (Fin YC S k args s below (some (.int res.2)) res.1) (F0 m 55 ls []) := by
  unfold fX10_visit_b55 at hf
  refine lv_iconst (v := 0) X.x X.b dX10_visit_55 (by decide) ?_
  exact wX10_visit_b56 hS X h (lv_sub hl [0, 1, 2, 3, 4] rfl) hf JR
set_option maxHeartbeats 4000000 in
set_option maxRecDepth 20000 in
theorem kX10_visit (l : Launch) {k : En} {S : Nat → Prop} (hS : ∀ t, S t) {a1 : Int32} {a2 : Int32} {a3 : Int32} {a4 : Int32} {res : Mm × Int32} {g : Mm} (hf : fX10_visit g a1 a2 a3 a4 = some res) : Mt l yX10_visit cX10_visit 6 (some .int) (RmN 3 71) YC S k [.ref (k.1 + adC 0 0 0), .int a1, .int a2, .int a3, .int a4] g (some (.int res.2)) res.1 := by
  refine Mt.of (by decide) (Nat.le_of_ble_eq_true rfl) ?_
  intro p e s m args below meth c ls X _ h hl
  have X : Cx YC S k p s m args meth c cX10_visit 6 (some .int) RX10 := X
  have hl : lv_has ls 6 [(0, .ref (k.1 + adC 0 0 0)), (1, .int a1), (2, .int a2), (3, .int a3), (4, .int a4)] := hl
  have JR : res = res := rfl
  unfold fX10_visit at hf
  refine lv_iload_n X.x X.b dX10_visit_0 rfl (lv_at hl 1 rfl) ?_
  obtain ⟨y2, e1, hf⟩ := wBd_s hf
  refine ro_callsI (As := [.int a1]) (g1 := g) (x := y2) X h (kX3_isKind l hS e1) mv_X3_isKind lk_X10_70 ⟨rfl, rfl⟩ ⟨(Nat.le_of_ble_eq_true rfl), (Nat.le_of_ble_eq_true rfl)⟩ rfl hl rfl (Nat.le_of_ble_eq_true rfl) ⟨Nat.zero_le _, Nat.zero_le _⟩ dX10_visit_1 (fun H locs h => ?_)
  refine lv_if_eq (tgt := 55) X.x X.b dX10_visit_4 (by decide) (fun c3 => ?_) (fun c3 => ?_)
  · have hf := wT c3 hf
    exact wX10_visit_b55 hS X h (lv_sub hl [0, 1, 2, 3, 4] rfl) hf JR
  · have hf := wF c3 hf
    refine lv_iload_n X.x X.b dX10_visit_7 rfl (lv_at hl 2 rfl) ?_
    refine lv_aload_n X.x X.b dX10_visit_8 rfl (lv_at hl 0 rfl) ?_
    refine gC_0_0 X h (hS 0) Nat.one_pos Nat.one_pos lk_X10_25 dX10_visit_9 ?_
    refine gC_9_0 X h (hS 9) (Nat.le_of_ble_eq_true rfl) Nat.one_pos lk_X10_74 dX10_visit_12 ?_
    refine lv_icmp_lt (tgt := 55) X.x X.b dX10_visit_15 (by decide) (fun c8 => ?_) (fun c8 => ?_)
    · have hf := wT c8 hf
      exact wX10_visit_b55 hS X h (lv_sub hl [0, 1, 2, 3, 4] rfl) hf JR
    · have hf := wF c8 hf
      refine lv_iload_n X.x X.b dX10_visit_18 rfl (lv_at hl 2 rfl) ?_
      refine lv_sipush (v := 9999) X.x X.b dX10_visit_19 (by decide) ?_
      refine lv_icmp_gt (tgt := 55) X.x X.b dX10_visit_22 (by decide) (fun c9 => ?_) (fun c9 => ?_)
      · have hf := wT c9 hf
        exact wX10_visit_b55 hS X h (lv_sub hl [0, 1, 2, 3, 4] rfl) hf JR
      · have hf := wF c9 hf
        refine lv_iload_n X.x X.b dX10_visit_25 rfl (lv_at hl 3 rfl) ?_
        refine lv_iload_n X.x X.b dX10_visit_26 rfl (lv_at hl 2 rfl) ?_
        refine lv_icmp_le (tgt := 55) X.x X.b dX10_visit_27 (by decide) (fun c10 => ?_) (fun c10 => ?_)
        · have hf := wT c10 hf
          exact wX10_visit_b55 hS X h (lv_sub hl [0, 1, 2, 3, 4] rfl) hf JR
        · have hf := wF c10 hf
          refine lv_iload_n X.x X.b dX10_visit_30 rfl (lv_at hl 3 rfl) ?_
          refine lv_sipush (v := 9999) X.x X.b dX10_visit_31 (by decide) ?_
          refine lv_icmp_gt (tgt := 55) X.x X.b dX10_visit_34 (by decide) (fun c11 => ?_) (fun c11 => ?_)
          · have hf := wT c11 hf
            exact wX10_visit_b55 hS X h (lv_sub hl [0, 1, 2, 3, 4] rfl) hf JR
          · have hf := wF c11 hf
            refine lv_iload X.x X.b dX10_visit_37 (lv_at hl 4 rfl) ?_
            refine lv_iconst (v := 1) X.x X.b dX10_visit_39 (by decide) ?_
            refine lv_icmp_lt (tgt := 55) X.x X.b dX10_visit_40 (by decide) (fun c12 => ?_) (fun c12 => ?_)
            · have hf := wT c12 hf
              exact wX10_visit_b55 hS X h (lv_sub hl [0, 1, 2, 3, 4] rfl) hf JR
            · have hf := wF c12 hf
              refine lv_iload X.x X.b dX10_visit_43 (lv_at hl 4 rfl) ?_
              refine lv_sipush (v := 999) X.x X.b dX10_visit_45 (by decide) ?_
              refine lv_icmp_gt (tgt := 55) X.x X.b dX10_visit_48 (by decide) (fun c13 => ?_) (fun c13 => ?_)
              · have hf := wT c13 hf
                exact wX10_visit_b55 hS X h (lv_sub hl [0, 1, 2, 3, 4] rfl) hf JR
              · have hf := wF c13 hf
                refine lv_iconst (v := 1) X.x X.b dX10_visit_51 (by decide) ?_
                refine lv_goto (tgt := 56) X.x X.b dX10_visit_52 (by decide) ?_
                exact wX10_visit_b56 hS X h (lv_sub hl [0, 1, 2, 3, 4] rfl) hf JR
set_option maxHeartbeats 4000000 in
set_option maxRecDepth 20000 in
theorem kX10_late (l : Launch) {k : En} {S : Nat → Prop} (hS : ∀ t, S t) {a1 : Int32} {a2 : Int32} {res : Mm × Int32} {g : Mm} (hf : fX10_late g a1 a2 = some res) : Mt l yX10_late cX10_late 5 (some .int) (RmN 1 21) YC S k [.ref (k.1 + adC 0 0 0), .int a1, .int a2] g (some (.int res.2)) res.1 := by
  refine Mt.of (by decide) (Nat.le_of_ble_eq_true rfl) ?_
  intro p e s m args below meth c ls X _ h hl
  have X : Cx YC S k p s m args meth c cX10_late 5 (some .int) RX10 := X
  have hl : lv_has ls 5 [(0, .ref (k.1 + adC 0 0 0)), (1, .int a1), (2, .int a2)] := hl
  have JR : res = res := rfl
  unfold fX10_late at hf
  refine lv_aload_n X.x X.b dX10_late_0 rfl (lv_at hl 0 rfl) ?_
  refine gC_0_0 X h (hS 0) Nat.one_pos Nat.one_pos lk_X10_25 dX10_late_1 ?_
  refine lv_iload_n X.x X.b dX10_late_4 rfl (lv_at hl 1 rfl) ?_
  obtain ⟨y2, e1, hf⟩ := wBd_s hf
  refine ro_callvI (As := [.int a1]) (g1 := g) (x := y2) X h (kX4_hasVisit l hS (Nat.le_of_ble_eq_true rfl) e1) mv_X4_hasVisit lk_X10_82 ⟨rfl, rfl⟩ ⟨(Nat.le_of_ble_eq_true rfl), (Nat.le_of_ble_eq_true rfl)⟩ (rC_9 X h (hS 9) (Nat.le_of_ble_eq_true rfl) Nat.one_pos) rfl hl rfl (Nat.le_of_ble_eq_true rfl) ⟨Nat.zero_le _, Nat.zero_le _⟩ dX10_late_5 (fun H locs h => ?_)
  refine lv_if_ne (tgt := 13) X.x X.b dX10_late_8 (by decide) (fun c3 => ?_) (fun c3 => ?_)
  · have hf := wF c3 hf
    refine lv_iload_n X.x X.b dX10_late_13 rfl (lv_at hl 2 rfl) ?_
    refine lv_if_lt (tgt := 24) X.x X.b dX10_late_14 (by decide) (fun c4 => ?_) (fun c4 => ?_)
    · have hf := wT c4 hf
      refine lv_bipush (v := (-2)) X.x X.b dX10_late_24 (by decide) ?_
      cases (Option.some.inj hf).trans JR
      exact ro_iret X h dX10_late_26
    · have hf := wF c4 hf
      refine lv_iload_n X.x X.b dX10_late_17 rfl (lv_at hl 2 rfl) ?_
      refine lv_sipush (v := 999) X.x X.b dX10_late_18 (by decide) ?_
      refine lv_icmp_le (tgt := 27) X.x X.b dX10_late_21 (by decide) (fun c5 => ?_) (fun c5 => ?_)
      · have hf := wT c5 hf
        refine lv_aload_n X.x X.b dX10_late_27 rfl (lv_at hl 0 rfl) ?_
        refine gC_0_0 X h (hS 0) Nat.one_pos Nat.one_pos lk_X10_25 dX10_late_28 ?_
        refine gC_9_11 X h (hS 9) (Nat.le_of_ble_eq_true rfl) Nat.one_pos lk_X10_85 dX10_late_31 ?_
        refine lv_iload_n X.x X.b dX10_late_34 rfl (lv_at hl 1 rfl) ?_
        obtain ⟨b6, hf⟩ := wGi_s hf
        refine qC_16 X h (hS 16) (Nat.le_of_ble_eq_true rfl) Nat.one_pos b6 dX10_late_35 ?_
        refine lv_astore_n (lv' := [(3, .ref (k.1 + adC 19 0 ((a1).toNatClampNeg))), (0, .ref (k.1 + adC 0 0 0)), (1, .int a1), (2, .int a2)]) X.x X.b dX10_late_36 rfl hl (by decide) rfl (fun ls hl => ?_)
        refine lv_aload_n X.x X.b dX10_late_37 rfl (lv_at hl 0 rfl) ?_
        refine gC_19_6 X h (hS 19) (Nat.le_of_ble_eq_true rfl) (vin_lt b6) lk_X10_89 dX10_late_38 ?_
        refine lv_if_eq (tgt := 47) X.x X.b dX10_late_41 (by decide) (fun c7 => ?_) (fun c7 => ?_)
        · have hf := wT c7 hf
          refine lv_aload_n X.x X.b dX10_late_47 rfl (lv_at hl 0 rfl) ?_
          refine gC_19_4 X h (hS 19) (Nat.le_of_ble_eq_true rfl) (vin_lt b6) lk_X10_94 dX10_late_48 ?_
          obtain ⟨y8, e9, hf⟩ := wLe_s hf
          refine lv_nmi e9 ?_
          refine lv_istore (lv' := [(4, .int y8), (3, .ref (k.1 + adC 19 0 ((a1).toNatClampNeg))), (0, .ref (k.1 + adC 0 0 0)), (1, .int a1), (2, .int a2)]) X.x X.b dX10_late_51 hl (by decide) rfl (fun ls hl => ?_)
          refine lv_aload_n X.x X.b dX10_late_53 rfl (lv_at hl 1 rfl) ?_
          refine lv_iload_n X.x X.b dX10_late_54 rfl (lv_at hl 4 rfl) ?_
          obtain ⟨g10, e11, hf⟩ := wLe_s hf
          refine pC_19_4 X h (hS 19) (Nat.le_of_ble_eq_true rfl) (vin_lt b6) lk_X10_94 e11 dX10_late_55 (fun H locs h => ?_)
          refine lv_iload X.x X.b dX10_late_58 (lv_at hl 0 rfl) ?_
          cases (Option.some.inj hf).trans JR
          exact ro_iret X h dX10_late_60
        · have hf := wF c7 hf
          refine lv_bipush (v := (-3)) X.x X.b dX10_late_44 (by decide) ?_
          cases (Option.some.inj hf).trans JR
          exact ro_iret X h dX10_late_46
      · have hf := wF c5 hf
        refine lv_bipush (v := (-2)) X.x X.b dX10_late_24 (by decide) ?_
        cases (Option.some.inj hf).trans JR
        exact ro_iret X h dX10_late_26
  · have hf := wT c3 hf
    refine lv_iconst (v := (-1)) X.x X.b dX10_late_11 (by decide) ?_
    cases (Option.some.inj hf).trans JR
    exact ro_iret X h dX10_late_12
set_option maxHeartbeats 4000000 in
set_option maxRecDepth 20000 in
theorem wX10_wish_b29 {k : En} {S : Nat → Prop} (hS : ∀ t, S t) {a1 : Int32} {a2 : Int32} {res : Mm × Int32} (X : Cx YC S k p s m args meth c cX10_wish 5 (some .int) RX10) {g : Mm} {H : Heap} {locs : List Loc} {ls : Array Slot} (h : Hx YC S k s g H locs) (hl : lv_has ls 5 [(0, .ref (k.1 + adC 0 0 0)), (1, .int a1), (2, .int a2)]) {r : Mm × Int32} (hf : fX10_wish_b29 g a1 a2 = some r) (JR : r = res) :
    W p l e (RmN 2 42) s m args below meth c H locs 0 0 (Fin YC S k args s below (some (.int res.2)) res.1) (F0 m 29 ls []) := by
  unfold fX10_wish_b29 at hf
  refine lv_aload_n X.x X.b dX10_wish_29 rfl (lv_at hl 0 rfl) ?_
  refine gC_0_0 X h (hS 0) Nat.one_pos Nat.one_pos lk_X10_25 dX10_wish_30 ?_
  refine lv_iload_n X.x X.b dX10_wish_33 rfl (lv_at hl 1 rfl) ?_
  refine lv_iload_n X.x X.b dX10_wish_34 rfl (lv_at hl 2 rfl) ?_
  obtain ⟨y6, e5, hf⟩ := wBd_s hf
  refine ro_callvI (As := [.int a1, .int a2]) (g1 := g) (x := y6) X h (kX4_fits l hS (Nat.le_of_ble_eq_true rfl) e5) mv_X4_fits lk_X10_100 ⟨rfl, rfl⟩ ⟨(Nat.le_of_ble_eq_true rfl), (Nat.le_of_ble_eq_true rfl)⟩ (rC_9 X h (hS 9) (Nat.le_of_ble_eq_true rfl) Nat.one_pos) rfl hl rfl (Nat.le_of_ble_eq_true rfl) ⟨Nat.zero_le _, Nat.zero_le _⟩ dX10_wish_35 (fun H locs h => ?_)
  refine lv_if_ne (tgt := 44) X.x X.b dX10_wish_38 (by decide) (fun c7 => ?_) (fun c7 => ?_)
  · have hf := wF c7 hf
    refine lv_aload_n X.x X.b dX10_wish_44 rfl (lv_at hl 0 rfl) ?_
    refine gC_0_0 X h (hS 0) Nat.one_pos Nat.one_pos lk_X10_25 dX10_wish_45 ?_
    refine gC_9_11 X h (hS 9) (Nat.le_of_ble_eq_true rfl) Nat.one_pos lk_X10_85 dX10_wish_48 ?_
    refine lv_iload_n X.x X.b dX10_wish_51 rfl (lv_at hl 1 rfl) ?_
    obtain ⟨b8, hf⟩ := wGi_s hf
    refine qC_16 X h (hS 16) (Nat.le_of_ble_eq_true rfl) Nat.one_pos b8 dX10_wish_52 ?_
    refine lv_astore_n (lv' := [(3, .ref (k.1 + adC 19 0 ((a1).toNatClampNeg))), (0, .ref (k.1 + adC 0 0 0)), (1, .int a1), (2, .int a2)]) X.x X.b dX10_wish_53 rfl hl (by decide) rfl (fun ls hl => ?_)
    refine lv_aload_n X.x X.b dX10_wish_54 rfl (lv_at hl 0 rfl) ?_
    obtain ⟨y10, e9, hf⟩ := wBd_s hf
    refine ro_callvI (As := []) (g1 := g) (x := y10) X h (kX9_isAhead l hS (Nat.le_of_ble_eq_true rfl) (vin_lt b8) e9) mv_X9_isAhead lk_X10_103 ⟨rfl, rfl⟩ ⟨(Nat.le_of_ble_eq_true rfl), (Nat.le_of_ble_eq_true rfl)⟩ (rC_19 X h (hS 19) (Nat.le_of_ble_eq_true rfl) (vin_lt b8)) rfl hl rfl (Nat.le_of_ble_eq_true rfl) ⟨Nat.zero_le _, Nat.zero_le _⟩ dX10_wish_55 (fun H locs h => ?_)
    refine lv_if_ne (tgt := 64) X.x X.b dX10_wish_58 (by decide) (fun c11 => ?_) (fun c11 => ?_)
    · have hf := wF c11 hf
      refine lv_aload_n X.x X.b dX10_wish_64 rfl (lv_at hl 0 rfl) ?_
      refine gC_19_5 X h (hS 19) (Nat.le_of_ble_eq_true rfl) (vin_lt b8) lk_X10_107 dX10_wish_65 ?_
      obtain ⟨y12, e13, hf⟩ := wLe_s hf
      refine lv_nmi e13 ?_
      refine lv_istore (lv' := [(4, .int y12), (3, .ref (k.1 + adC 19 0 ((a1).toNatClampNeg))), (0, .ref (k.1 + adC 0 0 0)), (1, .int a1), (2, .int a2)]) X.x X.b dX10_wish_68 hl (by decide) rfl (fun ls hl => ?_)
      refine lv_aload_n X.x X.b dX10_wish_70 rfl (lv_at hl 1 rfl) ?_
      refine lv_iload_n X.x X.b dX10_wish_71 rfl (lv_at hl 4 rfl) ?_
      obtain ⟨g14, e15, hf⟩ := wLe_s hf
      refine pC_19_5 X h (hS 19) (Nat.le_of_ble_eq_true rfl) (vin_lt b8) lk_X10_107 e15 dX10_wish_72 (fun H locs h => ?_)
      refine lv_iload X.x X.b dX10_wish_75 (lv_at hl 0 rfl) ?_
      refine lv_if_ge (tgt := 85) X.x X.b dX10_wish_77 (by decide) (fun c16 => ?_) (fun c16 => ?_)
      · have hf := wT c16 hf
        refine lv_iload X.x X.b dX10_wish_85 (lv_at hl 0 rfl) ?_
        cases (Option.some.inj hf).trans JR
        exact ro_iret X h dX10_wish_87
      · have hf := wF c16 hf
        refine lv_bipush (v := 6) X.x X.b dX10_wish_80 (by decide) ?_
        refine lv_goto (tgt := 87) X.x X.b dX10_wish_82 (by decide) ?_
        cases (Option.some.inj hf).trans JR
        exact ro_iret X h dX10_wish_87
    · have hf := wT c11 hf
      refine lv_bipush (v := (-3)) X.x X.b dX10_wish_61 (by decide) ?_
      cases (Option.some.inj hf).trans JR
      exact ro_iret X h dX10_wish_63
  · have hf := wT c7 hf
    refine lv_bipush (v := (-2)) X.x X.b dX10_wish_41 (by decide) ?_
    cases (Option.some.inj hf).trans JR
    exact ro_iret X h dX10_wish_43
set_option maxHeartbeats 4000000 in
set_option maxRecDepth 20000 in
theorem kX10_wish (l : Launch) {k : En} {S : Nat → Prop} (hS : ∀ t, S t) {a1 : Int32} {a2 : Int32} {res : Mm × Int32} {g : Mm} (hf : fX10_wish g a1 a2 = some res) : Mt l yX10_wish cX10_wish 5 (some .int) (RmN 2 42) YC S k [.ref (k.1 + adC 0 0 0), .int a1, .int a2] g (some (.int res.2)) res.1 := by
  refine Mt.of (by decide) (Nat.le_of_ble_eq_true rfl) ?_
  intro p e s m args below meth c ls X _ h hl
  have X : Cx YC S k p s m args meth c cX10_wish 5 (some .int) RX10 := X
  have hl : lv_has ls 5 [(0, .ref (k.1 + adC 0 0 0)), (1, .int a1), (2, .int a2)] := hl
  have JR : res = res := rfl
  unfold fX10_wish at hf
  refine lv_aload_n X.x X.b dX10_wish_0 rfl (lv_at hl 0 rfl) ?_
  refine gC_0_0 X h (hS 0) Nat.one_pos Nat.one_pos lk_X10_25 dX10_wish_1 ?_
  refine lv_iload_n X.x X.b dX10_wish_4 rfl (lv_at hl 1 rfl) ?_
  obtain ⟨y2, e1, hf⟩ := wBd_s hf
  refine ro_callvI (As := [.int a1]) (g1 := g) (x := y2) X h (kX4_hasVisit l hS (Nat.le_of_ble_eq_true rfl) e1) mv_X4_hasVisit lk_X10_82 ⟨rfl, rfl⟩ ⟨(Nat.le_of_ble_eq_true rfl), (Nat.le_of_ble_eq_true rfl)⟩ (rC_9 X h (hS 9) (Nat.le_of_ble_eq_true rfl) Nat.one_pos) rfl hl rfl (Nat.le_of_ble_eq_true rfl) ⟨Nat.zero_le _, Nat.zero_le _⟩ dX10_wish_5 (fun H locs h => ?_)
  refine lv_if_eq (tgt := 27) X.x X.b dX10_wish_8 (by decide) (fun c3 => ?_) (fun c3 => ?_)
  · have hf := wT c3 hf
    refine lv_iconst (v := (-1)) X.x X.b dX10_wish_27 (by decide) ?_
    cases (Option.some.inj hf).trans JR
    exact ro_iret X h dX10_wish_28
  · have hf := wF c3 hf
    refine lv_iload_n X.x X.b dX10_wish_11 rfl (lv_at hl 2 rfl) ?_
    refine lv_iconst (v := (-1)) X.x X.b dX10_wish_12 (by decide) ?_
    refine lv_icmp_eq (tgt := 29) X.x X.b dX10_wish_13 (by decide) (fun c4 => ?_) (fun c4 => ?_)
    · have hf := wT c4 hf
      exact wX10_wish_b29 hS X h (lv_sub hl [0, 1, 2] rfl) hf JR
    · have hf := wF c4 hf
      refine lv_aload_n X.x X.b dX10_wish_16 rfl (lv_at hl 0 rfl) ?_
      refine gC_0_0 X h (hS 0) Nat.one_pos Nat.one_pos lk_X10_25 dX10_wish_17 ?_
      refine lv_iload_n X.x X.b dX10_wish_20 rfl (lv_at hl 2 rfl) ?_
      obtain ⟨y18, e17, hf⟩ := wBd_s hf
      refine ro_callvI (As := [.int a2]) (g1 := g) (x := y18) X h (kX4_hasStand l hS (Nat.le_of_ble_eq_true rfl) e17) mv_X4_hasStand lk_X10_97 ⟨rfl, rfl⟩ ⟨(Nat.le_of_ble_eq_true rfl), (Nat.le_of_ble_eq_true rfl)⟩ (rC_9 X h (hS 9) (Nat.le_of_ble_eq_true rfl) Nat.one_pos) rfl hl rfl (Nat.le_of_ble_eq_true rfl) ⟨Nat.zero_le _, Nat.zero_le _⟩ dX10_wish_21 (fun H locs h => ?_)
      refine lv_if_ne (tgt := 29) X.x X.b dX10_wish_24 (by decide) (fun c19 => ?_) (fun c19 => ?_)
      · have hf := wF c19 hf
        exact wX10_wish_b29 hS X h (lv_sub hl [0, 1, 2] rfl) hf JR
      · have hf := wT c19 hf
        refine lv_iconst (v := (-1)) X.x X.b dX10_wish_27 (by decide) ?_
        cases (Option.some.inj hf).trans JR
        exact ro_iret X h dX10_wish_28
set_option maxHeartbeats 4000000 in
set_option maxRecDepth 20000 in
theorem kX10_feed (l : Launch) {k : En} {S : Nat → Prop} (hS : ∀ t, S t) {a1 : Int32} {a2 : Int32} {a3 : Int32} {a4 : Int32} {res : Mm × Int32} {g : Mm} (hf : fX10_feed g a1 a2 a3 a4 = some res) : Mt l yX10_feed cX10_feed 5 (some .int) (RmN 2 48) YC S k [.ref (k.1 + adC 0 0 0), .int a1, .int a2, .int a3, .int a4] g (some (.int res.2)) res.1 := by
  refine Mt.of (by decide) (Nat.le_of_ble_eq_true rfl) ?_
  intro p e s m args below meth c ls X _ h hl
  have X : Cx YC S k p s m args meth c cX10_feed 5 (some .int) RX10 := X
  have hl : lv_has ls 5 [(0, .ref (k.1 + adC 0 0 0)), (1, .int a1), (2, .int a2), (3, .int a3), (4, .int a4)] := hl
  have JR : res = res := rfl
  unfold fX10_feed at hf
  refine lv_aload_n X.x X.b dX10_feed_0 rfl (lv_at hl 0 rfl) ?_
  refine gC_0_0 X h (hS 0) Nat.one_pos Nat.one_pos lk_X10_25 dX10_feed_1 ?_
  refine lv_iload_n X.x X.b dX10_feed_4 rfl (lv_at hl 1 rfl) ?_
  obtain ⟨y2, e1, hf⟩ := wBd_s hf
  refine ro_callvI (As := [.int a1]) (g1 := g) (x := y2) X h (kX4_hasVisit l hS (Nat.le_of_ble_eq_true rfl) e1) mv_X4_hasVisit lk_X10_82 ⟨rfl, rfl⟩ ⟨(Nat.le_of_ble_eq_true rfl), (Nat.le_of_ble_eq_true rfl)⟩ (rC_9 X h (hS 9) (Nat.le_of_ble_eq_true rfl) Nat.one_pos) rfl hl rfl (Nat.le_of_ble_eq_true rfl) ⟨Nat.zero_le _, Nat.zero_le _⟩ dX10_feed_5 (fun H locs h => ?_)
  refine lv_if_eq (tgt := 22) X.x X.b dX10_feed_8 (by decide) (fun c3 => ?_) (fun c3 => ?_)
  · have hf := wT c3 hf
    refine lv_iconst (v := (-1)) X.x X.b dX10_feed_22 (by decide) ?_
    cases (Option.some.inj hf).trans JR
    exact ro_iret X h dX10_feed_23
  · have hf := wF c3 hf
    refine lv_aload_n X.x X.b dX10_feed_11 rfl (lv_at hl 0 rfl) ?_
    refine gC_0_0 X h (hS 0) Nat.one_pos Nat.one_pos lk_X10_25 dX10_feed_12 ?_
    refine lv_iload_n X.x X.b dX10_feed_15 rfl (lv_at hl 2 rfl) ?_
    obtain ⟨y5, e4, hf⟩ := wBd_s hf
    refine ro_callvI (As := [.int a2]) (g1 := g) (x := y5) X h (kX4_hasVisit l hS (Nat.le_of_ble_eq_true rfl) e4) mv_X4_hasVisit lk_X10_82 ⟨rfl, rfl⟩ ⟨(Nat.le_of_ble_eq_true rfl), (Nat.le_of_ble_eq_true rfl)⟩ (rC_9 X h (hS 9) (Nat.le_of_ble_eq_true rfl) Nat.one_pos) rfl hl rfl (Nat.le_of_ble_eq_true rfl) ⟨Nat.zero_le _, Nat.zero_le _⟩ dX10_feed_16 (fun H locs h => ?_)
    refine lv_if_ne (tgt := 24) X.x X.b dX10_feed_19 (by decide) (fun c6 => ?_) (fun c6 => ?_)
    · have hf := wF c6 hf
      refine lv_iload_n X.x X.b dX10_feed_24 rfl (lv_at hl 1 rfl) ?_
      refine lv_iload_n X.x X.b dX10_feed_25 rfl (lv_at hl 2 rfl) ?_
      refine lv_icmp_eq (tgt := 53) X.x X.b dX10_feed_26 (by decide) (fun c7 => ?_) (fun c7 => ?_)
      · have hf := wT c7 hf
        refine lv_bipush (v := (-2)) X.x X.b dX10_feed_53 (by decide) ?_
        cases (Option.some.inj hf).trans JR
        exact ro_iret X h dX10_feed_55
      · have hf := wF c7 hf
        refine lv_iload_n X.x X.b dX10_feed_29 rfl (lv_at hl 3 rfl) ?_
        refine lv_iconst (v := 1) X.x X.b dX10_feed_30 (by decide) ?_
        refine lv_icmp_lt (tgt := 53) X.x X.b dX10_feed_31 (by decide) (fun c8 => ?_) (fun c8 => ?_)
        · have hf := wT c8 hf
          refine lv_bipush (v := (-2)) X.x X.b dX10_feed_53 (by decide) ?_
          cases (Option.some.inj hf).trans JR
          exact ro_iret X h dX10_feed_55
        · have hf := wF c8 hf
          refine lv_iload_n X.x X.b dX10_feed_34 rfl (lv_at hl 3 rfl) ?_
          refine lv_bipush (v := 99) X.x X.b dX10_feed_35 (by decide) ?_
          refine lv_icmp_gt (tgt := 53) X.x X.b dX10_feed_37 (by decide) (fun c9 => ?_) (fun c9 => ?_)
          · have hf := wT c9 hf
            refine lv_bipush (v := (-2)) X.x X.b dX10_feed_53 (by decide) ?_
            cases (Option.some.inj hf).trans JR
            exact ro_iret X h dX10_feed_55
          · have hf := wF c9 hf
            refine lv_iload X.x X.b dX10_feed_40 (lv_at hl 4 rfl) ?_
            refine lv_iconst (v := 1) X.x X.b dX10_feed_42 (by decide) ?_
            refine lv_icmp_lt (tgt := 53) X.x X.b dX10_feed_43 (by decide) (fun c10 => ?_) (fun c10 => ?_)
            · have hf := wT c10 hf
              refine lv_bipush (v := (-2)) X.x X.b dX10_feed_53 (by decide) ?_
              cases (Option.some.inj hf).trans JR
              exact ro_iret X h dX10_feed_55
            · have hf := wF c10 hf
              refine lv_iload X.x X.b dX10_feed_46 (lv_at hl 4 rfl) ?_
              refine lv_bipush (v := 99) X.x X.b dX10_feed_48 (by decide) ?_
              refine lv_icmp_le (tgt := 56) X.x X.b dX10_feed_50 (by decide) (fun c11 => ?_) (fun c11 => ?_)
              · have hf := wT c11 hf
                refine lv_aload_n X.x X.b dX10_feed_56 rfl (lv_at hl 0 rfl) ?_
                refine gC_0_0 X h (hS 0) Nat.one_pos Nat.one_pos lk_X10_25 dX10_feed_57 ?_
                refine gC_9_11 X h (hS 9) (Nat.le_of_ble_eq_true rfl) Nat.one_pos lk_X10_85 dX10_feed_60 ?_
                refine lv_iload_n X.x X.b dX10_feed_63 rfl (lv_at hl 1 rfl) ?_
                obtain ⟨b12, hf⟩ := wGi_s hf
                refine qC_16 X h (hS 16) (Nat.le_of_ble_eq_true rfl) Nat.one_pos b12 dX10_feed_64 ?_
                refine gC_19_6 X h (hS 19) (Nat.le_of_ble_eq_true rfl) (vin_lt b12) lk_X10_89 dX10_feed_65 ?_
                refine lv_if_ne (tgt := 86) X.x X.b dX10_feed_68 (by decide) (fun c13 => ?_) (fun c13 => ?_)
                · have hf := wF c13 hf
                  refine lv_bipush (v := (-3)) X.x X.b dX10_feed_86 (by decide) ?_
                  cases (Option.some.inj hf).trans JR
                  exact ro_iret X h dX10_feed_88
                · have hf := wT c13 hf
                  refine lv_aload_n X.x X.b dX10_feed_71 rfl (lv_at hl 0 rfl) ?_
                  refine gC_0_0 X h (hS 0) Nat.one_pos Nat.one_pos lk_X10_25 dX10_feed_72 ?_
                  refine gC_9_11 X h (hS 9) (Nat.le_of_ble_eq_true rfl) Nat.one_pos lk_X10_85 dX10_feed_75 ?_
                  refine lv_iload_n X.x X.b dX10_feed_78 rfl (lv_at hl 2 rfl) ?_
                  obtain ⟨b14, hf⟩ := wGi_s hf
                  refine qC_16 X h (hS 16) (Nat.le_of_ble_eq_true rfl) Nat.one_pos b14 dX10_feed_79 ?_
                  refine gC_19_6 X h (hS 19) (Nat.le_of_ble_eq_true rfl) (vin_lt b14) lk_X10_89 dX10_feed_80 ?_
                  refine lv_if_eq (tgt := 89) X.x X.b dX10_feed_83 (by decide) (fun c15 => ?_) (fun c15 => ?_)
                  · have hf := wT c15 hf
                    refine lv_aload_n X.x X.b dX10_feed_89 rfl (lv_at hl 0 rfl) ?_
                    refine gC_0_0 X h (hS 0) Nat.one_pos Nat.one_pos lk_X10_25 dX10_feed_90 ?_
                    refine lv_iload_n X.x X.b dX10_feed_93 rfl (lv_at hl 1 rfl) ?_
                    refine lv_iload_n X.x X.b dX10_feed_94 rfl (lv_at hl 2 rfl) ?_
                    refine lv_iload_n X.x X.b dX10_feed_95 rfl (lv_at hl 3 rfl) ?_
                    refine lv_iload X.x X.b dX10_feed_96 (lv_at hl 4 rfl) ?_
                    obtain ⟨g18, y17, e16, hf⟩ := wB2_s hf
                    refine ro_callvI (As := [.int a1, .int a2, .int a3, .int a4]) (g1 := g18) (x := y17) X h (kX4_addFeed l hS (Nat.le_of_ble_eq_true rfl) e16) mv_X4_addFeed lk_X10_110 ⟨rfl, rfl⟩ ⟨(Nat.le_of_ble_eq_true rfl), (Nat.le_of_ble_eq_true rfl)⟩ (rC_9 X h (hS 9) (Nat.le_of_ble_eq_true rfl) Nat.one_pos) rfl hl rfl (Nat.le_of_ble_eq_true rfl) ⟨Nat.zero_le _, Nat.zero_le _⟩ dX10_feed_98 (fun H locs h => ?_)
                    cases (Option.some.inj hf).trans JR
                    exact ro_iret X h dX10_feed_101
                  · have hf := wF c15 hf
                    refine lv_bipush (v := (-3)) X.x X.b dX10_feed_86 (by decide) ?_
                    cases (Option.some.inj hf).trans JR
                    exact ro_iret X h dX10_feed_88
              · have hf := wF c11 hf
                refine lv_bipush (v := (-2)) X.x X.b dX10_feed_53 (by decide) ?_
                cases (Option.some.inj hf).trans JR
                exact ro_iret X h dX10_feed_55
    · have hf := wT c6 hf
      refine lv_iconst (v := (-1)) X.x X.b dX10_feed_22 (by decide) ?_
      cases (Option.some.inj hf).trans JR
      exact ro_iret X h dX10_feed_23
set_option maxHeartbeats 4000000 in
set_option maxRecDepth 20000 in
theorem kX10_refusedAhead (l : Launch) {k : En} {S : Nat → Prop} (hS : ∀ t, S t) {g0 : Mm} {a1 : Int32} {a2 : Int32} {res : Int32} (hf : fX10_refusedAhead g0 a1 a2 = some res) : Mt l yX10_refusedAhead cX10_refusedAhead 3 (some .int) (RmN 0 0) YC S k [.ref (k.1 + adC 0 0 0), .int a1, .int a2] g0 (some (.int res)) g0 := by
  refine Mt.of (by decide) (Nat.le_of_ble_eq_true rfl) ?_
  intro p e s m args below meth c ls X _ h hl
  have X : Cx YC S k p s m args meth c cX10_refusedAhead 3 (some .int) RX10 := X
  have hl : lv_has ls 3 [(0, .ref (k.1 + adC 0 0 0)), (1, .int a1), (2, .int a2)] := hl
  have JR : res = res := rfl
  unfold fX10_refusedAhead at hf
  refine lv_iload_n X.x X.b dX10_refusedAhead_0 rfl (lv_at hl 1 rfl) ?_
  refine lv_iconst (v := 1) X.x X.b dX10_refusedAhead_1 (by decide) ?_
  refine lv_icmp_lt (tgt := 10) X.x X.b dX10_refusedAhead_2 (by decide) (fun c1 => ?_) (fun c1 => ?_)
  · have hf := wT c1 hf
    refine lv_bipush (v := (-2)) X.x X.b dX10_refusedAhead_10 (by decide) ?_
    cases (Option.some.inj hf).trans JR
    exact ro_iret X h dX10_refusedAhead_12
  · have hf := wF c1 hf
    refine lv_iload_n X.x X.b dX10_refusedAhead_5 rfl (lv_at hl 1 rfl) ?_
    refine lv_iload_n X.x X.b dX10_refusedAhead_6 rfl (lv_at hl 2 rfl) ?_
    refine lv_icmp_le (tgt := 13) X.x X.b dX10_refusedAhead_7 (by decide) (fun c2 => ?_) (fun c2 => ?_)
    · have hf := wT c2 hf
      refine lv_aload_n X.x X.b dX10_refusedAhead_13 rfl (lv_at hl 0 rfl) ?_
      refine gC_0_0 X h (hS 0) Nat.one_pos Nat.one_pos lk_X10_25 dX10_refusedAhead_14 ?_
      refine gC_9_0 X h (hS 9) (Nat.le_of_ble_eq_true rfl) Nat.one_pos lk_X10_74 dX10_refusedAhead_17 ?_
      refine lv_iload_n X.x X.b dX10_refusedAhead_20 rfl (lv_at hl 1 rfl) ?_
      refine lv_iadd X.x X.b dX10_refusedAhead_21 ?_
      refine lv_sipush (v := 9999) X.x X.b dX10_refusedAhead_22 (by decide) ?_
      refine lv_icmp_le (tgt := 33) X.x X.b dX10_refusedAhead_25 (by decide) (fun c3 => ?_) (fun c3 => ?_)
      · have hf := wT c3 hf
        refine lv_iconst (v := 0) X.x X.b dX10_refusedAhead_33 (by decide) ?_
        cases (Option.some.inj hf).trans JR
        exact ro_iret X h dX10_refusedAhead_34
      · have hf := wF c3 hf
        refine lv_bipush (v := (-4)) X.x X.b dX10_refusedAhead_28 (by decide) ?_
        refine lv_goto (tgt := 34) X.x X.b dX10_refusedAhead_30 (by decide) ?_
        cases (Option.some.inj hf).trans JR
        exact ro_iret X h dX10_refusedAhead_34
    · have hf := wF c2 hf
      refine lv_bipush (v := (-2)) X.x X.b dX10_refusedAhead_10 (by decide) ?_
      cases (Option.some.inj hf).trans JR
      exact ro_iret X h dX10_refusedAhead_12
set_option maxHeartbeats 4000000 in
set_option maxRecDepth 20000 in
theorem wX10_run_L17 {k : En} {S : Nat → Prop} (hS : ∀ t, S t) {a1 : Int32} {res : Mm × Int32} (X : Cx YC S k p s m args meth c cX10_run 4 (some .int) RX10) {r : Mm × Int32} (JR : r = res) :
    ∀ (fu : Nat) (g : Mm) (x3 : Int32) (H : Heap) (locs : List Loc) (ls : Array Slot), Hx YC S k s g H locs → lv_has ls 4 [(0, .ref (k.1 + adC 0 0 0)), (1, .int a1), (3, .int x3)] → wLp (fun q => fX10_run_B17 q.1 a1 q.2) fu (g, x3) = some r → W p l e (RmN 6 141) s m args below meth c H locs 0 0 (Fin YC S k args s below (some (.int res.2)) res.1) (F0 m 17 ls []) := by
  intro fu
  induction fu with
  | zero => intro g x3 H locs ls h hl hf; exact (wLp_0 hf).elim
  | succ fu ih1 =>
    intro g x3 H locs ls h hl hf
    obtain ⟨r1, hf, hr⟩ := wLp_s hf
    have J1n : ∀ (g : Mm) (x3 : Int32), r1 = .inl (g, x3) → ∀ (H : Heap) (locs : List Loc) (ls : Array Slot), Hx YC S k s g H locs → lv_has ls 4 [(0, .ref (k.1 + adC 0 0 0)), (1, .int a1), (3, .int x3)] → W p l e (RmN 6 141) s m args below meth c H locs 0 0 (Fin YC S k args s below (some (.int res.2)) res.1) (F0 m 17 ls []) := fun g x3 q H locs ls h hl => by subst q; exact ih1 _ _ _ _ _ h hl hr
    have JRn : ∀ t1, r1 = .inr t1 → t1 = res := fun t1 q => by subst q; obtain rfl := Option.some.inj hr; exact JR
    have J1 := J1n
    have JR := JRn
    clear J1n JRn
    have hf : fX10_run_B17 g a1 x3 = some r1 := hf
    unfold fX10_run_B17 at hf
    refine lv_iload_n X.x X.b dX10_run_17 rfl (lv_at hl 2 rfl) ?_
    refine lv_iload_n X.x X.b dX10_run_18 rfl (lv_at hl 1 rfl) ?_
    refine lv_icmp_ge (tgt := 35) X.x X.b dX10_run_19 (by decide) (fun c6 => ?_) (fun c6 => ?_)
    · have hf := wT c6 hf
      obtain ⟨t7, hf, e8⟩ := wEx_s hf
      have JR := JR t7 e8
      refine lv_aload_n X.x X.b dX10_run_35 rfl (lv_at hl 0 rfl) ?_
      refine gC_0_0 X h (hS 0) Nat.one_pos Nat.one_pos lk_X10_25 dX10_run_36 ?_
      refine gC_9_0 X h (hS 9) (Nat.le_of_ble_eq_true rfl) Nat.one_pos lk_X10_74 dX10_run_39 ?_
      cases (Option.some.inj hf).trans JR
      exact ro_iret X h dX10_run_42
    · have hf := wF c6 hf
      refine lv_aload_n X.x X.b dX10_run_22 rfl (lv_at hl 0 rfl) ?_
      refine gC_0_0 X h (hS 0) Nat.one_pos Nat.one_pos lk_X10_25 dX10_run_23 ?_
      obtain ⟨g11, e9, hf⟩ := wBd_s hf
      refine ro_callvV (As := []) (g1 := g11) X h (kX4_step l hS (Nat.le_of_ble_eq_true rfl) e9) mv_X4_step lk_X10_117 ⟨rfl, rfl⟩ ⟨(Nat.le_of_ble_eq_true rfl), (Nat.le_of_ble_eq_true rfl)⟩ (rC_9 X h (hS 9) (Nat.le_of_ble_eq_true rfl) Nat.one_pos) rfl hl rfl (Nat.le_of_ble_eq_true rfl) ⟨Nat.zero_le _, Nat.zero_le _⟩ dX10_run_26 (fun H locs h => ?_)
      obtain ⟨y12, e13, hf⟩ := wLe_s hf
      refine lv_iinc (v := y12) (lv' := [(3, .int y12), (0, .ref (k.1 + adC 0 0 0)), (1, .int a1)]) X.x X.b dX10_run_29 hl (k := 2) rfl (by rw [e13]; rfl) (by decide) rfl (fun ls hl => ?_)
      refine lv_goto (tgt := 17) X.x X.b dX10_run_32 (by decide) ?_
      exact J1 _ _ (Option.some.inj hf).symm _ _ _ h (lv_sub hl [1, 2, 0] rfl)
set_option maxHeartbeats 4000000 in
set_option maxRecDepth 20000 in
theorem kX10_run (l : Launch) {k : En} {S : Nat → Prop} (hS : ∀ t, S t) {a1 : Int32} {res : Mm × Int32} {g : Mm} (hf : fX10_run g a1 = some res) : Mt l yX10_run cX10_run 4 (some .int) (RmN 6 141) YC S k [.ref (k.1 + adC 0 0 0), .int a1] g (some (.int res.2)) res.1 := by
  refine Mt.of (by decide) (Nat.le_of_ble_eq_true rfl) ?_
  intro p e s m args below meth c ls X _ h hl
  have X : Cx YC S k p s m args meth c cX10_run 4 (some .int) RX10 := X
  have hl : lv_has ls 4 [(0, .ref (k.1 + adC 0 0 0)), (1, .int a1)] := hl
  have JR : res = res := rfl
  unfold fX10_run at hf
  refine lv_aload_n X.x X.b dX10_run_0 rfl (lv_at hl 0 rfl) ?_
  refine lv_iload_n X.x X.b dX10_run_1 rfl (lv_at hl 1 rfl) ?_
  refine lv_sipush (v := 200) X.x X.b dX10_run_2 (by decide) ?_
  obtain ⟨y2, e1, hf⟩ := wBd_s hf
  refine ro_callvI (As := [.int a1, .int (200 : Int32)]) (g1 := g) (x := y2) X h (kX10_refusedAhead l hS e1) mv_X10_refusedAhead lk_X10_113 ⟨rfl, rfl⟩ ⟨(Nat.le_of_ble_eq_true rfl), (Nat.le_of_ble_eq_true rfl)⟩ (rC_0 X h (hS 0) Nat.one_pos Nat.one_pos) rfl hl rfl (Nat.le_of_ble_eq_true rfl) ⟨Nat.zero_le _, Nat.zero_le _⟩ dX10_run_5 (fun H locs h => ?_)
  refine lv_istore_n (lv' := [(2, .int y2), (0, .ref (k.1 + adC 0 0 0)), (1, .int a1)]) X.x X.b dX10_run_8 rfl hl (by decide) rfl (fun ls hl => ?_)
  refine lv_iload_n X.x X.b dX10_run_9 rfl (lv_at hl 0 rfl) ?_
  refine lv_if_eq (tgt := 15) X.x X.b dX10_run_10 (by decide) (fun c3 => ?_) (fun c3 => ?_)
  · have hf := wT c3 hf
    refine lv_iconst (v := 0) X.x X.b dX10_run_15 (by decide) ?_
    obtain ⟨y4, e5, hf⟩ := wLe_s hf
    refine lv_nmi e5 ?_
    refine lv_istore_n (lv' := [(3, .int y4), (2, .int y2), (0, .ref (k.1 + adC 0 0 0)), (1, .int a1)]) X.x X.b dX10_run_16 rfl hl (by decide) rfl (fun ls hl => ?_)
    exact wX10_run_L17 hS X JR _ _ _ _ _ _ h (lv_sub hl [2, 3, 0] rfl) hf
  · have hf := wF c3 hf
    refine lv_iload_n X.x X.b dX10_run_13 rfl (lv_at hl 0 rfl) ?_
    cases (Option.some.inj hf).trans JR
    exact ro_iret X h dX10_run_14
set_option maxHeartbeats 4000000 in
set_option maxRecDepth 20000 in
theorem kX10_visitTold (l : Launch) {k : En} {S : Nat → Prop} (hS : ∀ t, S t) {g0 : Mm} {a1 : Int32} {a2 : Int32} {res : Int32} (hf : fX10_visitTold g0 a1 a2 = some res) : Mt l yX10_visitTold cX10_visitTold 3 (some .int) (RmN 2 43) YC S k [.ref (k.1 + adC 0 0 0), .int a1, .int a2] g0 (some (.int res)) g0 := by
  refine Mt.of (by decide) (Nat.le_of_ble_eq_true rfl) ?_
  intro p e s m args below meth c ls X _ h hl
  have X : Cx YC S k p s m args meth c cX10_visitTold 3 (some .int) RX10 := X
  have hl : lv_has ls 3 [(0, .ref (k.1 + adC 0 0 0)), (1, .int a1), (2, .int a2)] := hl
  have JR : res = res := rfl
  unfold fX10_visitTold at hf
  refine lv_aload_n X.x X.b dX10_visitTold_0 rfl (lv_at hl 0 rfl) ?_
  refine gC_0_0 X h (hS 0) Nat.one_pos Nat.one_pos lk_X10_25 dX10_visitTold_1 ?_
  refine lv_iload_n X.x X.b dX10_visitTold_4 rfl (lv_at hl 1 rfl) ?_
  obtain ⟨y2, e1, hf⟩ := wBd_s hf
  refine ro_callvI (As := [.int a1]) (g1 := g0) (x := y2) X h (kX4_hasVisit l hS (Nat.le_of_ble_eq_true rfl) e1) mv_X4_hasVisit lk_X10_82 ⟨rfl, rfl⟩ ⟨(Nat.le_of_ble_eq_true rfl), (Nat.le_of_ble_eq_true rfl)⟩ (rC_9 X h (hS 9) (Nat.le_of_ble_eq_true rfl) Nat.one_pos) rfl hl rfl (Nat.le_of_ble_eq_true rfl) ⟨Nat.zero_le _, Nat.zero_le _⟩ dX10_visitTold_5 (fun H locs h => ?_)
  refine lv_if_ne (tgt := 13) X.x X.b dX10_visitTold_8 (by decide) (fun c3 => ?_) (fun c3 => ?_)
  · have hf := wF c3 hf
    refine lv_aload_n X.x X.b dX10_visitTold_13 rfl (lv_at hl 0 rfl) ?_
    refine gC_0_0 X h (hS 0) Nat.one_pos Nat.one_pos lk_X10_25 dX10_visitTold_14 ?_
    refine gC_9_11 X h (hS 9) (Nat.le_of_ble_eq_true rfl) Nat.one_pos lk_X10_85 dX10_visitTold_17 ?_
    refine lv_iload_n X.x X.b dX10_visitTold_20 rfl (lv_at hl 1 rfl) ?_
    obtain ⟨b4, hf⟩ := wGi_s hf
    refine qC_16 X h (hS 16) (Nat.le_of_ble_eq_true rfl) Nat.one_pos b4 dX10_visitTold_21 ?_
    refine lv_iload_n X.x X.b dX10_visitTold_22 rfl (lv_at hl 2 rfl) ?_
    obtain ⟨y6, e5, hf⟩ := wBd_s hf
    refine ro_callvI (As := [.int a2]) (g1 := g0) (x := y6) X h (kX9_told l hS (Nat.le_of_ble_eq_true rfl) (vin_lt b4) e5) mv_X9_told lk_X10_120 ⟨rfl, rfl⟩ ⟨(Nat.le_of_ble_eq_true rfl), (Nat.le_of_ble_eq_true rfl)⟩ (rC_19 X h (hS 19) (Nat.le_of_ble_eq_true rfl) (vin_lt b4)) rfl hl rfl (Nat.le_of_ble_eq_true rfl) ⟨Nat.zero_le _, Nat.zero_le _⟩ dX10_visitTold_23 (fun H locs h => ?_)
    cases (Option.some.inj hf).trans JR
    exact ro_iret X h dX10_visitTold_26
  · have hf := wT c3 hf
    refine lv_iconst (v := (-1)) X.x X.b dX10_visitTold_11 (by decide) ?_
    cases (Option.some.inj hf).trans JR
    exact ro_iret X h dX10_visitTold_12
set_option maxHeartbeats 4000000 in
set_option maxRecDepth 20000 in
theorem kX10_cause (l : Launch) {k : En} {S : Nat → Prop} (hS : ∀ t, S t) {g0 : Mm} {a1 : Int32} {a2 : Int32} {res : Int32} (hf : fX10_cause g0 a1 a2 = some res) : Mt l yX10_cause cX10_cause 3 (some .int) (RmN 1 21) YC S k [.ref (k.1 + adC 0 0 0), .int a1, .int a2] g0 (some (.int res)) g0 := by
  refine Mt.of (by decide) (Nat.le_of_ble_eq_true rfl) ?_
  intro p e s m args below meth c ls X _ h hl
  have X : Cx YC S k p s m args meth c cX10_cause 3 (some .int) RX10 := X
  have hl : lv_has ls 3 [(0, .ref (k.1 + adC 0 0 0)), (1, .int a1), (2, .int a2)] := hl
  have JR : res = res := rfl
  unfold fX10_cause at hf
  refine lv_aload_n X.x X.b dX10_cause_0 rfl (lv_at hl 0 rfl) ?_
  refine gC_0_0 X h (hS 0) Nat.one_pos Nat.one_pos lk_X10_25 dX10_cause_1 ?_
  refine lv_iload_n X.x X.b dX10_cause_4 rfl (lv_at hl 1 rfl) ?_
  obtain ⟨y2, e1, hf⟩ := wBd_s hf
  refine ro_callvI (As := [.int a1]) (g1 := g0) (x := y2) X h (kX4_hasVisit l hS (Nat.le_of_ble_eq_true rfl) e1) mv_X4_hasVisit lk_X10_82 ⟨rfl, rfl⟩ ⟨(Nat.le_of_ble_eq_true rfl), (Nat.le_of_ble_eq_true rfl)⟩ (rC_9 X h (hS 9) (Nat.le_of_ble_eq_true rfl) Nat.one_pos) rfl hl rfl (Nat.le_of_ble_eq_true rfl) ⟨Nat.zero_le _, Nat.zero_le _⟩ dX10_cause_5 (fun H locs h => ?_)
  refine lv_if_ne (tgt := 13) X.x X.b dX10_cause_8 (by decide) (fun c3 => ?_) (fun c3 => ?_)
  · have hf := wF c3 hf
    refine lv_iload_n X.x X.b dX10_cause_13 rfl (lv_at hl 2 rfl) ?_
    refine lv_if_lt (tgt := 23) X.x X.b dX10_cause_14 (by decide) (fun c4 => ?_) (fun c4 => ?_)
    · have hf := wT c4 hf
      refine lv_bipush (v := (-2)) X.x X.b dX10_cause_23 (by decide) ?_
      cases (Option.some.inj hf).trans JR
      exact ro_iret X h dX10_cause_25
    · have hf := wF c4 hf
      refine lv_iload_n X.x X.b dX10_cause_17 rfl (lv_at hl 2 rfl) ?_
      refine lv_bipush (v := 9) X.x X.b dX10_cause_18 (by decide) ?_
      refine lv_icmp_lt (tgt := 26) X.x X.b dX10_cause_20 (by decide) (fun c5 => ?_) (fun c5 => ?_)
      · have hf := wT c5 hf
        refine lv_aload_n X.x X.b dX10_cause_26 rfl (lv_at hl 0 rfl) ?_
        refine gC_0_0 X h (hS 0) Nat.one_pos Nat.one_pos lk_X10_25 dX10_cause_27 ?_
        refine gC_9_11 X h (hS 9) (Nat.le_of_ble_eq_true rfl) Nat.one_pos lk_X10_85 dX10_cause_30 ?_
        refine lv_iload_n X.x X.b dX10_cause_33 rfl (lv_at hl 1 rfl) ?_
        obtain ⟨b6, hf⟩ := wGi_s hf
        refine qC_16 X h (hS 16) (Nat.le_of_ble_eq_true rfl) Nat.one_pos b6 dX10_cause_34 ?_
        refine gC_19_14 X h (hS 19) (Nat.le_of_ble_eq_true rfl) (vin_lt b6) lk_X10_123 dX10_cause_35 ?_
        refine lv_iload_n X.x X.b dX10_cause_38 rfl (lv_at hl 2 rfl) ?_
        obtain ⟨b7, hf⟩ := wGi_s hf
        refine aC_21 X h (hS 21) (Nat.le_of_ble_eq_true rfl) (vin_lt b6) b7 dX10_cause_39 ?_
        cases (Option.some.inj hf).trans JR
        exact ro_iret X h dX10_cause_40
      · have hf := wF c5 hf
        refine lv_bipush (v := (-2)) X.x X.b dX10_cause_23 (by decide) ?_
        cases (Option.some.inj hf).trans JR
        exact ro_iret X h dX10_cause_25
  · have hf := wT c3 hf
    refine lv_iconst (v := (-1)) X.x X.b dX10_cause_11 (by decide) ?_
    cases (Option.some.inj hf).trans JR
    exact ro_iret X h dX10_cause_12
set_option maxHeartbeats 4000000 in
set_option maxRecDepth 20000 in
theorem kX10_feedTold (l : Launch) {k : En} {S : Nat → Prop} (hS : ∀ t, S t) {g0 : Mm} {a1 : Int32} {a2 : Int32} {res : Int32} (hf : fX10_feedTold g0 a1 a2 = some res) : Mt l yX10_feedTold cX10_feedTold 3 (some .int) (RmN 1 21) YC S k [.ref (k.1 + adC 0 0 0), .int a1, .int a2] g0 (some (.int res)) g0 := by
  refine Mt.of (by decide) (Nat.le_of_ble_eq_true rfl) ?_
  intro p e s m args below meth c ls X _ h hl
  have X : Cx YC S k p s m args meth c cX10_feedTold 3 (some .int) RX10 := X
  have hl : lv_has ls 3 [(0, .ref (k.1 + adC 0 0 0)), (1, .int a1), (2, .int a2)] := hl
  have JR : res = res := rfl
  unfold fX10_feedTold at hf
  refine lv_aload_n X.x X.b dX10_feedTold_0 rfl (lv_at hl 0 rfl) ?_
  refine gC_0_0 X h (hS 0) Nat.one_pos Nat.one_pos lk_X10_25 dX10_feedTold_1 ?_
  refine lv_iload_n X.x X.b dX10_feedTold_4 rfl (lv_at hl 1 rfl) ?_
  obtain ⟨y2, e1, hf⟩ := wBd_s hf
  refine ro_callvI (As := [.int a1]) (g1 := g0) (x := y2) X h (kX4_hasFeed l hS (Nat.le_of_ble_eq_true rfl) e1) mv_X4_hasFeed lk_X10_126 ⟨rfl, rfl⟩ ⟨(Nat.le_of_ble_eq_true rfl), (Nat.le_of_ble_eq_true rfl)⟩ (rC_9 X h (hS 9) (Nat.le_of_ble_eq_true rfl) Nat.one_pos) rfl hl rfl (Nat.le_of_ble_eq_true rfl) ⟨Nat.zero_le _, Nat.zero_le _⟩ dX10_feedTold_5 (fun H locs h => ?_)
  refine lv_if_ne (tgt := 13) X.x X.b dX10_feedTold_8 (by decide) (fun c3 => ?_) (fun c3 => ?_)
  · have hf := wF c3 hf
    refine lv_aload_n X.x X.b dX10_feedTold_13 rfl (lv_at hl 0 rfl) ?_
    refine gC_0_0 X h (hS 0) Nat.one_pos Nat.one_pos lk_X10_25 dX10_feedTold_14 ?_
    refine gC_9_12 X h (hS 9) (Nat.le_of_ble_eq_true rfl) Nat.one_pos lk_X10_129 dX10_feedTold_17 ?_
    refine lv_iload_n X.x X.b dX10_feedTold_20 rfl (lv_at hl 1 rfl) ?_
    obtain ⟨b4, hf⟩ := wGi_s hf
    refine qC_17 X h (hS 17) (Nat.le_of_ble_eq_true rfl) Nat.one_pos b4 dX10_feedTold_21 ?_
    refine lv_iload_n X.x X.b dX10_feedTold_22 rfl (lv_at hl 2 rfl) ?_
    obtain ⟨y6, e5, hf⟩ := wBd_s hf
    refine ro_callvI (As := [.int a2]) (g1 := g0) (x := y6) X h (kX1_told l hS (Nat.le_of_ble_eq_true rfl) (vin_lt b4) e5) mv_X1_told lk_X10_133 ⟨rfl, rfl⟩ ⟨(Nat.le_of_ble_eq_true rfl), (Nat.le_of_ble_eq_true rfl)⟩ (rC_22 X h (hS 22) (Nat.le_of_ble_eq_true rfl) (vin_lt b4)) rfl hl rfl (Nat.le_of_ble_eq_true rfl) ⟨Nat.zero_le _, Nat.zero_le _⟩ dX10_feedTold_23 (fun H locs h => ?_)
    cases (Option.some.inj hf).trans JR
    exact ro_iret X h dX10_feedTold_26
  · have hf := wT c3 hf
    refine lv_iconst (v := (-1)) X.x X.b dX10_feedTold_11 (by decide) ?_
    cases (Option.some.inj hf).trans JR
    exact ro_iret X h dX10_feedTold_12
set_option maxHeartbeats 4000000 in
set_option maxRecDepth 20000 in
theorem kX10_standTold (l : Launch) {k : En} {S : Nat → Prop} (hS : ∀ t, S t) {g0 : Mm} {a1 : Int32} {a2 : Int32} {res : Int32} (hf : fX10_standTold g0 a1 a2 = some res) : Mt l yX10_standTold cX10_standTold 3 (some .int) (RmN 1 21) YC S k [.ref (k.1 + adC 0 0 0), .int a1, .int a2] g0 (some (.int res)) g0 := by
  refine Mt.of (by decide) (Nat.le_of_ble_eq_true rfl) ?_
  intro p e s m args below meth c ls X _ h hl
  have X : Cx YC S k p s m args meth c cX10_standTold 3 (some .int) RX10 := X
  have hl : lv_has ls 3 [(0, .ref (k.1 + adC 0 0 0)), (1, .int a1), (2, .int a2)] := hl
  have JR : res = res := rfl
  unfold fX10_standTold at hf
  refine lv_aload_n X.x X.b dX10_standTold_0 rfl (lv_at hl 0 rfl) ?_
  refine gC_0_0 X h (hS 0) Nat.one_pos Nat.one_pos lk_X10_25 dX10_standTold_1 ?_
  refine lv_iload_n X.x X.b dX10_standTold_4 rfl (lv_at hl 1 rfl) ?_
  obtain ⟨y2, e1, hf⟩ := wBd_s hf
  refine ro_callvI (As := [.int a1]) (g1 := g0) (x := y2) X h (kX4_hasStand l hS (Nat.le_of_ble_eq_true rfl) e1) mv_X4_hasStand lk_X10_97 ⟨rfl, rfl⟩ ⟨(Nat.le_of_ble_eq_true rfl), (Nat.le_of_ble_eq_true rfl)⟩ (rC_9 X h (hS 9) (Nat.le_of_ble_eq_true rfl) Nat.one_pos) rfl hl rfl (Nat.le_of_ble_eq_true rfl) ⟨Nat.zero_le _, Nat.zero_le _⟩ dX10_standTold_5 (fun H locs h => ?_)
  refine lv_if_ne (tgt := 14) X.x X.b dX10_standTold_8 (by decide) (fun c3 => ?_) (fun c3 => ?_)
  · have hf := wF c3 hf
    refine lv_iload_n X.x X.b dX10_standTold_14 rfl (lv_at hl 2 rfl) ?_
    refine lv_if_ne (tgt := 28) X.x X.b dX10_standTold_15 (by decide) (fun c4 => ?_) (fun c4 => ?_)
    · have hf := wF c4 hf
      refine lv_iload_n X.x X.b dX10_standTold_28 rfl (lv_at hl 2 rfl) ?_
      refine lv_iconst (v := 1) X.x X.b dX10_standTold_29 (by decide) ?_
      refine lv_icmp_ne (tgt := 45) X.x X.b dX10_standTold_30 (by decide) (fun c5 => ?_) (fun c5 => ?_)
      · have hf := wF c5 hf
        refine lv_bipush (v := (-2)) X.x X.b dX10_standTold_45 (by decide) ?_
        cases (Option.some.inj hf).trans JR
        exact ro_iret X h dX10_standTold_47
      · have hf := wT c5 hf
        refine lv_aload_n X.x X.b dX10_standTold_33 rfl (lv_at hl 0 rfl) ?_
        refine gC_0_0 X h (hS 0) Nat.one_pos Nat.one_pos lk_X10_25 dX10_standTold_34 ?_
        refine gC_9_8 X h (hS 9) (Nat.le_of_ble_eq_true rfl) Nat.one_pos lk_X10_139 dX10_standTold_37 ?_
        refine lv_iload_n X.x X.b dX10_standTold_40 rfl (lv_at hl 1 rfl) ?_
        obtain ⟨b6, hf⟩ := wGi_s hf
        refine aC_13 X h (hS 13) (Nat.le_of_ble_eq_true rfl) Nat.one_pos b6 dX10_standTold_41 ?_
        refine lv_goto (tgt := 47) X.x X.b dX10_standTold_42 (by decide) ?_
        cases (Option.some.inj hf).trans JR
        exact ro_iret X h dX10_standTold_47
    · have hf := wT c4 hf
      refine lv_aload_n X.x X.b dX10_standTold_18 rfl (lv_at hl 0 rfl) ?_
      refine gC_0_0 X h (hS 0) Nat.one_pos Nat.one_pos lk_X10_25 dX10_standTold_19 ?_
      refine gC_9_7 X h (hS 9) (Nat.le_of_ble_eq_true rfl) Nat.one_pos lk_X10_136 dX10_standTold_22 ?_
      refine lv_iload_n X.x X.b dX10_standTold_25 rfl (lv_at hl 1 rfl) ?_
      obtain ⟨b7, hf⟩ := wGi_s hf
      refine aC_12 X h (hS 12) (Nat.le_of_ble_eq_true rfl) Nat.one_pos b7 dX10_standTold_26 ?_
      cases (Option.some.inj hf).trans JR
      exact ro_iret X h dX10_standTold_27
  · have hf := wT c3 hf
    refine lv_bipush (v := (-3)) X.x X.b dX10_standTold_11 (by decide) ?_
    cases (Option.some.inj hf).trans JR
    exact ro_iret X h dX10_standTold_13
set_option maxHeartbeats 4000000 in
set_option maxRecDepth 20000 in
theorem kX10_runwayTold (l : Launch) {k : En} {S : Nat → Prop} (hS : ∀ t, S t) {g0 : Mm} {a1 : Int32} {a2 : Int32} {res : Int32} (hf : fX10_runwayTold g0 a1 a2 = some res) : Mt l yX10_runwayTold cX10_runwayTold 3 (some .int) (RmN 0 0) YC S k [.ref (k.1 + adC 0 0 0), .int a1, .int a2] g0 (some (.int res)) g0 := by
  refine Mt.of (by decide) (Nat.le_of_ble_eq_true rfl) ?_
  intro p e s m args below meth c ls X _ h hl
  have X : Cx YC S k p s m args meth c cX10_runwayTold 3 (some .int) RX10 := X
  have hl : lv_has ls 3 [(0, .ref (k.1 + adC 0 0 0)), (1, .int a1), (2, .int a2)] := hl
  have JR : res = res := rfl
  unfold fX10_runwayTold at hf
  refine lv_iload_n X.x X.b dX10_runwayTold_0 rfl (lv_at hl 1 rfl) ?_
  refine lv_if_lt (tgt := 9) X.x X.b dX10_runwayTold_1 (by decide) (fun c1 => ?_) (fun c1 => ?_)
  · have hf := wT c1 hf
    refine lv_bipush (v := (-3)) X.x X.b dX10_runwayTold_9 (by decide) ?_
    cases (Option.some.inj hf).trans JR
    exact ro_iret X h dX10_runwayTold_11
  · have hf := wF c1 hf
    refine lv_iload_n X.x X.b dX10_runwayTold_4 rfl (lv_at hl 1 rfl) ?_
    refine lv_iconst (v := 2) X.x X.b dX10_runwayTold_5 (by decide) ?_
    refine lv_icmp_lt (tgt := 12) X.x X.b dX10_runwayTold_6 (by decide) (fun c2 => ?_) (fun c2 => ?_)
    · have hf := wT c2 hf
      refine lv_iload_n X.x X.b dX10_runwayTold_12 rfl (lv_at hl 2 rfl) ?_
      refine lv_if_ne (tgt := 26) X.x X.b dX10_runwayTold_13 (by decide) (fun c3 => ?_) (fun c3 => ?_)
      · have hf := wF c3 hf
        refine lv_iload_n X.x X.b dX10_runwayTold_26 rfl (lv_at hl 2 rfl) ?_
        refine lv_iconst (v := 1) X.x X.b dX10_runwayTold_27 (by decide) ?_
        refine lv_icmp_ne (tgt := 43) X.x X.b dX10_runwayTold_28 (by decide) (fun c4 => ?_) (fun c4 => ?_)
        · have hf := wF c4 hf
          refine lv_bipush (v := (-2)) X.x X.b dX10_runwayTold_43 (by decide) ?_
          cases (Option.some.inj hf).trans JR
          exact ro_iret X h dX10_runwayTold_45
        · have hf := wT c4 hf
          refine lv_aload_n X.x X.b dX10_runwayTold_31 rfl (lv_at hl 0 rfl) ?_
          refine gC_0_0 X h (hS 0) Nat.one_pos Nat.one_pos lk_X10_25 dX10_runwayTold_32 ?_
          refine gC_9_10 X h (hS 9) (Nat.le_of_ble_eq_true rfl) Nat.one_pos lk_X10_145 dX10_runwayTold_35 ?_
          refine lv_iload_n X.x X.b dX10_runwayTold_38 rfl (lv_at hl 1 rfl) ?_
          obtain ⟨b5, hf⟩ := wGi_s hf
          refine aC_15 X h (hS 15) (Nat.le_of_ble_eq_true rfl) Nat.one_pos b5 dX10_runwayTold_39 ?_
          refine lv_goto (tgt := 45) X.x X.b dX10_runwayTold_40 (by decide) ?_
          cases (Option.some.inj hf).trans JR
          exact ro_iret X h dX10_runwayTold_45
      · have hf := wT c3 hf
        refine lv_aload_n X.x X.b dX10_runwayTold_16 rfl (lv_at hl 0 rfl) ?_
        refine gC_0_0 X h (hS 0) Nat.one_pos Nat.one_pos lk_X10_25 dX10_runwayTold_17 ?_
        refine gC_9_9 X h (hS 9) (Nat.le_of_ble_eq_true rfl) Nat.one_pos lk_X10_142 dX10_runwayTold_20 ?_
        refine lv_iload_n X.x X.b dX10_runwayTold_23 rfl (lv_at hl 1 rfl) ?_
        obtain ⟨b6, hf⟩ := wGi_s hf
        refine aC_14 X h (hS 14) (Nat.le_of_ble_eq_true rfl) Nat.one_pos b6 dX10_runwayTold_24 ?_
        cases (Option.some.inj hf).trans JR
        exact ro_iret X h dX10_runwayTold_25
    · have hf := wF c2 hf
      refine lv_bipush (v := (-3)) X.x X.b dX10_runwayTold_9 (by decide) ?_
      cases (Option.some.inj hf).trans JR
      exact ro_iret X h dX10_runwayTold_11
set_option maxHeartbeats 4000000 in
set_option maxRecDepth 20000 in
theorem kX10_ticks (l : Launch) {k : En} {S : Nat → Prop} (hS : ∀ t, S t) {g0 : Mm} {a1 : Int32} {a2 : Int32} {res : Int32} (hf : fX10_ticks g0 a1 a2 = some res) : Mt l yX10_ticks cX10_ticks 3 (some .int) (RmN 1 21) YC S k [.ref (k.1 + adC 0 0 0), .int a1, .int a2] g0 (some (.int res)) g0 := by
  refine Mt.of (by decide) (Nat.le_of_ble_eq_true rfl) ?_
  intro p e s m args below meth c ls X _ h hl
  have X : Cx YC S k p s m args meth c cX10_ticks 3 (some .int) RX10 := X
  have hl : lv_has ls 3 [(0, .ref (k.1 + adC 0 0 0)), (1, .int a1), (2, .int a2)] := hl
  have JR : res = res := rfl
  unfold fX10_ticks at hf
  refine lv_iload_n X.x X.b dX10_ticks_0 rfl (lv_at hl 1 rfl) ?_
  obtain ⟨y2, e1, hf⟩ := wBd_s hf
  refine ro_callsI (As := [.int a1]) (g1 := g0) (x := y2) X h (kX3_isKind l hS e1) mv_X3_isKind lk_X10_70 ⟨rfl, rfl⟩ ⟨(Nat.le_of_ble_eq_true rfl), (Nat.le_of_ble_eq_true rfl)⟩ rfl hl rfl (Nat.le_of_ble_eq_true rfl) ⟨Nat.zero_le _, Nat.zero_le _⟩ dX10_ticks_1 (fun H locs h => ?_)
  refine lv_if_eq (tgt := 17) X.x X.b dX10_ticks_4 (by decide) (fun c3 => ?_) (fun c3 => ?_)
  · have hf := wT c3 hf
    refine lv_bipush (v := (-2)) X.x X.b dX10_ticks_17 (by decide) ?_
    cases (Option.some.inj hf).trans JR
    exact ro_iret X h dX10_ticks_19
  · have hf := wF c3 hf
    refine lv_iload_n X.x X.b dX10_ticks_7 rfl (lv_at hl 2 rfl) ?_
    refine lv_if_lt (tgt := 17) X.x X.b dX10_ticks_8 (by decide) (fun c4 => ?_) (fun c4 => ?_)
    · have hf := wT c4 hf
      refine lv_bipush (v := (-2)) X.x X.b dX10_ticks_17 (by decide) ?_
      cases (Option.some.inj hf).trans JR
      exact ro_iret X h dX10_ticks_19
    · have hf := wF c4 hf
      refine lv_iload_n X.x X.b dX10_ticks_11 rfl (lv_at hl 2 rfl) ?_
      refine lv_bipush (v := 8) X.x X.b dX10_ticks_12 (by decide) ?_
      refine lv_icmp_lt (tgt := 20) X.x X.b dX10_ticks_14 (by decide) (fun c5 => ?_) (fun c5 => ?_)
      · have hf := wT c5 hf
        refine lv_iload_n X.x X.b dX10_ticks_20 rfl (lv_at hl 1 rfl) ?_
        refine lv_iload_n X.x X.b dX10_ticks_21 rfl (lv_at hl 2 rfl) ?_
        obtain ⟨y7, e6, hf⟩ := wBd_s hf
        refine ro_callsI (As := [.int a1, .int a2]) (g1 := g0) (x := y7) X h (kX3_lasts l hS e6) mv_X3_lasts lk_X10_148 ⟨rfl, rfl⟩ ⟨(Nat.le_of_ble_eq_true rfl), (Nat.le_of_ble_eq_true rfl)⟩ rfl hl rfl (Nat.le_of_ble_eq_true rfl) ⟨Nat.zero_le _, Nat.zero_le _⟩ dX10_ticks_22 (fun H locs h => ?_)
        cases (Option.some.inj hf).trans JR
        exact ro_iret X h dX10_ticks_25
      · have hf := wF c5 hf
        refine lv_bipush (v := (-2)) X.x X.b dX10_ticks_17 (by decide) ?_
        cases (Option.some.inj hf).trans JR
        exact ro_iret X h dX10_ticks_19
set_option maxHeartbeats 4000000 in
set_option maxRecDepth 20000 in
theorem kX10_kindTold (l : Launch) {k : En} {S : Nat → Prop} (hS : ∀ t, S t) {g0 : Mm} {a1 : Int32} {a2 : Int32} {res : Int32} (hf : fX10_kindTold g0 a1 a2 = some res) : Mt l yX10_kindTold cX10_kindTold 3 (some .int) (RmN 1 20) YC S k [.ref (k.1 + adC 0 0 0), .int a1, .int a2] g0 (some (.int res)) g0 := by
  refine Mt.of (by decide) (Nat.le_of_ble_eq_true rfl) ?_
  intro p e s m args below meth c ls X _ h hl
  have X : Cx YC S k p s m args meth c cX10_kindTold 3 (some .int) RX10 := X
  have hl : lv_has ls 3 [(0, .ref (k.1 + adC 0 0 0)), (1, .int a1), (2, .int a2)] := hl
  have JR : res = res := rfl
  unfold fX10_kindTold at hf
  refine lv_iload_n X.x X.b dX10_kindTold_0 rfl (lv_at hl 1 rfl) ?_
  obtain ⟨y2, e1, hf⟩ := wBd_s hf
  refine ro_callsI (As := [.int a1]) (g1 := g0) (x := y2) X h (kX3_isKind l hS e1) mv_X3_isKind lk_X10_70 ⟨rfl, rfl⟩ ⟨(Nat.le_of_ble_eq_true rfl), (Nat.le_of_ble_eq_true rfl)⟩ rfl hl rfl (Nat.le_of_ble_eq_true rfl) ⟨Nat.zero_le _, Nat.zero_le _⟩ dX10_kindTold_1 (fun H locs h => ?_)
  refine lv_if_ne (tgt := 10) X.x X.b dX10_kindTold_4 (by decide) (fun c3 => ?_) (fun c3 => ?_)
  · have hf := wF c3 hf
    refine lv_iload_n X.x X.b dX10_kindTold_10 rfl (lv_at hl 2 rfl) ?_
    refine lv_if_ne (tgt := 19) X.x X.b dX10_kindTold_11 (by decide) (fun c4 => ?_) (fun c4 => ?_)
    · have hf := wF c4 hf
      refine lv_iload_n X.x X.b dX10_kindTold_19 rfl (lv_at hl 2 rfl) ?_
      refine lv_iconst (v := 1) X.x X.b dX10_kindTold_20 (by decide) ?_
      refine lv_icmp_ne (tgt := 31) X.x X.b dX10_kindTold_21 (by decide) (fun c5 => ?_) (fun c5 => ?_)
      · have hf := wF c5 hf
        refine lv_bipush (v := (-2)) X.x X.b dX10_kindTold_31 (by decide) ?_
        cases (Option.some.inj hf).trans JR
        exact ro_iret X h dX10_kindTold_33
      · have hf := wT c5 hf
        refine lv_iload_n X.x X.b dX10_kindTold_24 rfl (lv_at hl 1 rfl) ?_
        obtain ⟨y7, e6, hf⟩ := wBd_s hf
        refine ro_callsI (As := [.int a1]) (g1 := g0) (x := y7) X h (kX3_roll l hS e6) mv_X3_roll lk_X10_154 ⟨rfl, rfl⟩ ⟨(Nat.le_of_ble_eq_true rfl), (Nat.le_of_ble_eq_true rfl)⟩ rfl hl rfl (Nat.le_of_ble_eq_true rfl) ⟨Nat.zero_le _, Nat.zero_le _⟩ dX10_kindTold_25 (fun H locs h => ?_)
        refine lv_goto (tgt := 33) X.x X.b dX10_kindTold_28 (by decide) ?_
        cases (Option.some.inj hf).trans JR
        exact ro_iret X h dX10_kindTold_33
    · have hf := wT c4 hf
      refine lv_iload_n X.x X.b dX10_kindTold_14 rfl (lv_at hl 1 rfl) ?_
      obtain ⟨y9, e8, hf⟩ := wBd_s hf
      refine ro_callsI (As := [.int a1]) (g1 := g0) (x := y9) X h (kX3_size l hS e8) mv_X3_size lk_X10_151 ⟨rfl, rfl⟩ ⟨(Nat.le_of_ble_eq_true rfl), (Nat.le_of_ble_eq_true rfl)⟩ rfl hl rfl (Nat.le_of_ble_eq_true rfl) ⟨Nat.zero_le _, Nat.zero_le _⟩ dX10_kindTold_15 (fun H locs h => ?_)
      cases (Option.some.inj hf).trans JR
      exact ro_iret X h dX10_kindTold_18
  · have hf := wT c3 hf
    refine lv_bipush (v := (-2)) X.x X.b dX10_kindTold_7 (by decide) ?_
    cases (Option.some.inj hf).trans JR
    exact ro_iret X h dX10_kindTold_9
set_option maxHeartbeats 4000000 in
set_option maxRecDepth 20000 in
theorem kX10_trucks (l : Launch) {k : En} {S : Nat → Prop} (hS : ∀ t, S t) {g0 : Mm} {a1 : Int32} {a2 : Int32} {res : Int32} (hf : fX10_trucks g0 a1 a2 = some res) : Mt l yX10_trucks cX10_trucks 3 (some .int) (RmN 0 0) YC S k [.ref (k.1 + adC 0 0 0), .int a1, .int a2] g0 (some (.int res)) g0 := by
  refine Mt.of (by decide) (Nat.le_of_ble_eq_true rfl) ?_
  intro p e s m args below meth c ls X _ h hl
  have X : Cx YC S k p s m args meth c cX10_trucks 3 (some .int) RX10 := X
  have hl : lv_has ls 3 [(0, .ref (k.1 + adC 0 0 0)), (1, .int a1), (2, .int a2)] := hl
  have JR : res = res := rfl
  unfold fX10_trucks at hf
  refine lv_iload_n X.x X.b dX10_trucks_0 rfl (lv_at hl 1 rfl) ?_
  refine lv_if_lt (tgt := 9) X.x X.b dX10_trucks_1 (by decide) (fun c1 => ?_) (fun c1 => ?_)
  · have hf := wT c1 hf
    refine lv_bipush (v := (-3)) X.x X.b dX10_trucks_9 (by decide) ?_
    cases (Option.some.inj hf).trans JR
    exact ro_iret X h dX10_trucks_11
  · have hf := wF c1 hf
    refine lv_iload_n X.x X.b dX10_trucks_4 rfl (lv_at hl 1 rfl) ?_
    refine lv_iconst (v := 5) X.x X.b dX10_trucks_5 (by decide) ?_
    refine lv_icmp_lt (tgt := 12) X.x X.b dX10_trucks_6 (by decide) (fun c2 => ?_) (fun c2 => ?_)
    · have hf := wT c2 hf
      refine lv_iload_n X.x X.b dX10_trucks_12 rfl (lv_at hl 2 rfl) ?_
      refine lv_if_ne (tgt := 26) X.x X.b dX10_trucks_13 (by decide) (fun c3 => ?_) (fun c3 => ?_)
      · have hf := wF c3 hf
        refine lv_iload_n X.x X.b dX10_trucks_26 rfl (lv_at hl 2 rfl) ?_
        refine lv_iconst (v := 1) X.x X.b dX10_trucks_27 (by decide) ?_
        refine lv_icmp_ne (tgt := 43) X.x X.b dX10_trucks_28 (by decide) (fun c4 => ?_) (fun c4 => ?_)
        · have hf := wF c4 hf
          refine lv_bipush (v := (-2)) X.x X.b dX10_trucks_43 (by decide) ?_
          cases (Option.some.inj hf).trans JR
          exact ro_iret X h dX10_trucks_45
        · have hf := wT c4 hf
          refine lv_aload_n X.x X.b dX10_trucks_31 rfl (lv_at hl 0 rfl) ?_
          refine gC_0_0 X h (hS 0) Nat.one_pos Nat.one_pos lk_X10_25 dX10_trucks_32 ?_
          refine gC_9_6 X h (hS 9) (Nat.le_of_ble_eq_true rfl) Nat.one_pos lk_X10_63 dX10_trucks_35 ?_
          refine lv_iload_n X.x X.b dX10_trucks_38 rfl (lv_at hl 1 rfl) ?_
          obtain ⟨b5, hf⟩ := wGi_s hf
          refine aC_11 X h (hS 11) (Nat.le_of_ble_eq_true rfl) Nat.one_pos b5 dX10_trucks_39 ?_
          refine lv_goto (tgt := 45) X.x X.b dX10_trucks_40 (by decide) ?_
          cases (Option.some.inj hf).trans JR
          exact ro_iret X h dX10_trucks_45
      · have hf := wT c3 hf
        refine lv_aload_n X.x X.b dX10_trucks_16 rfl (lv_at hl 0 rfl) ?_
        refine gC_0_0 X h (hS 0) Nat.one_pos Nat.one_pos lk_X10_25 dX10_trucks_17 ?_
        refine gC_9_5 X h (hS 9) (Nat.le_of_ble_eq_true rfl) Nat.one_pos lk_X10_67 dX10_trucks_20 ?_
        refine lv_iload_n X.x X.b dX10_trucks_23 rfl (lv_at hl 1 rfl) ?_
        obtain ⟨b6, hf⟩ := wGi_s hf
        refine aC_10 X h (hS 10) (Nat.le_of_ble_eq_true rfl) Nat.one_pos b6 dX10_trucks_24 ?_
        cases (Option.some.inj hf).trans JR
        exact ro_iret X h dX10_trucks_25
    · have hf := wF c2 hf
      refine lv_bipush (v := (-3)) X.x X.b dX10_trucks_9 (by decide) ?_
      cases (Option.some.inj hf).trans JR
      exact ro_iret X h dX10_trucks_11
set_option maxHeartbeats 4000000 in
set_option maxRecDepth 20000 in
theorem wX10_beside_L41 {k : En} {S : Nat → Prop} (hS : ∀ t, S t) {a1 : Int32} {a2 : Int32} {res : Mm × Int32} (X : Cx YC S k p s m args meth c cX10_beside 5 (some .int) RX10) {r : Mm × Int32} (JR : r = res) :
    ∀ (fu : Nat) (g : Mm) (x4 : Int32) (H : Heap) (locs : List Loc) (ls : Array Slot), Hx YC S k s g H locs → lv_has ls 5 [(0, .ref (k.1 + adC 0 0 0)), (1, .int a1), (2, .int a2), (4, .int x4)] → wLp (fun q => fX10_beside_B41 q.1 a1 a2 q.2) fu (g, x4) = some r → W p l e (RmN 6 141) s m args below meth c H locs 0 0 (Fin YC S k args s below (some (.int res.2)) res.1) (F0 m 41 ls []) := by
  intro fu
  induction fu with
  | zero => intro g x4 H locs ls h hl hf; exact (wLp_0 hf).elim
  | succ fu ih1 =>
    intro g x4 H locs ls h hl hf
    obtain ⟨r1, hf, hr⟩ := wLp_s hf
    have J1n : ∀ (g : Mm) (x4 : Int32), r1 = .inl (g, x4) → ∀ (H : Heap) (locs : List Loc) (ls : Array Slot), Hx YC S k s g H locs → lv_has ls 5 [(0, .ref (k.1 + adC 0 0 0)), (1, .int a1), (2, .int a2), (4, .int x4)] → W p l e (RmN 6 141) s m args below meth c H locs 0 0 (Fin YC S k args s below (some (.int res.2)) res.1) (F0 m 41 ls []) := fun g x4 q H locs ls h hl => by subst q; exact ih1 _ _ _ _ _ h hl hr
    have JRn : ∀ t1, r1 = .inr t1 → t1 = res := fun t1 q => by subst q; obtain rfl := Option.some.inj hr; exact JR
    have J1 := J1n
    have JR := JRn
    clear J1n JRn
    have hf : fX10_beside_B41 g a1 a2 x4 = some r1 := hf
    unfold fX10_beside_B41 at hf
    refine lv_iload X.x X.b dX10_beside_41 (lv_at hl 3 rfl) ?_
    refine lv_iload_n X.x X.b dX10_beside_43 rfl (lv_at hl 1 rfl) ?_
    refine lv_icmp_ge (tgt := 60) X.x X.b dX10_beside_44 (by decide) (fun c11 => ?_) (fun c11 => ?_)
    · have hf := wT c11 hf
      obtain ⟨t12, hf, e13⟩ := wEx_s hf
      have JR := JR t12 e13
      refine lv_aload_n X.x X.b dX10_beside_60 rfl (lv_at hl 0 rfl) ?_
      refine gC_0_1 X h (hS 0) Nat.one_pos Nat.one_pos lk_X10_29 dX10_beside_61 ?_
      refine lv_iload_n X.x X.b dX10_beside_64 rfl (lv_at hl 2 rfl) ?_
      obtain ⟨y15, e14, hf⟩ := wBd_s hf
      refine ro_callvI (As := [.int a2]) (g1 := g) (x := y15) X h (kX4_outcome l hS (Nat.le_of_ble_eq_true rfl) e14) mv_X4_outcome lk_X10_161 ⟨rfl, rfl⟩ ⟨(Nat.le_of_ble_eq_true rfl), (Nat.le_of_ble_eq_true rfl)⟩ (rC_9 X h (hS 9) (Nat.le_of_ble_eq_true rfl) Nat.one_pos) rfl hl rfl (Nat.le_of_ble_eq_true rfl) ⟨Nat.zero_le _, Nat.zero_le _⟩ dX10_beside_65 (fun H locs h => ?_)
      cases (Option.some.inj hf).trans JR
      exact ro_iret X h dX10_beside_68
    · have hf := wF c11 hf
      refine lv_aload_n X.x X.b dX10_beside_47 rfl (lv_at hl 0 rfl) ?_
      refine gC_0_1 X h (hS 0) Nat.one_pos Nat.one_pos lk_X10_29 dX10_beside_48 ?_
      obtain ⟨g18, e16, hf⟩ := wBd_s hf
      refine ro_callvV (As := []) (g1 := g18) X h (kX4_step l hS (Nat.le_of_ble_eq_true rfl) e16) mv_X4_step lk_X10_117 ⟨rfl, rfl⟩ ⟨(Nat.le_of_ble_eq_true rfl), (Nat.le_of_ble_eq_true rfl)⟩ (rC_9 X h (hS 9) (Nat.le_of_ble_eq_true rfl) Nat.one_pos) rfl hl rfl (Nat.le_of_ble_eq_true rfl) ⟨Nat.zero_le _, Nat.zero_le _⟩ dX10_beside_51 (fun H locs h => ?_)
      obtain ⟨y19, e20, hf⟩ := wLe_s hf
      refine lv_iinc (v := y19) (lv' := [(4, .int y19), (0, .ref (k.1 + adC 0 0 0)), (1, .int a1), (2, .int a2)]) X.x X.b dX10_beside_54 hl (k := 3) rfl (by rw [e20]; rfl) (by decide) rfl (fun ls hl => ?_)
      refine lv_goto (tgt := 41) X.x X.b dX10_beside_57 (by decide) ?_
      exact J1 _ _ (Option.some.inj hf).symm _ _ _ h (lv_sub hl [1, 2, 3, 0] rfl)
set_option maxHeartbeats 4000000 in
set_option maxRecDepth 20000 in
theorem kX10_beside (l : Launch) {k : En} {S : Nat → Prop} (hS : ∀ t, S t) {a1 : Int32} {a2 : Int32} {res : Mm × Int32} {g : Mm} (hf : fX10_beside g a1 a2 = some res) : Mt l yX10_beside cX10_beside 5 (some .int) (RmN 6 141) YC S k [.ref (k.1 + adC 0 0 0), .int a1, .int a2] g (some (.int res.2)) res.1 := by
  refine Mt.of (by decide) (Nat.le_of_ble_eq_true rfl) ?_
  intro p e s m args below meth c ls X _ h hl
  have X : Cx YC S k p s m args meth c cX10_beside 5 (some .int) RX10 := X
  have hl : lv_has ls 5 [(0, .ref (k.1 + adC 0 0 0)), (1, .int a1), (2, .int a2)] := hl
  have JR : res = res := rfl
  unfold fX10_beside at hf
  refine lv_iload_n X.x X.b dX10_beside_0 rfl (lv_at hl 2 rfl) ?_
  refine lv_if_lt (tgt := 9) X.x X.b dX10_beside_1 (by decide) (fun c1 => ?_) (fun c1 => ?_)
  · have hf := wT c1 hf
    refine lv_bipush (v := (-2)) X.x X.b dX10_beside_9 (by decide) ?_
    cases (Option.some.inj hf).trans JR
    exact ro_iret X h dX10_beside_11
  · have hf := wF c1 hf
    refine lv_iload_n X.x X.b dX10_beside_4 rfl (lv_at hl 2 rfl) ?_
    refine lv_iconst (v := 5) X.x X.b dX10_beside_5 (by decide) ?_
    refine lv_icmp_lt (tgt := 12) X.x X.b dX10_beside_6 (by decide) (fun c2 => ?_) (fun c2 => ?_)
    · have hf := wT c2 hf
      refine lv_aload_n X.x X.b dX10_beside_12 rfl (lv_at hl 0 rfl) ?_
      refine lv_iload_n X.x X.b dX10_beside_13 rfl (lv_at hl 1 rfl) ?_
      refine lv_sipush (v := 200) X.x X.b dX10_beside_14 (by decide) ?_
      obtain ⟨y4, e3, hf⟩ := wBd_s hf
      refine ro_callvI (As := [.int a1, .int (200 : Int32)]) (g1 := g) (x := y4) X h (kX10_refusedAhead l hS e3) mv_X10_refusedAhead lk_X10_113 ⟨rfl, rfl⟩ ⟨(Nat.le_of_ble_eq_true rfl), (Nat.le_of_ble_eq_true rfl)⟩ (rC_0 X h (hS 0) Nat.one_pos Nat.one_pos) rfl hl rfl (Nat.le_of_ble_eq_true rfl) ⟨Nat.zero_le _, Nat.zero_le _⟩ dX10_beside_17 (fun H locs h => ?_)
      refine lv_istore_n (lv' := [(3, .int y4), (0, .ref (k.1 + adC 0 0 0)), (1, .int a1), (2, .int a2)]) X.x X.b dX10_beside_20 rfl hl (by decide) rfl (fun ls hl => ?_)
      refine lv_iload_n X.x X.b dX10_beside_21 rfl (lv_at hl 0 rfl) ?_
      refine lv_if_eq (tgt := 27) X.x X.b dX10_beside_22 (by decide) (fun c5 => ?_) (fun c5 => ?_)
      · have hf := wT c5 hf
        refine lv_aload_n X.x X.b dX10_beside_27 rfl (lv_at hl 1 rfl) ?_
        refine gC_0_1 X h (hS 0) Nat.one_pos Nat.one_pos lk_X10_29 dX10_beside_28 ?_
        refine lv_aload_n X.x X.b dX10_beside_31 rfl (lv_at hl 1 rfl) ?_
        refine gC_0_0 X h (hS 0) Nat.one_pos Nat.one_pos lk_X10_25 dX10_beside_32 ?_
        obtain ⟨g8, e6, hf⟩ := wBd_s hf
        refine ro_callvV (As := [.ref (k.1 + adC 9 0 0)]) (g1 := g8) X h (kX4_become l hS (Nat.le_of_ble_eq_true rfl) (Nat.le_of_ble_eq_true rfl) e6) mv_X4_become lk_X10_157 ⟨rfl, rfl⟩ ⟨(Nat.le_of_ble_eq_true rfl), (Nat.le_of_ble_eq_true rfl)⟩ (rC_9 X h (hS 9) (Nat.le_of_ble_eq_true rfl) Nat.one_pos) rfl hl rfl (Nat.le_of_ble_eq_true rfl) ⟨Nat.zero_le _, Nat.zero_le _⟩ dX10_beside_35 (fun H locs h => ?_)
        refine lv_iconst (v := 0) X.x X.b dX10_beside_38 (by decide) ?_
        obtain ⟨y9, e10, hf⟩ := wLe_s hf
        refine lv_nmi e10 ?_
        refine lv_istore (lv' := [(4, .int y9), (3, .int y4), (0, .ref (k.1 + adC 0 0 0)), (1, .int a1), (2, .int a2)]) X.x X.b dX10_beside_39 hl (by decide) rfl (fun ls hl => ?_)
        exact wX10_beside_L41 hS X JR _ _ _ _ _ _ h (lv_sub hl [2, 3, 4, 0] rfl) hf
      · have hf := wF c5 hf
        refine lv_iload_n X.x X.b dX10_beside_25 rfl (lv_at hl 0 rfl) ?_
        cases (Option.some.inj hf).trans JR
        exact ro_iret X h dX10_beside_26
    · have hf := wF c2 hf
      refine lv_bipush (v := (-2)) X.x X.b dX10_beside_9 (by decide) ?_
      cases (Option.some.inj hf).trans JR
      exact ro_iret X h dX10_beside_11
set_option maxHeartbeats 4000000 in
set_option maxRecDepth 20000 in
theorem wX10_areAhead_b39 {k : En} {S : Nat → Prop} (hS : ∀ t, S t) {g0 : Mm} {a1 : Int32} {res : Int32} (X : Cx YC S k p s m args meth c cX10_areAhead 3 (some .boolean) RX10) {x2 : Int32} {H : Heap} {locs : List Loc} {ls : Array Slot} (h : Hx YC S k s g0 H locs) (hl : lv_has ls 3 [(0, .ref (k.1 + adC 0 0 0)), (1, .int a1), (2, .int x2)]) {r : (Int32) ⊕ (Int32)} (hf : fX10_areAhead_b39 g0 a1 x2 = some r) (J1 : ∀ (x2 : Int32), r = .inl x2 → ∀ (H : Heap) (locs : List Loc) (ls : Array Slot), Hx YC S k s g0 H locs → lv_has ls 3 [(0, .ref (k.1 + adC 0 0 0)), (1, .int a1), (2, .int x2)] → W p l e (RmN 1 20) s m args below meth c H locs 0 0 (Fin YC S k args s below (some (.int res)) g0) (F0 m 2 ls [])) (JR : ∀ t1, r = .inr t1 → t1 = res) :
    W p l e (RmN 1 20) s m args below meth c H locs 0 0 (Fin YC S k args s below (some (.int res)) g0) (F0 m 39 ls []) := by
  unfold fX10_areAhead_b39 at hf
  obtain ⟨y7, e8, hf⟩ := wLe_s hf
  refine lv_iinc (v := y7) (lv' := [(2, .int y7), (0, .ref (k.1 + adC 0 0 0)), (1, .int a1)]) X.x X.b dX10_areAhead_39 hl (k := 2) rfl (by rw [e8]; rfl) (by decide) rfl (fun ls hl => ?_)
  refine lv_goto (tgt := 2) X.x X.b dX10_areAhead_42 (by decide) ?_
  exact J1 _ (Option.some.inj hf).symm _ _ _ h (lv_sub hl [1, 2, 0] rfl)
set_option maxHeartbeats 4000000 in
set_option maxRecDepth 20000 in
theorem wX10_areAhead_L2 {k : En} {S : Nat → Prop} (hS : ∀ t, S t) {g0 : Mm} {a1 : Int32} {res : Int32} (X : Cx YC S k p s m args meth c cX10_areAhead 3 (some .boolean) RX10) {r : Int32} (JR : r = res) :
    ∀ (fu : Nat) (x2 : Int32) (H : Heap) (locs : List Loc) (ls : Array Slot), Hx YC S k s g0 H locs → lv_has ls 3 [(0, .ref (k.1 + adC 0 0 0)), (1, .int a1), (2, .int x2)] → wLp (fun q => fX10_areAhead_B2 g0 a1 q) fu x2 = some r → W p l e (RmN 1 20) s m args below meth c H locs 0 0 (Fin YC S k args s below (some (.int res)) g0) (F0 m 2 ls []) := by
  intro fu
  induction fu with
  | zero => intro x2 H locs ls h hl hf; exact (wLp_0 hf).elim
  | succ fu ih1 =>
    intro x2 H locs ls h hl hf
    obtain ⟨r1, hf, hr⟩ := wLp_s hf
    have J1n : ∀ (x2 : Int32), r1 = .inl x2 → ∀ (H : Heap) (locs : List Loc) (ls : Array Slot), Hx YC S k s g0 H locs → lv_has ls 3 [(0, .ref (k.1 + adC 0 0 0)), (1, .int a1), (2, .int x2)] → W p l e (RmN 1 20) s m args below meth c H locs 0 0 (Fin YC S k args s below (some (.int res)) g0) (F0 m 2 ls []) := fun x2 q H locs ls h hl => by subst q; exact ih1 _ _ _ _ h hl hr
    have JRn : ∀ t1, r1 = .inr t1 → t1 = res := fun t1 q => by subst q; obtain rfl := Option.some.inj hr; exact JR
    have J1 := J1n
    have JR := JRn
    clear J1n JRn
    have hf : fX10_areAhead_B2 g0 a1 x2 = some r1 := hf
    unfold fX10_areAhead_B2 at hf
    refine lv_iload_n X.x X.b dX10_areAhead_2 rfl (lv_at hl 2 rfl) ?_
    refine lv_aload_n X.x X.b dX10_areAhead_3 rfl (lv_at hl 0 rfl) ?_
    refine gC_0_0 X h (hS 0) Nat.one_pos Nat.one_pos lk_X10_25 dX10_areAhead_4 ?_
    refine gC_9_2 X h (hS 9) (Nat.le_of_ble_eq_true rfl) Nat.one_pos lk_X10_193 dX10_areAhead_7 ?_
    refine lv_icmp_ge (tgt := 45) X.x X.b dX10_areAhead_10 (by decide) (fun c3 => ?_) (fun c3 => ?_)
    · have hf := wT c3 hf
      obtain ⟨t4, hf, e5⟩ := wEx_s hf
      have JR := JR t4 e5
      refine lv_iconst (v := 1) X.x X.b dX10_areAhead_45 (by decide) ?_
      cases (Option.some.inj hf).trans JR
      exact ro_zret X h (Or.inr rfl) dX10_areAhead_46
    · have hf := wF c3 hf
      refine lv_iload_n X.x X.b dX10_areAhead_13 rfl (lv_at hl 1 rfl) ?_
      refine lv_iload_n X.x X.b dX10_areAhead_14 rfl (lv_at hl 2 rfl) ?_
      refine lv_ishr X.x X.b dX10_areAhead_15 ?_
      refine lv_iconst (v := 1) X.x X.b dX10_areAhead_16 (by decide) ?_
      refine lv_iand X.x X.b dX10_areAhead_17 ?_
      refine lv_iconst (v := 1) X.x X.b dX10_areAhead_18 (by decide) ?_
      refine lv_icmp_ne (tgt := 39) X.x X.b dX10_areAhead_19 (by decide) (fun c6 => ?_) (fun c6 => ?_)
      · have hf := wF c6 hf
        exact wX10_areAhead_b39 hS X h (lv_sub hl [0, 1, 2] rfl) hf J1 JR
      · have hf := wT c6 hf
        refine lv_aload_n X.x X.b dX10_areAhead_22 rfl (lv_at hl 0 rfl) ?_
        refine gC_0_0 X h (hS 0) Nat.one_pos Nat.one_pos lk_X10_25 dX10_areAhead_23 ?_
        refine gC_9_11 X h (hS 9) (Nat.le_of_ble_eq_true rfl) Nat.one_pos lk_X10_85 dX10_areAhead_26 ?_
        refine lv_iload_n X.x X.b dX10_areAhead_29 rfl (lv_at hl 2 rfl) ?_
        obtain ⟨b9, hf⟩ := wGi_s hf
        refine qC_16 X h (hS 16) (Nat.le_of_ble_eq_true rfl) Nat.one_pos b9 dX10_areAhead_30 ?_
        obtain ⟨y11, e10, hf⟩ := wBd_s hf
        refine ro_callvI (As := []) (g1 := g0) (x := y11) X h (kX9_isAhead l hS (Nat.le_of_ble_eq_true rfl) (vin_lt b9) e10) mv_X9_isAhead lk_X10_103 ⟨rfl, rfl⟩ ⟨(Nat.le_of_ble_eq_true rfl), (Nat.le_of_ble_eq_true rfl)⟩ (rC_19 X h (hS 19) (Nat.le_of_ble_eq_true rfl) (vin_lt b9)) rfl hl rfl (Nat.le_of_ble_eq_true rfl) ⟨Nat.zero_le _, Nat.zero_le _⟩ dX10_areAhead_31 (fun H locs h => ?_)
        refine lv_if_ne (tgt := 39) X.x X.b dX10_areAhead_34 (by decide) (fun c12 => ?_) (fun c12 => ?_)
        · have hf := wF c12 hf
          exact wX10_areAhead_b39 hS X h (lv_sub hl [0, 1, 2] rfl) hf J1 JR
        · have hf := wT c12 hf
          obtain ⟨t13, hf, e14⟩ := wEx_s hf
          have JR := JR t13 e14
          refine lv_iconst (v := 0) X.x X.b dX10_areAhead_37 (by decide) ?_
          cases (Option.some.inj hf).trans JR
          exact ro_zret X h (Or.inl rfl) dX10_areAhead_38
set_option maxHeartbeats 4000000 in
set_option maxRecDepth 20000 in
theorem kX10_areAhead (l : Launch) {k : En} {S : Nat → Prop} (hS : ∀ t, S t) {g0 : Mm} {a1 : Int32} {res : Int32} (hf : fX10_areAhead g0 a1 = some res) : Mt l yX10_areAhead cX10_areAhead 3 (some .boolean) (RmN 1 20) YC S k [.ref (k.1 + adC 0 0 0), .int a1] g0 (some (.int res)) g0 := by
  refine Mt.of (by decide) (Nat.le_of_ble_eq_true rfl) ?_
  intro p e s m args below meth c ls X _ h hl
  have X : Cx YC S k p s m args meth c cX10_areAhead 3 (some .boolean) RX10 := X
  have hl : lv_has ls 3 [(0, .ref (k.1 + adC 0 0 0)), (1, .int a1)] := hl
  have JR : res = res := rfl
  unfold fX10_areAhead at hf
  refine lv_iconst (v := 0) X.x X.b dX10_areAhead_0 (by decide) ?_
  obtain ⟨y1, e2, hf⟩ := wLe_s hf
  refine lv_nmi e2 ?_
  refine lv_istore_n (lv' := [(2, .int y1), (0, .ref (k.1 + adC 0 0 0)), (1, .int a1)]) X.x X.b dX10_areAhead_1 rfl hl (by decide) rfl (fun ls hl => ?_)
  exact wX10_areAhead_L2 hS X JR _ _ _ _ _ h (lv_sub hl [1, 2, 0] rfl) hf
set_option maxHeartbeats 4000000 in
set_option maxRecDepth 20000 in
theorem kX10_refusedPlan (l : Launch) {k : En} {S : Nat → Prop} (hS : ∀ t, S t) {g0 : Mm} {a1 : Int32} {a2 : Int32} {res : Int32} (hf : fX10_refusedPlan g0 a1 a2 = some res) : Mt l yX10_refusedPlan cX10_refusedPlan 4 (some .int) (RmN 2 42) YC S k [.ref (k.1 + adC 0 0 0), .int a1, .int a2] g0 (some (.int res)) g0 := by
  refine Mt.of (by decide) (Nat.le_of_ble_eq_true rfl) ?_
  intro p e s m args below meth c ls X _ h hl
  have X : Cx YC S k p s m args meth c cX10_refusedPlan 4 (some .int) RX10 := X
  have hl : lv_has ls 4 [(0, .ref (k.1 + adC 0 0 0)), (1, .int a1), (2, .int a2)] := hl
  have JR : res = res := rfl
  unfold fX10_refusedPlan at hf
  refine lv_iload_n X.x X.b dX10_refusedPlan_0 rfl (lv_at hl 1 rfl) ?_
  refine lv_if_eq (tgt := 16) X.x X.b dX10_refusedPlan_1 (by decide) (fun c1 => ?_) (fun c1 => ?_)
  · have hf := wT c1 hf
    refine lv_iconst (v := (-1)) X.x X.b dX10_refusedPlan_16 (by decide) ?_
    cases (Option.some.inj hf).trans JR
    exact ro_iret X h dX10_refusedPlan_17
  · have hf := wF c1 hf
    refine lv_iload_n X.x X.b dX10_refusedPlan_4 rfl (lv_at hl 1 rfl) ?_
    refine lv_aload_n X.x X.b dX10_refusedPlan_5 rfl (lv_at hl 0 rfl) ?_
    refine gC_0_0 X h (hS 0) Nat.one_pos Nat.one_pos lk_X10_25 dX10_refusedPlan_6 ?_
    refine gC_9_2 X h (hS 9) (Nat.le_of_ble_eq_true rfl) Nat.one_pos lk_X10_193 dX10_refusedPlan_9 ?_
    refine lv_iushr X.x X.b dX10_refusedPlan_12 rfl ?_
    refine lv_if_eq (tgt := 18) X.x X.b dX10_refusedPlan_13 (by decide) (fun c2 => ?_) (fun c2 => ?_)
    · have hf := wT c2 hf
      refine lv_aload_n X.x X.b dX10_refusedPlan_18 rfl (lv_at hl 0 rfl) ?_
      refine lv_iload_n X.x X.b dX10_refusedPlan_19 rfl (lv_at hl 2 rfl) ?_
      refine lv_bipush (v := 40) X.x X.b dX10_refusedPlan_20 (by decide) ?_
      obtain ⟨y4, e3, hf⟩ := wBd_s hf
      refine ro_callvI (As := [.int a2, .int (40 : Int32)]) (g1 := g0) (x := y4) X h (kX10_refusedAhead l hS e3) mv_X10_refusedAhead lk_X10_113 ⟨rfl, rfl⟩ ⟨(Nat.le_of_ble_eq_true rfl), (Nat.le_of_ble_eq_true rfl)⟩ (rC_0 X h (hS 0) Nat.one_pos Nat.one_pos) rfl hl rfl (Nat.le_of_ble_eq_true rfl) ⟨Nat.zero_le _, Nat.zero_le _⟩ dX10_refusedPlan_22 (fun H locs h => ?_)
      refine lv_istore_n (lv' := [(3, .int y4), (0, .ref (k.1 + adC 0 0 0)), (1, .int a1), (2, .int a2)]) X.x X.b dX10_refusedPlan_25 rfl hl (by decide) rfl (fun ls hl => ?_)
      refine lv_iload_n X.x X.b dX10_refusedPlan_26 rfl (lv_at hl 0 rfl) ?_
      refine lv_bipush (v := (-2)) X.x X.b dX10_refusedPlan_27 (by decide) ?_
      refine lv_icmp_eq (tgt := 40) X.x X.b dX10_refusedPlan_29 (by decide) (fun c5 => ?_) (fun c5 => ?_)
      · have hf := wT c5 hf
        refine lv_bipush (v := (-2)) X.x X.b dX10_refusedPlan_40 (by decide) ?_
        cases (Option.some.inj hf).trans JR
        exact ro_iret X h dX10_refusedPlan_42
      · have hf := wF c5 hf
        refine lv_iload_n X.x X.b dX10_refusedPlan_32 rfl (lv_at hl 2 rfl) ?_
        obtain ⟨y7, e6, hf⟩ := wBd_s hf
        refine ro_callsI (As := [.int a1]) (g1 := g0) (x := y7) X h (kX103_bitCount l trivial e6) mv_X103_bitCount lk_X10_196 ⟨rfl, rfl⟩ ⟨(Nat.le_of_ble_eq_true rfl), (Nat.le_of_ble_eq_true rfl)⟩ rfl hl rfl (Nat.le_of_ble_eq_true rfl) ⟨Nat.zero_le _, Nat.zero_le _⟩ dX10_refusedPlan_33 (fun H locs h => ?_)
        refine lv_iconst (v := 2) X.x X.b dX10_refusedPlan_36 (by decide) ?_
        refine lv_icmp_le (tgt := 43) X.x X.b dX10_refusedPlan_37 (by decide) (fun c8 => ?_) (fun c8 => ?_)
        · have hf := wT c8 hf
          refine lv_aload_n X.x X.b dX10_refusedPlan_43 rfl (lv_at hl 1 rfl) ?_
          refine lv_iload_n X.x X.b dX10_refusedPlan_44 rfl (lv_at hl 2 rfl) ?_
          obtain ⟨y10, e9, hf⟩ := wBd_s hf
          refine ro_callvI (As := [.int a1]) (g1 := g0) (x := y10) X h (kX10_areAhead l hS e9) mv_X10_areAhead lk_X10_190 ⟨rfl, rfl⟩ ⟨(Nat.le_of_ble_eq_true rfl), (Nat.le_of_ble_eq_true rfl)⟩ (rC_0 X h (hS 0) Nat.one_pos Nat.one_pos) rfl hl rfl (Nat.le_of_ble_eq_true rfl) ⟨Nat.zero_le _, Nat.zero_le _⟩ dX10_refusedPlan_45 (fun H locs h => ?_)
          refine lv_if_eq (tgt := 55) X.x X.b dX10_refusedPlan_48 (by decide) (fun c11 => ?_) (fun c11 => ?_)
          · have hf := wT c11 hf
            refine lv_bipush (v := (-3)) X.x X.b dX10_refusedPlan_55 (by decide) ?_
            cases (Option.some.inj hf).trans JR
            exact ro_iret X h dX10_refusedPlan_57
          · have hf := wF c11 hf
            refine lv_iload_n X.x X.b dX10_refusedPlan_51 rfl (lv_at hl 0 rfl) ?_
            refine lv_goto (tgt := 57) X.x X.b dX10_refusedPlan_52 (by decide) ?_
            cases (Option.some.inj hf).trans JR
            exact ro_iret X h dX10_refusedPlan_57
        · have hf := wF c8 hf
          refine lv_bipush (v := (-2)) X.x X.b dX10_refusedPlan_40 (by decide) ?_
          cases (Option.some.inj hf).trans JR
          exact ro_iret X h dX10_refusedPlan_42
    · have hf := wF c2 hf
      refine lv_iconst (v := (-1)) X.x X.b dX10_refusedPlan_16 (by decide) ?_
      cases (Option.some.inj hf).trans JR
      exact ro_iret X h dX10_refusedPlan_17
set_option maxHeartbeats 4000000 in
set_option maxRecDepth 20000 in
theorem wX10_lowest_L2 {k : En} {S : Nat → Prop} (hS : ∀ t, S t) {g0 : Mm} {a1 : Int32} {res : Int32} (X : Cx YC S k p s m args meth c cX10_lowest 3 (some .int) RX10) {r : Int32} (JR : r = res) :
    ∀ (fu : Nat) (x2 : Int32) (H : Heap) (locs : List Loc) (ls : Array Slot), Hx YC S k s g0 H locs → lv_has ls 3 [(0, .ref (k.1 + adC 0 0 0)), (1, .int a1), (2, .int x2)] → wLp (fun q => fX10_lowest_B2 g0 a1 q) fu x2 = some r → W p l e (RmN 0 0) s m args below meth c H locs 0 0 (Fin YC S k args s below (some (.int res)) g0) (F0 m 2 ls []) := by
  intro fu
  induction fu with
  | zero => intro x2 H locs ls h hl hf; exact (wLp_0 hf).elim
  | succ fu ih1 =>
    intro x2 H locs ls h hl hf
    obtain ⟨r1, hf, hr⟩ := wLp_s hf
    have J1n : ∀ (x2 : Int32), r1 = .inl x2 → ∀ (H : Heap) (locs : List Loc) (ls : Array Slot), Hx YC S k s g0 H locs → lv_has ls 3 [(0, .ref (k.1 + adC 0 0 0)), (1, .int a1), (2, .int x2)] → W p l e (RmN 0 0) s m args below meth c H locs 0 0 (Fin YC S k args s below (some (.int res)) g0) (F0 m 2 ls []) := fun x2 q H locs ls h hl => by subst q; exact ih1 _ _ _ _ h hl hr
    have JRn : ∀ t1, r1 = .inr t1 → t1 = res := fun t1 q => by subst q; obtain rfl := Option.some.inj hr; exact JR
    have J1 := J1n
    have JR := JRn
    clear J1n JRn
    have hf : fX10_lowest_B2 g0 a1 x2 = some r1 := hf
    unfold fX10_lowest_B2 at hf
    refine lv_iload_n X.x X.b dX10_lowest_2 rfl (lv_at hl 2 rfl) ?_
    refine lv_aload_n X.x X.b dX10_lowest_3 rfl (lv_at hl 0 rfl) ?_
    refine gC_0_0 X h (hS 0) Nat.one_pos Nat.one_pos lk_X10_25 dX10_lowest_4 ?_
    refine gC_9_2 X h (hS 9) (Nat.le_of_ble_eq_true rfl) Nat.one_pos lk_X10_193 dX10_lowest_7 ?_
    refine lv_icmp_ge (tgt := 30) X.x X.b dX10_lowest_10 (by decide) (fun c3 => ?_) (fun c3 => ?_)
    · have hf := wT c3 hf
      obtain ⟨t4, hf, e5⟩ := wEx_s hf
      have JR := JR t4 e5
      refine lv_iconst (v := (-1)) X.x X.b dX10_lowest_30 (by decide) ?_
      cases (Option.some.inj hf).trans JR
      exact ro_iret X h dX10_lowest_31
    · have hf := wF c3 hf
      refine lv_iload_n X.x X.b dX10_lowest_13 rfl (lv_at hl 1 rfl) ?_
      refine lv_iload_n X.x X.b dX10_lowest_14 rfl (lv_at hl 2 rfl) ?_
      refine lv_ishr X.x X.b dX10_lowest_15 ?_
      refine lv_iconst (v := 1) X.x X.b dX10_lowest_16 (by decide) ?_
      refine lv_iand X.x X.b dX10_lowest_17 ?_
      refine lv_iconst (v := 1) X.x X.b dX10_lowest_18 (by decide) ?_
      refine lv_icmp_ne (tgt := 24) X.x X.b dX10_lowest_19 (by decide) (fun c6 => ?_) (fun c6 => ?_)
      · have hf := wF c6 hf
        obtain ⟨y7, e8, hf⟩ := wLe_s hf
        refine lv_iinc (v := y7) (lv' := [(2, .int y7), (0, .ref (k.1 + adC 0 0 0)), (1, .int a1)]) X.x X.b dX10_lowest_24 hl (k := 2) rfl (by rw [e8]; rfl) (by decide) rfl (fun ls hl => ?_)
        refine lv_goto (tgt := 2) X.x X.b dX10_lowest_27 (by decide) ?_
        exact J1 _ (Option.some.inj hf).symm _ _ _ h (lv_sub hl [1, 2, 0] rfl)
      · have hf := wT c6 hf
        obtain ⟨t9, hf, e10⟩ := wEx_s hf
        have JR := JR t9 e10
        refine lv_iload_n X.x X.b dX10_lowest_22 rfl (lv_at hl 2 rfl) ?_
        cases (Option.some.inj hf).trans JR
        exact ro_iret X h dX10_lowest_23
set_option maxHeartbeats 4000000 in
set_option maxRecDepth 20000 in
theorem kX10_lowest (l : Launch) {k : En} {S : Nat → Prop} (hS : ∀ t, S t) {g0 : Mm} {a1 : Int32} {res : Int32} (hf : fX10_lowest g0 a1 = some res) : Mt l yX10_lowest cX10_lowest 3 (some .int) (RmN 0 0) YC S k [.ref (k.1 + adC 0 0 0), .int a1] g0 (some (.int res)) g0 := by
  refine Mt.of (by decide) (Nat.le_of_ble_eq_true rfl) ?_
  intro p e s m args below meth c ls X _ h hl
  have X : Cx YC S k p s m args meth c cX10_lowest 3 (some .int) RX10 := X
  have hl : lv_has ls 3 [(0, .ref (k.1 + adC 0 0 0)), (1, .int a1)] := hl
  have JR : res = res := rfl
  unfold fX10_lowest at hf
  refine lv_iconst (v := 0) X.x X.b dX10_lowest_0 (by decide) ?_
  obtain ⟨y1, e2, hf⟩ := wLe_s hf
  refine lv_nmi e2 ?_
  refine lv_istore_n (lv' := [(2, .int y1), (0, .ref (k.1 + adC 0 0 0)), (1, .int a1)]) X.x X.b dX10_lowest_1 rfl hl (by decide) rfl (fun ls hl => ?_)
  exact wX10_lowest_L2 hS X JR _ _ _ _ _ h (lv_sub hl [1, 2, 0] rfl) hf
set_option maxHeartbeats 4000000 in
set_option maxRecDepth 20000 in
theorem wX10_lateWith_L45 {k : En} {S : Nat → Prop} (hS : ∀ t, S t) {a1 : Int32} {a2 : Int32} {a3 : Int32} {a4 : Int32} {a5 : Int32} {res : Mm × Int32} (X : Cx YC S k p s m args meth c cX10_lateWith 7 (some .int) RX10) {r : Mm × Int32} (JR : r = res) :
    ∀ (fu : Nat) (g : Mm) (x6 : Int32) (H : Heap) (locs : List Loc) (ls : Array Slot), Hx YC S k s g H locs → lv_has ls 7 [(0, .ref (k.1 + adC 0 0 0)), (5, .int a5), (6, .int x6)] → wLp (fun q => fX10_lateWith_B45 q.1 a1 a2 a3 a4 a5 q.2) fu (g, x6) = some r → W p l e (RmN 6 141) s m args below meth c H locs 0 0 (Fin YC S k args s below (some (.int res.2)) res.1) (F0 m 45 ls []) := by
  intro fu
  induction fu with
  | zero => intro g x6 H locs ls h hl hf; exact (wLp_0 hf).elim
  | succ fu ih1 =>
    intro g x6 H locs ls h hl hf
    obtain ⟨r1, hf, hr⟩ := wLp_s hf
    have J1n : ∀ (g : Mm) (x6 : Int32), r1 = .inl (g, x6) → ∀ (H : Heap) (locs : List Loc) (ls : Array Slot), Hx YC S k s g H locs → lv_has ls 7 [(0, .ref (k.1 + adC 0 0 0)), (5, .int a5), (6, .int x6)] → W p l e (RmN 6 141) s m args below meth c H locs 0 0 (Fin YC S k args s below (some (.int res.2)) res.1) (F0 m 45 ls []) := fun g x6 q H locs ls h hl => by subst q; exact ih1 _ _ _ _ _ h hl hr
    have JRn : ∀ t1, r1 = .inr t1 → t1 = res := fun t1 q => by subst q; obtain rfl := Option.some.inj hr; exact JR
    have J1 := J1n
    have JR := JRn
    clear J1n JRn
    have hf : fX10_lateWith_B45 g a1 a2 a3 a4 a5 x6 = some r1 := hf
    unfold fX10_lateWith_B45 at hf
    refine lv_iload X.x X.b dX10_lateWith_45 (lv_at hl 2 rfl) ?_
    refine lv_iload X.x X.b dX10_lateWith_47 (lv_at hl 1 rfl) ?_
    refine lv_icmp_ge (tgt := 65) X.x X.b dX10_lateWith_49 (by decide) (fun c10 => ?_) (fun c10 => ?_)
    · have hf := wT c10 hf
      obtain ⟨t11, hf, e12⟩ := wEx_s hf
      have JR := JR t11 e12
      refine lv_aload_n X.x X.b dX10_lateWith_65 rfl (lv_at hl 0 rfl) ?_
      refine gC_0_1 X h (hS 0) Nat.one_pos Nat.one_pos lk_X10_29 dX10_lateWith_66 ?_
      obtain ⟨y14, e13, hf⟩ := wBd_s hf
      refine ro_callvI (As := []) (g1 := g) (x := y14) X h (kX4_lateInAll l hS (Nat.le_of_ble_eq_true rfl) e13) mv_X4_lateInAll lk_X10_274 ⟨rfl, rfl⟩ ⟨(Nat.le_of_ble_eq_true rfl), (Nat.le_of_ble_eq_true rfl)⟩ (rC_9 X h (hS 9) (Nat.le_of_ble_eq_true rfl) Nat.one_pos) rfl hl rfl (Nat.le_of_ble_eq_true rfl) ⟨Nat.zero_le _, Nat.zero_le _⟩ dX10_lateWith_69 (fun H locs h => ?_)
      cases (Option.some.inj hf).trans JR
      exact ro_iret X h dX10_lateWith_72
    · have hf := wF c10 hf
      refine lv_aload_n X.x X.b dX10_lateWith_52 rfl (lv_at hl 0 rfl) ?_
      refine gC_0_1 X h (hS 0) Nat.one_pos Nat.one_pos lk_X10_29 dX10_lateWith_53 ?_
      obtain ⟨g17, e15, hf⟩ := wBd_s hf
      refine ro_callvV (As := []) (g1 := g17) X h (kX4_step l hS (Nat.le_of_ble_eq_true rfl) e15) mv_X4_step lk_X10_117 ⟨rfl, rfl⟩ ⟨(Nat.le_of_ble_eq_true rfl), (Nat.le_of_ble_eq_true rfl)⟩ (rC_9 X h (hS 9) (Nat.le_of_ble_eq_true rfl) Nat.one_pos) rfl hl rfl (Nat.le_of_ble_eq_true rfl) ⟨Nat.zero_le _, Nat.zero_le _⟩ dX10_lateWith_56 (fun H locs h => ?_)
      obtain ⟨y18, e19, hf⟩ := wLe_s hf
      refine lv_iinc (v := y18) (lv' := [(6, .int y18), (0, .ref (k.1 + adC 0 0 0)), (5, .int a5)]) X.x X.b dX10_lateWith_59 hl (k := 2) rfl (by rw [e19]; rfl) (by decide) rfl (fun ls hl => ?_)
      refine lv_goto (tgt := 45) X.x X.b dX10_lateWith_62 (by decide) ?_
      exact J1 _ _ (Option.some.inj hf).symm _ _ _ h (lv_sub hl [1, 2, 0] rfl)
set_option maxHeartbeats 4000000 in
set_option maxRecDepth 20000 in
theorem wX10_lateWith_b42 {k : En} {S : Nat → Prop} (hS : ∀ t, S t) {a1 : Int32} {a2 : Int32} {a3 : Int32} {a4 : Int32} {a5 : Int32} {res : Mm × Int32} (X : Cx YC S k p s m args meth c cX10_lateWith 7 (some .int) RX10) {g : Mm} {H : Heap} {locs : List Loc} {ls : Array Slot} (h : Hx YC S k s g H locs) (hl : lv_has ls 7 [(0, .ref (k.1 + adC 0 0 0)), (5, .int a5)]) {r : Mm × Int32} (hf : fX10_lateWith_b42 g a1 a2 a3 a4 a5 = some r) (JR : r = res) :
    W p l e (RmN 6 141) s m args below meth c H locs 0 0 (Fin YC S k args s below (some (.int res.2)) res.1) (F0 m 42 ls []) := by
  unfold fX10_lateWith_b42 at hf
  refine lv_iconst (v := 0) X.x X.b dX10_lateWith_42 (by decide) ?_
  obtain ⟨y8, e9, hf⟩ := wLe_s hf
  refine lv_nmi e9 ?_
  refine lv_istore (lv' := [(6, .int y8), (0, .ref (k.1 + adC 0 0 0)), (5, .int a5)]) X.x X.b dX10_lateWith_43 hl (by decide) rfl (fun ls hl => ?_)
  exact wX10_lateWith_L45 hS X JR _ _ _ _ _ _ h (lv_sub hl [1, 2, 0] rfl) hf
set_option maxHeartbeats 4000000 in
set_option maxRecDepth 20000 in
theorem kX10_lateWith (l : Launch) {k : En} {S : Nat → Prop} (hS : ∀ t, S t) {a1 : Int32} {a2 : Int32} {a3 : Int32} {a4 : Int32} {a5 : Int32} {res : Mm × Int32} {g : Mm} (hf : fX10_lateWith g a1 a2 a3 a4 a5 = some res) : Mt l yX10_lateWith cX10_lateWith 7 (some .int) (RmN 6 141) YC S k [.ref (k.1 + adC 0 0 0), .int a1, .int a2, .int a3, .int a4, .int a5] g (some (.int res.2)) res.1 := by
  refine Mt.of (by decide) (Nat.le_of_ble_eq_true rfl) ?_
  intro p e s m args below meth c ls X _ h hl
  have X : Cx YC S k p s m args meth c cX10_lateWith 7 (some .int) RX10 := X
  have hl : lv_has ls 7 [(0, .ref (k.1 + adC 0 0 0)), (1, .int a1), (2, .int a2), (3, .int a3), (4, .int a4), (5, .int a5)] := hl
  have JR : res = res := rfl
  unfold fX10_lateWith at hf
  refine lv_aload_n X.x X.b dX10_lateWith_0 rfl (lv_at hl 0 rfl) ?_
  refine gC_0_1 X h (hS 0) Nat.one_pos Nat.one_pos lk_X10_29 dX10_lateWith_1 ?_
  refine lv_aload_n X.x X.b dX10_lateWith_4 rfl (lv_at hl 0 rfl) ?_
  refine gC_0_0 X h (hS 0) Nat.one_pos Nat.one_pos lk_X10_25 dX10_lateWith_5 ?_
  obtain ⟨g3, e1, hf⟩ := wBd_s hf
  refine ro_callvV (As := [.ref (k.1 + adC 9 0 0)]) (g1 := g3) X h (kX4_become l hS (Nat.le_of_ble_eq_true rfl) (Nat.le_of_ble_eq_true rfl) e1) mv_X4_become lk_X10_157 ⟨rfl, rfl⟩ ⟨(Nat.le_of_ble_eq_true rfl), (Nat.le_of_ble_eq_true rfl)⟩ (rC_9 X h (hS 9) (Nat.le_of_ble_eq_true rfl) Nat.one_pos) rfl hl rfl (Nat.le_of_ble_eq_true rfl) ⟨Nat.zero_le _, Nat.zero_le _⟩ dX10_lateWith_8 (fun H locs h => ?_)
  refine lv_aload_n X.x X.b dX10_lateWith_11 rfl (lv_at hl 0 rfl) ?_
  refine gC_0_1 X h (hS 0) Nat.one_pos Nat.one_pos lk_X10_29 dX10_lateWith_12 ?_
  refine gC_9_11 X h (hS 9) (Nat.le_of_ble_eq_true rfl) Nat.one_pos lk_X10_85 dX10_lateWith_15 ?_
  refine lv_iload_n X.x X.b dX10_lateWith_18 rfl (lv_at hl 1 rfl) ?_
  obtain ⟨b4, hf⟩ := wGi_s hf
  refine qC_16 X h (hS 16) (Nat.le_of_ble_eq_true rfl) Nat.one_pos b4 dX10_lateWith_19 ?_
  refine lv_iload_n X.x X.b dX10_lateWith_20 rfl (lv_at hl 2 rfl) ?_
  obtain ⟨g5, e6, hf⟩ := wLe_s hf
  refine pC_19_5 X h (hS 19) (Nat.le_of_ble_eq_true rfl) (vin_lt b4) lk_X10_107 e6 dX10_lateWith_21 (fun H locs h => ?_)
  refine lv_iload_n X.x X.b dX10_lateWith_24 rfl (lv_at hl 3 rfl) ?_
  refine lv_if_lt (tgt := 42) X.x X.b dX10_lateWith_25 (by decide) (fun c7 => ?_) (fun c7 => ?_)
  · have hf := wT c7 hf
    exact wX10_lateWith_b42 hS X h (lv_sub hl [0, 5] rfl) hf JR
  · have hf := wF c7 hf
    refine lv_aload_n X.x X.b dX10_lateWith_28 rfl (lv_at hl 0 rfl) ?_
    refine gC_0_1 X h (hS 0) Nat.one_pos Nat.one_pos lk_X10_29 dX10_lateWith_29 ?_
    refine gC_9_11 X h (hS 9) (Nat.le_of_ble_eq_true rfl) Nat.one_pos lk_X10_85 dX10_lateWith_32 ?_
    refine lv_iload_n X.x X.b dX10_lateWith_35 rfl (lv_at hl 3 rfl) ?_
    obtain ⟨b20, hf⟩ := wGi_s hf
    refine qC_16 X h (hS 16) (Nat.le_of_ble_eq_true rfl) Nat.one_pos b20 dX10_lateWith_36 ?_
    refine lv_iload X.x X.b dX10_lateWith_37 (lv_at hl 4 rfl) ?_
    obtain ⟨g21, e22, hf⟩ := wLe_s hf
    refine pC_19_5 X h (hS 19) (Nat.le_of_ble_eq_true rfl) (vin_lt b20) lk_X10_107 e22 dX10_lateWith_39 (fun H locs h => ?_)
    exact wX10_lateWith_b42 hS X h (lv_sub hl [0, 5] rfl) hf JR
set_option maxHeartbeats 4000000 in
set_option maxRecDepth 20000 in
theorem wX10_plan_b161 {k : En} {S : Nat → Prop} (hS : ∀ t, S t) {a1 : Int32} {a2 : Int32} {res : Mm × Int32} (X : Cx YC S k p s m args meth c cX10_plan 11 (some .int) RX10) {g : Mm} {x4 : Int32} {x5 : Int32} {x6 : Int32} {x7 : Int32} {x8 : Int32} {x9 : Int32} {H : Heap} {locs : List Loc} {ls : Array Slot} (h : Hx YC S k s g H locs) (hl : lv_has ls 11 [(0, .ref (k.1 + adC 0 0 0)), (1, .int a1), (2, .int a2), (4, .int x4), (5, .int x5), (6, .int x6), (7, .int x7), (8, .int x8), (9, .int x9)]) {r : (Mm × Int32 × Int32) ⊕ ((Mm × Int32 × Int32) ⊕ (Mm × Int32))} (hf : fX10_plan_b161 g a1 a2 x4 x5 x6 x7 x8 x9 = some r) (J1 : ∀ (g : Mm) (x7 : Int32) (x9 : Int32), r = .inl (g, x7, x9) → ∀ (H : Heap) (locs : List Loc) (ls : Array Slot), Hx YC S k s g H locs → lv_has ls 11 [(0, .ref (k.1 + adC 0 0 0)), (1, .int a1), (2, .int a2), (4, .int x4), (5, .int x5), (6, .int x6), (7, .int x7), (8, .int x8), (9, .int x9)] → W p l e (RmN 7 167) s m args below meth c H locs 0 0 (Fin YC S k args s below (some (.int res.2)) res.1) (F0 m 73 ls [])) (J2 : ∀ t1, r = .inr t1 → ∀ (g : Mm) (x7 : Int32) (x8 : Int32), t1 = .inl (g, x7, x8) → ∀ (H : Heap) (locs : List Loc) (ls : Array Slot), Hx YC S k s g H locs → lv_has ls 11 [(0, .ref (k.1 + adC 0 0 0)), (1, .int a1), (2, .int a2), (4, .int x4), (5, .int x5), (6, .int x6), (7, .int x7), (8, .int x8)] → W p l e (RmN 7 167) s m args below meth c H locs 0 0 (Fin YC S k args s below (some (.int res.2)) res.1) (F0 m 58 ls [])) (JR : ∀ t1, r = .inr t1 → ∀ t2, t1 = .inr t2 → t2 = res) :
    W p l e (RmN 7 167) s m args below meth c H locs 0 0 (Fin YC S k args s below (some (.int res.2)) res.1) (F0 m 161 ls []) := by
  unfold fX10_plan_b161 at hf
  obtain ⟨y26, e27, hf⟩ := wLe_s hf
  refine lv_iinc (v := y26) (lv' := [(9, .int y26), (0, .ref (k.1 + adC 0 0 0)), (1, .int a1), (2, .int a2), (4, .int x4), (5, .int x5), (6, .int x6), (7, .int x7), (8, .int x8)]) X.x X.b dX10_plan_161 hl (k := 8) rfl (by rw [e27]; rfl) (by decide) rfl (fun ls hl => ?_)
  refine lv_goto (tgt := 73) X.x X.b dX10_plan_164 (by decide) ?_
  exact J1 _ _ _ (Option.some.inj hf).symm _ _ _ h (lv_sub hl [1, 2, 3, 4, 5, 6, 7, 8, 0] rfl)
set_option maxHeartbeats 4000000 in
set_option maxRecDepth 20000 in
theorem wX10_plan_b143 {k : En} {S : Nat → Prop} (hS : ∀ t, S t) {a1 : Int32} {a2 : Int32} {res : Mm × Int32} (X : Cx YC S k p s m args meth c cX10_plan 11 (some .int) RX10) {g : Mm} {x4 : Int32} {x5 : Int32} {x6 : Int32} {x8 : Int32} {x9 : Int32} {x10 : Int32} {H : Heap} {locs : List Loc} {ls : Array Slot} (h : Hx YC S k s g H locs) (hl : lv_has ls 11 [(0, .ref (k.1 + adC 0 0 0)), (1, .int a1), (2, .int a2), (4, .int x4), (5, .int x5), (6, .int x6), (8, .int x8), (9, .int x9), (10, .int x10)]) {r : (Mm × Int32 × Int32) ⊕ ((Mm × Int32 × Int32) ⊕ (Mm × Int32))} (hf : fX10_plan_b143 g a1 a2 x4 x5 x6 x8 x9 x10 = some r) (J1 : ∀ (g : Mm) (x7 : Int32) (x9 : Int32), r = .inl (g, x7, x9) → ∀ (H : Heap) (locs : List Loc) (ls : Array Slot), Hx YC S k s g H locs → lv_has ls 11 [(0, .ref (k.1 + adC 0 0 0)), (1, .int a1), (2, .int a2), (4, .int x4), (5, .int x5), (6, .int x6), (7, .int x7), (8, .int x8), (9, .int x9)] → W p l e (RmN 7 167) s m args below meth c H locs 0 0 (Fin YC S k args s below (some (.int res.2)) res.1) (F0 m 73 ls [])) (J2 : ∀ t1, r = .inr t1 → ∀ (g : Mm) (x7 : Int32) (x8 : Int32), t1 = .inl (g, x7, x8) → ∀ (H : Heap) (locs : List Loc) (ls : Array Slot), Hx YC S k s g H locs → lv_has ls 11 [(0, .ref (k.1 + adC 0 0 0)), (1, .int a1), (2, .int a2), (4, .int x4), (5, .int x5), (6, .int x6), (7, .int x7), (8, .int x8)] → W p l e (RmN 7 167) s m args below meth c H locs 0 0 (Fin YC S k args s below (some (.int res.2)) res.1) (F0 m 58 ls [])) (JR : ∀ t1, r = .inr t1 → ∀ t2, t1 = .inr t2 → t2 = res) :
    W p l e (RmN 7 167) s m args below meth c H locs 0 0 (Fin YC S k args s below (some (.int res.2)) res.1) (F0 m 143 ls []) := by
  unfold fX10_plan_b143 at hf
  refine lv_iload X.x X.b dX10_plan_143 (lv_at hl 8 rfl) ?_
  refine lv_istore (lv' := [(7, .int x10), (0, .ref (k.1 + adC 0 0 0)), (1, .int a1), (2, .int a2), (4, .int x4), (5, .int x5), (6, .int x6), (8, .int x8), (9, .int x9), (10, .int x10)]) X.x X.b dX10_plan_145 hl (by decide) rfl (fun ls hl => ?_)
  refine lv_aload_n X.x X.b dX10_plan_147 rfl (lv_at hl 1 rfl) ?_
  refine gC_0_3 X h (hS 0) Nat.one_pos Nat.one_pos lk_X10_35 dX10_plan_148 ?_
  refine lv_iload_n X.x X.b dX10_plan_151 rfl (lv_at hl 2 rfl) ?_
  refine lv_iload X.x X.b dX10_plan_152 (lv_at hl 4 rfl) ?_
  refine lv_iload X.x X.b dX10_plan_154 (lv_at hl 7 rfl) ?_
  refine lv_iload X.x X.b dX10_plan_156 (lv_at hl 8 rfl) ?_
  obtain ⟨g35, e33, hf⟩ := wBd_s hf
  refine ro_callvV (As := [.int a1, .int x4, .int x8, .int x9]) (g1 := g35) X h (kX2_keep l hS e33) mv_X2_keep lk_X10_177 ⟨rfl, rfl⟩ ⟨(Nat.le_of_ble_eq_true rfl), (Nat.le_of_ble_eq_true rfl)⟩ (rC_23 X h (hS 23) Nat.one_pos Nat.one_pos) rfl hl rfl (Nat.le_of_ble_eq_true rfl) ⟨Nat.zero_le _, Nat.zero_le _⟩ dX10_plan_158 (fun H locs h => ?_)
  exact wX10_plan_b161 hS X h (lv_sub hl [1, 2, 3, 4, 5, 6, 0, 7, 8] rfl) hf J1 J2 JR
set_option maxHeartbeats 4000000 in
set_option maxRecDepth 20000 in
theorem wX10_plan_b116 {k : En} {S : Nat → Prop} (hS : ∀ t, S t) {a1 : Int32} {a2 : Int32} {res : Mm × Int32} (X : Cx YC S k p s m args meth c cX10_plan 11 (some .int) RX10) {g : Mm} {x4 : Int32} {x5 : Int32} {x6 : Int32} {x7 : Int32} {x8 : Int32} {x9 : Int32} {H : Heap} {locs : List Loc} {ls : Array Slot} (h : Hx YC S k s g H locs) (hl : lv_has ls 11 [(0, .ref (k.1 + adC 0 0 0)), (1, .int a1), (2, .int a2), (4, .int x4), (5, .int x5), (6, .int x6), (7, .int x7), (8, .int x8), (9, .int x9)]) {r : (Mm × Int32 × Int32) ⊕ ((Mm × Int32 × Int32) ⊕ (Mm × Int32))} (hf : fX10_plan_b116 g a1 a2 x4 x5 x6 x7 x8 x9 = some r) (J1 : ∀ (g : Mm) (x7 : Int32) (x9 : Int32), r = .inl (g, x7, x9) → ∀ (H : Heap) (locs : List Loc) (ls : Array Slot), Hx YC S k s g H locs → lv_has ls 11 [(0, .ref (k.1 + adC 0 0 0)), (1, .int a1), (2, .int a2), (4, .int x4), (5, .int x5), (6, .int x6), (7, .int x7), (8, .int x8), (9, .int x9)] → W p l e (RmN 7 167) s m args below meth c H locs 0 0 (Fin YC S k args s below (some (.int res.2)) res.1) (F0 m 73 ls [])) (J2 : ∀ t1, r = .inr t1 → ∀ (g : Mm) (x7 : Int32) (x8 : Int32), t1 = .inl (g, x7, x8) → ∀ (H : Heap) (locs : List Loc) (ls : Array Slot), Hx YC S k s g H locs → lv_has ls 11 [(0, .ref (k.1 + adC 0 0 0)), (1, .int a1), (2, .int a2), (4, .int x4), (5, .int x5), (6, .int x6), (7, .int x7), (8, .int x8)] → W p l e (RmN 7 167) s m args below meth c H locs 0 0 (Fin YC S k args s below (some (.int res.2)) res.1) (F0 m 58 ls [])) (JR : ∀ t1, r = .inr t1 → ∀ t2, t1 = .inr t2 → t2 = res) :
    W p l e (RmN 7 167) s m args below meth c H locs 0 0 (Fin YC S k args s below (some (.int res.2)) res.1) (F0 m 116 ls []) := by
  unfold fX10_plan_b116 at hf
  refine lv_aload_n X.x X.b dX10_plan_116 rfl (lv_at hl 0 rfl) ?_
  refine lv_iload X.x X.b dX10_plan_117 (lv_at hl 3 rfl) ?_
  refine lv_iload X.x X.b dX10_plan_119 (lv_at hl 7 rfl) ?_
  refine lv_iload X.x X.b dX10_plan_121 (lv_at hl 4 rfl) ?_
  refine lv_iload X.x X.b dX10_plan_123 (lv_at hl 8 rfl) ?_
  refine lv_iload_n X.x X.b dX10_plan_125 rfl (lv_at hl 2 rfl) ?_
  obtain ⟨g31, y30, e29, hf⟩ := wB2_s hf
  refine ro_callvI (As := [.int x4, .int x8, .int x5, .int x9, .int a2]) (g1 := g31) (x := y30) X h (kX10_lateWith l hS e29) mv_X10_lateWith lk_X10_173 ⟨rfl, rfl⟩ ⟨(Nat.le_of_ble_eq_true rfl), (Nat.le_of_ble_eq_true rfl)⟩ (rC_0 X h (hS 0) Nat.one_pos Nat.one_pos) rfl hl rfl (Nat.le_of_ble_eq_true rfl) ⟨Nat.zero_le _, Nat.zero_le _⟩ dX10_plan_126 (fun H locs h => ?_)
  refine lv_istore (lv' := [(10, .int y30), (0, .ref (k.1 + adC 0 0 0)), (1, .int a1), (2, .int a2), (4, .int x4), (5, .int x5), (6, .int x6), (7, .int x7), (8, .int x8), (9, .int x9)]) X.x X.b dX10_plan_129 hl (by decide) rfl (fun ls hl => ?_)
  refine lv_iload X.x X.b dX10_plan_131 (lv_at hl 7 rfl) ?_
  refine lv_if_lt (tgt := 143) X.x X.b dX10_plan_133 (by decide) (fun c32 => ?_) (fun c32 => ?_)
  · have hf := wT c32 hf
    exact wX10_plan_b143 hS X h (lv_sub hl [1, 2, 3, 4, 5, 6, 8, 9, 0] rfl) hf J1 J2 JR
  · have hf := wF c32 hf
    refine lv_iload X.x X.b dX10_plan_136 (lv_at hl 0 rfl) ?_
    refine lv_iload X.x X.b dX10_plan_138 (lv_at hl 7 rfl) ?_
    refine lv_icmp_ge (tgt := 161) X.x X.b dX10_plan_140 (by decide) (fun c36 => ?_) (fun c36 => ?_)
    · have hf := wT c36 hf
      exact wX10_plan_b161 hS X h (lv_sub hl [1, 2, 3, 4, 5, 6, 7, 8, 9] rfl) hf J1 J2 JR
    · have hf := wF c36 hf
      exact wX10_plan_b143 hS X h (lv_sub hl [1, 2, 3, 4, 5, 6, 8, 9, 0] rfl) hf J1 J2 JR
set_option maxHeartbeats 4000000 in
set_option maxRecDepth 20000 in
theorem wX10_plan_L73 {k : En} {S : Nat → Prop} (hS : ∀ t, S t) {a1 : Int32} {a2 : Int32} {res : Mm × Int32} (X : Cx YC S k p s m args meth c cX10_plan 11 (some .int) RX10) {x4 : Int32} {x5 : Int32} {x6 : Int32} {x8 : Int32} {r : (Mm × Int32 × Int32) ⊕ (Mm × Int32)} (J1 : ∀ (g : Mm) (x7 : Int32) (x8 : Int32), r = .inl (g, x7, x8) → ∀ (H : Heap) (locs : List Loc) (ls : Array Slot), Hx YC S k s g H locs → lv_has ls 11 [(0, .ref (k.1 + adC 0 0 0)), (1, .int a1), (2, .int a2), (4, .int x4), (5, .int x5), (6, .int x6), (7, .int x7), (8, .int x8)] → W p l e (RmN 7 167) s m args below meth c H locs 0 0 (Fin YC S k args s below (some (.int res.2)) res.1) (F0 m 58 ls [])) (JR : ∀ t1, r = .inr t1 → t1 = res) :
    ∀ (fu : Nat) (g : Mm) (x7 : Int32) (x9 : Int32) (H : Heap) (locs : List Loc) (ls : Array Slot), Hx YC S k s g H locs → lv_has ls 11 [(0, .ref (k.1 + adC 0 0 0)), (1, .int a1), (2, .int a2), (4, .int x4), (5, .int x5), (6, .int x6), (7, .int x7), (8, .int x8), (9, .int x9)] → wLp (fun q => fX10_plan_B73 q.1 a1 a2 x4 x5 x6 q.2.1 x8 q.2.2) fu (g, x7, x9) = some r → W p l e (RmN 7 167) s m args below meth c H locs 0 0 (Fin YC S k args s below (some (.int res.2)) res.1) (F0 m 73 ls []) := by
  intro fu
  induction fu with
  | zero => intro g x7 x9 H locs ls h hl hf; exact (wLp_0 hf).elim
  | succ fu ih1 =>
    intro g x7 x9 H locs ls h hl hf
    obtain ⟨r1, hf, hr⟩ := wLp_s hf
    have J1n : ∀ (g : Mm) (x7 : Int32) (x9 : Int32), r1 = .inl (g, x7, x9) → ∀ (H : Heap) (locs : List Loc) (ls : Array Slot), Hx YC S k s g H locs → lv_has ls 11 [(0, .ref (k.1 + adC 0 0 0)), (1, .int a1), (2, .int a2), (4, .int x4), (5, .int x5), (6, .int x6), (7, .int x7), (8, .int x8), (9, .int x9)] → W p l e (RmN 7 167) s m args below meth c H locs 0 0 (Fin YC S k args s below (some (.int res.2)) res.1) (F0 m 73 ls []) := fun g x7 x9 q H locs ls h hl => by subst q; exact ih1 _ _ _ _ _ _ h hl hr
    have J2n : ∀ t1, r1 = .inr t1 → ∀ (g : Mm) (x7 : Int32) (x8 : Int32), t1 = .inl (g, x7, x8) → ∀ (H : Heap) (locs : List Loc) (ls : Array Slot), Hx YC S k s g H locs → lv_has ls 11 [(0, .ref (k.1 + adC 0 0 0)), (1, .int a1), (2, .int a2), (4, .int x4), (5, .int x5), (6, .int x6), (7, .int x7), (8, .int x8)] → W p l e (RmN 7 167) s m args below meth c H locs 0 0 (Fin YC S k args s below (some (.int res.2)) res.1) (F0 m 58 ls []) := fun t1 q => by subst q; obtain rfl := Option.some.inj hr; exact J1
    have JRn : ∀ t1, r1 = .inr t1 → ∀ t2, t1 = .inr t2 → t2 = res := fun t1 q => by subst q; obtain rfl := Option.some.inj hr; exact JR
    have J1 := J1n
    have J2 := J2n
    have JR := JRn
    clear J1n J2n JRn
    have hf : fX10_plan_B73 g a1 a2 x4 x5 x6 x7 x8 x9 = some r1 := hf
    unfold fX10_plan_B73 at hf
    refine lv_iload X.x X.b dX10_plan_73 (lv_at hl 8 rfl) ?_
    refine lv_iload X.x X.b dX10_plan_75 (lv_at hl 5 rfl) ?_
    refine lv_icmp_ge (tgt := 167) X.x X.b dX10_plan_77 (by decide) (fun c18 => ?_) (fun c18 => ?_)
    · have hf := wT c18 hf
      obtain ⟨t19, hf, e20⟩ := wEx_s hf
      have J1 := J2 t19 e20
      have JR := JR t19 e20
      obtain ⟨y21, e22, hf⟩ := wLe_s hf
      refine lv_iinc (v := y21) (lv' := [(8, .int y21), (0, .ref (k.1 + adC 0 0 0)), (1, .int a1), (2, .int a2), (4, .int x4), (5, .int x5), (6, .int x6), (7, .int x7), (9, .int x9)]) X.x X.b dX10_plan_167 hl (k := 7) rfl (by rw [e22]; rfl) (by decide) rfl (fun ls hl => ?_)
      refine lv_goto (tgt := 58) X.x X.b dX10_plan_170 (by decide) ?_
      exact J1 _ _ _ (Option.some.inj hf).symm _ _ _ h (lv_sub hl [1, 2, 3, 4, 5, 6, 7, 0] rfl)
    · have hf := wF c18 hf
      refine lv_aload_n X.x X.b dX10_plan_80 rfl (lv_at hl 0 rfl) ?_
      refine gC_0_0 X h (hS 0) Nat.one_pos Nat.one_pos lk_X10_25 dX10_plan_81 ?_
      refine lv_iload X.x X.b dX10_plan_84 (lv_at hl 3 rfl) ?_
      refine lv_iload X.x X.b dX10_plan_86 (lv_at hl 7 rfl) ?_
      obtain ⟨y24, e23, hf⟩ := wBd_s hf
      refine ro_callvI (As := [.int x4, .int x8]) (g1 := g) (x := y24) X h (kX4_fits l hS (Nat.le_of_ble_eq_true rfl) e23) mv_X4_fits lk_X10_100 ⟨rfl, rfl⟩ ⟨(Nat.le_of_ble_eq_true rfl), (Nat.le_of_ble_eq_true rfl)⟩ (rC_9 X h (hS 9) (Nat.le_of_ble_eq_true rfl) Nat.one_pos) rfl hl rfl (Nat.le_of_ble_eq_true rfl) ⟨Nat.zero_le _, Nat.zero_le _⟩ dX10_plan_88 (fun H locs h => ?_)
      refine lv_if_eq (tgt := 161) X.x X.b dX10_plan_91 (by decide) (fun c25 => ?_) (fun c25 => ?_)
      · have hf := wT c25 hf
        exact wX10_plan_b161 hS X h (lv_sub hl [0, 1, 2, 3, 4, 5, 6, 7, 8] rfl) hf J1 J2 JR
      · have hf := wF c25 hf
        refine lv_iload X.x X.b dX10_plan_94 (lv_at hl 4 rfl) ?_
        refine lv_if_lt (tgt := 116) X.x X.b dX10_plan_96 (by decide) (fun c28 => ?_) (fun c28 => ?_)
        · have hf := wT c28 hf
          exact wX10_plan_b116 hS X h (lv_sub hl [0, 1, 2, 3, 4, 5, 6, 7, 8] rfl) hf J1 J2 JR
        · have hf := wF c28 hf
          refine lv_aload_n X.x X.b dX10_plan_99 rfl (lv_at hl 0 rfl) ?_
          refine gC_0_0 X h (hS 0) Nat.one_pos Nat.one_pos lk_X10_25 dX10_plan_100 ?_
          refine lv_iload X.x X.b dX10_plan_103 (lv_at hl 4 rfl) ?_
          refine lv_iload X.x X.b dX10_plan_105 (lv_at hl 8 rfl) ?_
          obtain ⟨y38, e37, hf⟩ := wBd_s hf
          refine ro_callvI (As := [.int x5, .int x9]) (g1 := g) (x := y38) X h (kX4_fits l hS (Nat.le_of_ble_eq_true rfl) e37) mv_X4_fits lk_X10_100 ⟨rfl, rfl⟩ ⟨(Nat.le_of_ble_eq_true rfl), (Nat.le_of_ble_eq_true rfl)⟩ (rC_9 X h (hS 9) (Nat.le_of_ble_eq_true rfl) Nat.one_pos) rfl hl rfl (Nat.le_of_ble_eq_true rfl) ⟨Nat.zero_le _, Nat.zero_le _⟩ dX10_plan_107 (fun H locs h => ?_)
          refine lv_if_ne (tgt := 116) X.x X.b dX10_plan_110 (by decide) (fun c39 => ?_) (fun c39 => ?_)
          · have hf := wF c39 hf
            exact wX10_plan_b116 hS X h (lv_sub hl [0, 1, 2, 3, 4, 5, 6, 7, 8] rfl) hf J1 J2 JR
          · have hf := wT c39 hf
            refine lv_goto (tgt := 161) X.x X.b dX10_plan_113 (by decide) ?_
            exact wX10_plan_b161 hS X h (lv_sub hl [0, 1, 2, 3, 4, 5, 6, 7, 8] rfl) hf J1 J2 JR
set_option maxHeartbeats 4000000 in
set_option maxRecDepth 20000 in
theorem wX10_plan_L58 {k : En} {S : Nat → Prop} (hS : ∀ t, S t) {a1 : Int32} {a2 : Int32} {res : Mm × Int32} (X : Cx YC S k p s m args meth c cX10_plan 11 (some .int) RX10) {x4 : Int32} {x5 : Int32} {x6 : Int32} {r : Mm × Int32} (JR : r = res) :
    ∀ (fu : Nat) (g : Mm) (x7 : Int32) (x8 : Int32) (H : Heap) (locs : List Loc) (ls : Array Slot), Hx YC S k s g H locs → lv_has ls 11 [(0, .ref (k.1 + adC 0 0 0)), (1, .int a1), (2, .int a2), (4, .int x4), (5, .int x5), (6, .int x6), (7, .int x7), (8, .int x8)] → wLp (fun q => fX10_plan_B58 q.1 a1 a2 x4 x5 x6 q.2.1 q.2.2) fu (g, x7, x8) = some r → W p l e (RmN 7 167) s m args below meth c H locs 0 0 (Fin YC S k args s below (some (.int res.2)) res.1) (F0 m 58 ls []) := by
  intro fu
  induction fu with
  | zero => intro g x7 x8 H locs ls h hl hf; exact (wLp_0 hf).elim
  | succ fu ih1 =>
    intro g x7 x8 H locs ls h hl hf
    obtain ⟨r1, hf, hr⟩ := wLp_s hf
    have J1n : ∀ (g : Mm) (x7 : Int32) (x8 : Int32), r1 = .inl (g, x7, x8) → ∀ (H : Heap) (locs : List Loc) (ls : Array Slot), Hx YC S k s g H locs → lv_has ls 11 [(0, .ref (k.1 + adC 0 0 0)), (1, .int a1), (2, .int a2), (4, .int x4), (5, .int x5), (6, .int x6), (7, .int x7), (8, .int x8)] → W p l e (RmN 7 167) s m args below meth c H locs 0 0 (Fin YC S k args s below (some (.int res.2)) res.1) (F0 m 58 ls []) := fun g x7 x8 q H locs ls h hl => by subst q; exact ih1 _ _ _ _ _ _ h hl hr
    have JRn : ∀ t1, r1 = .inr t1 → t1 = res := fun t1 q => by subst q; obtain rfl := Option.some.inj hr; exact JR
    have J1 := J1n
    have JR := JRn
    clear J1n JRn
    have hf : fX10_plan_B58 g a1 a2 x4 x5 x6 x7 x8 = some r1 := hf
    unfold fX10_plan_B58 at hf
    refine lv_iload X.x X.b dX10_plan_58 (lv_at hl 7 rfl) ?_
    refine lv_aload_n X.x X.b dX10_plan_60 rfl (lv_at hl 0 rfl) ?_
    refine gC_0_0 X h (hS 0) Nat.one_pos Nat.one_pos lk_X10_25 dX10_plan_61 ?_
    refine gC_9_1 X h (hS 9) (Nat.le_of_ble_eq_true rfl) Nat.one_pos lk_X10_170 dX10_plan_64 ?_
    refine lv_icmp_ge (tgt := 173) X.x X.b dX10_plan_67 (by decide) (fun c13 => ?_) (fun c13 => ?_)
    · have hf := wT c13 hf
      obtain ⟨t14, hf, e15⟩ := wEx_s hf
      have JR := JR t14 e15
      refine lv_iload X.x X.b dX10_plan_173 (lv_at hl 6 rfl) ?_
      cases (Option.some.inj hf).trans JR
      exact ro_iret X h dX10_plan_175
    · have hf := wF c13 hf
      refine lv_iconst (v := (-1)) X.x X.b dX10_plan_70 (by decide) ?_
      obtain ⟨y16, e17, hf⟩ := wLe_s hf
      refine lv_nmi e17 ?_
      refine lv_istore (lv' := [(9, .int y16), (0, .ref (k.1 + adC 0 0 0)), (1, .int a1), (2, .int a2), (4, .int x4), (5, .int x5), (6, .int x6), (7, .int x7), (8, .int x8)]) X.x X.b dX10_plan_71 hl (by decide) rfl (fun ls hl => ?_)
      exact wX10_plan_L73 hS X J1 JR _ _ _ _ _ _ _ h (lv_sub hl [1, 2, 3, 4, 5, 6, 7, 8, 0] rfl) hf
set_option maxHeartbeats 4000000 in
set_option maxRecDepth 20000 in
theorem wX10_plan_b50 {k : En} {S : Nat → Prop} (hS : ∀ t, S t) {a1 : Int32} {a2 : Int32} {res : Mm × Int32} (X : Cx YC S k p s m args meth c cX10_plan 11 (some .int) RX10) {g : Mm} {x4 : Int32} {x5 : Int32} {z0 : Int32} {H : Heap} {locs : List Loc} {ls : Array Slot} (h : Hx YC S k s g H locs) (hl : lv_has ls 11 [(0, .ref (k.1 + adC 0 0 0)), (1, .int a1), (2, .int a2), (4, .int x4), (5, .int x5)]) {r : Mm × Int32} (hf : fX10_plan_b50 g a1 a2 x4 x5 z0 = some r) (JR : r = res) :
    W p l e (RmN 7 167) s m args below meth c H locs 0 0 (Fin YC S k args s below (some (.int res.2)) res.1) (F0 m 50 ls [.int z0]) := by
  unfold fX10_plan_b50 at hf
  refine lv_istore (lv' := [(6, .int z0), (0, .ref (k.1 + adC 0 0 0)), (1, .int a1), (2, .int a2), (4, .int x4), (5, .int x5)]) X.x X.b dX10_plan_50 hl (by decide) rfl (fun ls hl => ?_)
  refine lv_iconst (v := (-1)) X.x X.b dX10_plan_52 (by decide) ?_
  obtain ⟨y9, e10, hf⟩ := wLe_s hf
  refine lv_nmi e10 ?_
  refine lv_istore (lv' := [(7, .int y9), (6, .int z0), (0, .ref (k.1 + adC 0 0 0)), (1, .int a1), (2, .int a2), (4, .int x4), (5, .int x5)]) X.x X.b dX10_plan_53 hl (by decide) rfl (fun ls hl => ?_)
  refine lv_iconst (v := (-1)) X.x X.b dX10_plan_55 (by decide) ?_
  obtain ⟨y11, e12, hf⟩ := wLe_s hf
  refine lv_nmi e12 ?_
  refine lv_istore (lv' := [(8, .int y11), (7, .int y9), (6, .int z0), (0, .ref (k.1 + adC 0 0 0)), (1, .int a1), (2, .int a2), (4, .int x4), (5, .int x5)]) X.x X.b dX10_plan_56 hl (by decide) rfl (fun ls hl => ?_)
  exact wX10_plan_L58 hS X JR _ _ _ _ _ _ _ h (lv_sub hl [3, 4, 5, 6, 7, 2, 1, 0] rfl) hf
set_option maxHeartbeats 4000000 in
set_option maxRecDepth 20000 in
theorem kX10_plan (l : Launch) {k : En} {S : Nat → Prop} (hS : ∀ t, S t) {a1 : Int32} {a2 : Int32} {res : Mm × Int32} {g : Mm} (hf : fX10_plan g a1 a2 = some res) : Mt l yX10_plan cX10_plan 11 (some .int) (RmN 7 167) YC S k [.ref (k.1 + adC 0 0 0), .int a1, .int a2] g (some (.int res.2)) res.1 := by
  refine Mt.of (by decide) (Nat.le_of_ble_eq_true rfl) ?_
  intro p e s m args below meth c ls X _ h hl
  have X : Cx YC S k p s m args meth c cX10_plan 11 (some .int) RX10 := X
  have hl : lv_has ls 11 [(0, .ref (k.1 + adC 0 0 0)), (1, .int a1), (2, .int a2)] := hl
  have JR : res = res := rfl
  unfold fX10_plan at hf
  refine lv_aload_n X.x X.b dX10_plan_0 rfl (lv_at hl 0 rfl) ?_
  refine lv_iload_n X.x X.b dX10_plan_1 rfl (lv_at hl 1 rfl) ?_
  refine lv_iload_n X.x X.b dX10_plan_2 rfl (lv_at hl 2 rfl) ?_
  obtain ⟨y2, e1, hf⟩ := wBd_s hf
  refine ro_callvI (As := [.int a1, .int a2]) (g1 := g) (x := y2) X h (kX10_refusedPlan l hS e1) mv_X10_refusedPlan lk_X10_164 ⟨rfl, rfl⟩ ⟨(Nat.le_of_ble_eq_true rfl), (Nat.le_of_ble_eq_true rfl)⟩ (rC_0 X h (hS 0) Nat.one_pos Nat.one_pos) rfl hl rfl (Nat.le_of_ble_eq_true rfl) ⟨Nat.zero_le _, Nat.zero_le _⟩ dX10_plan_3 (fun H locs h => ?_)
  refine lv_istore_n (lv' := [(3, .int y2), (0, .ref (k.1 + adC 0 0 0)), (1, .int a1), (2, .int a2)]) X.x X.b dX10_plan_6 rfl hl (by decide) rfl (fun ls hl => ?_)
  refine lv_iload_n X.x X.b dX10_plan_7 rfl (lv_at hl 0 rfl) ?_
  refine lv_if_eq (tgt := 13) X.x X.b dX10_plan_8 (by decide) (fun c3 => ?_) (fun c3 => ?_)
  · have hf := wT c3 hf
    refine lv_aload_n X.x X.b dX10_plan_13 rfl (lv_at hl 1 rfl) ?_
    refine lv_iload_n X.x X.b dX10_plan_14 rfl (lv_at hl 2 rfl) ?_
    obtain ⟨y5, e4, hf⟩ := wBd_s hf
    refine ro_callvI (As := [.int a1]) (g1 := g) (x := y5) X h (kX10_lowest l hS e4) mv_X10_lowest lk_X10_167 ⟨rfl, rfl⟩ ⟨(Nat.le_of_ble_eq_true rfl), (Nat.le_of_ble_eq_true rfl)⟩ (rC_0 X h (hS 0) Nat.one_pos Nat.one_pos) rfl hl rfl (Nat.le_of_ble_eq_true rfl) ⟨Nat.zero_le _, Nat.zero_le _⟩ dX10_plan_15 (fun H locs h => ?_)
    refine lv_istore (lv' := [(4, .int y5), (3, .int y2), (0, .ref (k.1 + adC 0 0 0)), (1, .int a1), (2, .int a2)]) X.x X.b dX10_plan_18 hl (by decide) rfl (fun ls hl => ?_)
    refine lv_aload_n X.x X.b dX10_plan_20 rfl (lv_at hl 2 rfl) ?_
    refine lv_iload_n X.x X.b dX10_plan_21 rfl (lv_at hl 3 rfl) ?_
    refine lv_iconst (v := 1) X.x X.b dX10_plan_22 (by decide) ?_
    refine lv_iload X.x X.b dX10_plan_23 (lv_at hl 0 rfl) ?_
    refine lv_ishl X.x X.b dX10_plan_25 ?_
    refine lv_iconst (v := (-1)) X.x X.b dX10_plan_26 (by decide) ?_
    refine lv_ixor X.x X.b dX10_plan_27 ?_
    refine lv_iand X.x X.b dX10_plan_28 ?_
    obtain ⟨y7, e6, hf⟩ := wBd_s hf
    refine ro_callvI (As := [.int (a1 &&& (((1 : Int32) <<< (y5 &&& 31)) ^^^ (-1 : Int32)))]) (g1 := g) (x := y7) X h (kX10_lowest l hS e6) mv_X10_lowest lk_X10_167 ⟨rfl, rfl⟩ ⟨(Nat.le_of_ble_eq_true rfl), (Nat.le_of_ble_eq_true rfl)⟩ (rC_0 X h (hS 0) Nat.one_pos Nat.one_pos) rfl hl rfl (Nat.le_of_ble_eq_true rfl) ⟨Nat.zero_le _, Nat.zero_le _⟩ dX10_plan_29 (fun H locs h => ?_)
    refine lv_istore (lv' := [(5, .int y7), (4, .int y5), (3, .int y2), (0, .ref (k.1 + adC 0 0 0)), (1, .int a1), (2, .int a2)]) X.x X.b dX10_plan_32 hl (by decide) rfl (fun ls hl => ?_)
    refine lv_iload X.x X.b dX10_plan_34 (lv_at hl 0 rfl) ?_
    refine lv_if_ge (tgt := 43) X.x X.b dX10_plan_36 (by decide) (fun c8 => ?_) (fun c8 => ?_)
    · have hf := wT c8 hf
      refine lv_aload_n X.x X.b dX10_plan_43 rfl (lv_at hl 3 rfl) ?_
      refine gC_0_0 X h (hS 0) Nat.one_pos Nat.one_pos lk_X10_25 dX10_plan_44 ?_
      refine gC_9_1 X h (hS 9) (Nat.le_of_ble_eq_true rfl) Nat.one_pos lk_X10_170 dX10_plan_47 ?_
      exact wX10_plan_b50 hS X h (lv_sub hl [3, 4, 5, 1, 0] rfl) hf JR
    · have hf := wF c8 hf
      refine lv_iconst (v := 0) X.x X.b dX10_plan_39 (by decide) ?_
      refine lv_goto (tgt := 50) X.x X.b dX10_plan_40 (by decide) ?_
      exact wX10_plan_b50 hS X h (lv_sub hl [3, 4, 5, 1, 0] rfl) hf JR
  · have hf := wF c3 hf
    refine lv_iload_n X.x X.b dX10_plan_11 rfl (lv_at hl 0 rfl) ?_
    cases (Option.some.inj hf).trans JR
    exact ro_iret X h dX10_plan_12
set_option maxHeartbeats 4000000 in
set_option maxRecDepth 20000 in
theorem kX10_planned (l : Launch) {k : En} {S : Nat → Prop} (hS : ∀ t, S t) {g0 : Mm} {a1 : Int32} {res : Int32} (hf : fX10_planned g0 a1 = some res) : Mt l yX10_planned cX10_planned 2 (some .int) (RmN 1 21) YC S k [.ref (k.1 + adC 0 0 0), .int a1] g0 (some (.int res)) g0 := by
  refine Mt.of (by decide) (Nat.le_of_ble_eq_true rfl) ?_
  intro p e s m args below meth c ls X _ h hl
  have X : Cx YC S k p s m args meth c cX10_planned 2 (some .int) RX10 := X
  have hl : lv_has ls 2 [(0, .ref (k.1 + adC 0 0 0)), (1, .int a1)] := hl
  have JR : res = res := rfl
  unfold fX10_planned at hf
  refine lv_aload_n X.x X.b dX10_planned_0 rfl (lv_at hl 0 rfl) ?_
  refine gC_0_3 X h (hS 0) Nat.one_pos Nat.one_pos lk_X10_35 dX10_planned_1 ?_
  refine lv_iload_n X.x X.b dX10_planned_4 rfl (lv_at hl 1 rfl) ?_
  obtain ⟨y2, e1, hf⟩ := wBd_s hf
  refine ro_callvI (As := [.int a1]) (g1 := g0) (x := y2) X h (kX2_holds l hS e1) mv_X2_holds lk_X10_181 ⟨rfl, rfl⟩ ⟨(Nat.le_of_ble_eq_true rfl), (Nat.le_of_ble_eq_true rfl)⟩ (rC_23 X h (hS 23) Nat.one_pos Nat.one_pos) rfl hl rfl (Nat.le_of_ble_eq_true rfl) ⟨Nat.zero_le _, Nat.zero_le _⟩ dX10_planned_5 (fun H locs h => ?_)
  refine lv_if_eq (tgt := 22) X.x X.b dX10_planned_8 (by decide) (fun c3 => ?_) (fun c3 => ?_)
  · have hf := wT c3 hf
    refine lv_bipush (v := (-3)) X.x X.b dX10_planned_22 (by decide) ?_
    cases (Option.some.inj hf).trans JR
    exact ro_iret X h dX10_planned_24
  · have hf := wF c3 hf
    refine lv_aload_n X.x X.b dX10_planned_11 rfl (lv_at hl 0 rfl) ?_
    refine gC_0_3 X h (hS 0) Nat.one_pos Nat.one_pos lk_X10_35 dX10_planned_12 ?_
    refine lv_iload_n X.x X.b dX10_planned_15 rfl (lv_at hl 1 rfl) ?_
    obtain ⟨y5, e4, hf⟩ := wBd_s hf
    refine ro_callvI (As := [.int a1]) (g1 := g0) (x := y5) X h (kX2_wishOf l hS e4) mv_X2_wishOf lk_X10_184 ⟨rfl, rfl⟩ ⟨(Nat.le_of_ble_eq_true rfl), (Nat.le_of_ble_eq_true rfl)⟩ (rC_23 X h (hS 23) Nat.one_pos Nat.one_pos) rfl hl rfl (Nat.le_of_ble_eq_true rfl) ⟨Nat.zero_le _, Nat.zero_le _⟩ dX10_planned_16 (fun H locs h => ?_)
    refine lv_goto (tgt := 24) X.x X.b dX10_planned_19 (by decide) ?_
    cases (Option.some.inj hf).trans JR
    exact ro_iret X h dX10_planned_24
set_option maxHeartbeats 4000000 in
set_option maxRecDepth 20000 in
theorem wX10_settle_b61 {k : En} {S : Nat → Prop} (hS : ∀ t, S t) {res : Mm × Int32} (X : Cx YC S k p s m args meth c cX10_settle 2 (some .int) RX10) {g : Mm} {x1 : Int32} {H : Heap} {locs : List Loc} {ls : Array Slot} (h : Hx YC S k s g H locs) (hl : lv_has ls 2 [(0, .ref (k.1 + adC 0 0 0)), (1, .int x1)]) {r : (Mm × Int32) ⊕ (Mm × Int32)} (hf : fX10_settle_b61 g x1 = some r) (J1 : ∀ (g : Mm) (x1 : Int32), r = .inl (g, x1) → ∀ (H : Heap) (locs : List Loc) (ls : Array Slot), Hx YC S k s g H locs → lv_has ls 2 [(0, .ref (k.1 + adC 0 0 0)), (1, .int x1)] → W p l e (RmN 2 42) s m args below meth c H locs 0 0 (Fin YC S k args s below (some (.int res.2)) res.1) (F0 m 19 ls [])) (JR : ∀ t1, r = .inr t1 → t1 = res) :
    W p l e (RmN 2 42) s m args below meth c H locs 0 0 (Fin YC S k args s below (some (.int res.2)) res.1) (F0 m 61 ls []) := by
  unfold fX10_settle_b61 at hf
  obtain ⟨y14, e15, hf⟩ := wLe_s hf
  refine lv_iinc (v := y14) (lv' := [(1, .int y14), (0, .ref (k.1 + adC 0 0 0))]) X.x X.b dX10_settle_61 hl (k := 1) rfl (by rw [e15]; rfl) (by decide) rfl (fun ls hl => ?_)
  refine lv_goto (tgt := 19) X.x X.b dX10_settle_64 (by decide) ?_
  exact J1 _ _ (Option.some.inj hf).symm _ _ _ h (lv_sub hl [1, 0] rfl)
set_option maxHeartbeats 4000000 in
set_option maxRecDepth 20000 in
theorem wX10_settle_L19 {k : En} {S : Nat → Prop} (hS : ∀ t, S t) {res : Mm × Int32} (X : Cx YC S k p s m args meth c cX10_settle 2 (some .int) RX10) {r : Mm × Int32} (JR : r = res) :
    ∀ (fu : Nat) (g : Mm) (x1 : Int32) (H : Heap) (locs : List Loc) (ls : Array Slot), Hx YC S k s g H locs → lv_has ls 2 [(0, .ref (k.1 + adC 0 0 0)), (1, .int x1)] → wLp (fun q => fX10_settle_B19 q.1 q.2) fu (g, x1) = some r → W p l e (RmN 2 42) s m args below meth c H locs 0 0 (Fin YC S k args s below (some (.int res.2)) res.1) (F0 m 19 ls []) := by
  intro fu
  induction fu with
  | zero => intro g x1 H locs ls h hl hf; exact (wLp_0 hf).elim
  | succ fu ih1 =>
    intro g x1 H locs ls h hl hf
    obtain ⟨r1, hf, hr⟩ := wLp_s hf
    have J1n : ∀ (g : Mm) (x1 : Int32), r1 = .inl (g, x1) → ∀ (H : Heap) (locs : List Loc) (ls : Array Slot), Hx YC S k s g H locs → lv_has ls 2 [(0, .ref (k.1 + adC 0 0 0)), (1, .int x1)] → W p l e (RmN 2 42) s m args below meth c H locs 0 0 (Fin YC S k args s below (some (.int res.2)) res.1) (F0 m 19 ls []) := fun g x1 q H locs ls h hl => by subst q; exact ih1 _ _ _ _ _ h hl hr
    have JRn : ∀ t1, r1 = .inr t1 → t1 = res := fun t1 q => by subst q; obtain rfl := Option.some.inj hr; exact JR
    have J1 := J1n
    have JR := JRn
    clear J1n JRn
    have hf : fX10_settle_B19 g x1 = some r1 := hf
    unfold fX10_settle_B19 at hf
    refine lv_iload_n X.x X.b dX10_settle_19 rfl (lv_at hl 1 rfl) ?_
    refine lv_aload_n X.x X.b dX10_settle_20 rfl (lv_at hl 0 rfl) ?_
    refine gC_0_0 X h (hS 0) Nat.one_pos Nat.one_pos lk_X10_25 dX10_settle_21 ?_
    refine gC_9_2 X h (hS 9) (Nat.le_of_ble_eq_true rfl) Nat.one_pos lk_X10_193 dX10_settle_24 ?_
    refine lv_icmp_ge (tgt := 67) X.x X.b dX10_settle_27 (by decide) (fun c6 => ?_) (fun c6 => ?_)
    · have hf := wT c6 hf
      obtain ⟨t7, hf, e8⟩ := wEx_s hf
      have JR := JR t7 e8
      refine lv_aload_n X.x X.b dX10_settle_67 rfl (lv_at hl 0 rfl) ?_
      refine gC_0_3 X h (hS 0) Nat.one_pos Nat.one_pos lk_X10_35 dX10_settle_68 ?_
      refine gC_23_0 X h (hS 23) Nat.one_pos Nat.one_pos lk_X10_187 dX10_settle_71 ?_
      obtain ⟨y10, e9, hf⟩ := wBd_s hf
      refine ro_callsI (As := [.int (g 23 0 0 0)]) (g1 := g) (x := y10) X h (kX103_bitCount l trivial e9) mv_X103_bitCount lk_X10_196 ⟨rfl, rfl⟩ ⟨(Nat.le_of_ble_eq_true rfl), (Nat.le_of_ble_eq_true rfl)⟩ rfl hl rfl (Nat.le_of_ble_eq_true rfl) ⟨Nat.zero_le _, Nat.zero_le _⟩ dX10_settle_74 (fun H locs h => ?_)
      cases (Option.some.inj hf).trans JR
      exact ro_iret X h dX10_settle_77
    · have hf := wF c6 hf
      refine lv_aload_n X.x X.b dX10_settle_30 rfl (lv_at hl 0 rfl) ?_
      refine gC_0_3 X h (hS 0) Nat.one_pos Nat.one_pos lk_X10_35 dX10_settle_31 ?_
      refine lv_iload_n X.x X.b dX10_settle_34 rfl (lv_at hl 1 rfl) ?_
      obtain ⟨y12, e11, hf⟩ := wBd_s hf
      refine ro_callvI (As := [.int x1]) (g1 := g) (x := y12) X h (kX2_holds l hS e11) mv_X2_holds lk_X10_181 ⟨rfl, rfl⟩ ⟨(Nat.le_of_ble_eq_true rfl), (Nat.le_of_ble_eq_true rfl)⟩ (rC_23 X h (hS 23) Nat.one_pos Nat.one_pos) rfl hl rfl (Nat.le_of_ble_eq_true rfl) ⟨Nat.zero_le _, Nat.zero_le _⟩ dX10_settle_35 (fun H locs h => ?_)
      refine lv_if_eq (tgt := 61) X.x X.b dX10_settle_38 (by decide) (fun c13 => ?_) (fun c13 => ?_)
      · have hf := wT c13 hf
        exact wX10_settle_b61 hS X h (lv_sub hl [0, 1] rfl) hf J1 JR
      · have hf := wF c13 hf
        refine lv_aload_n X.x X.b dX10_settle_41 rfl (lv_at hl 0 rfl) ?_
        refine gC_0_0 X h (hS 0) Nat.one_pos Nat.one_pos lk_X10_25 dX10_settle_42 ?_
        refine gC_9_11 X h (hS 9) (Nat.le_of_ble_eq_true rfl) Nat.one_pos lk_X10_85 dX10_settle_45 ?_
        refine lv_iload_n X.x X.b dX10_settle_48 rfl (lv_at hl 1 rfl) ?_
        obtain ⟨b16, hf⟩ := wGi_s hf
        refine qC_16 X h (hS 16) (Nat.le_of_ble_eq_true rfl) Nat.one_pos b16 dX10_settle_49 ?_
        refine lv_aload_n X.x X.b dX10_settle_50 rfl (lv_at hl 0 rfl) ?_
        refine gC_0_3 X h (hS 0) Nat.one_pos Nat.one_pos lk_X10_35 dX10_settle_51 ?_
        refine lv_iload_n X.x X.b dX10_settle_54 rfl (lv_at hl 1 rfl) ?_
        obtain ⟨y18, e17, hf⟩ := wBd_s hf
        refine ro_callvI (As := [.int x1]) (g1 := g) (x := y18) X h (kX2_wishOf l hS e17) mv_X2_wishOf lk_X10_184 ⟨rfl, rfl⟩ ⟨(Nat.le_of_ble_eq_true rfl), (Nat.le_of_ble_eq_true rfl)⟩ (rC_23 X h (hS 23) Nat.one_pos Nat.one_pos) rfl hl rfl (Nat.le_of_ble_eq_true rfl) ⟨Nat.zero_le _, Nat.zero_le _⟩ dX10_settle_55 (fun H locs h => ?_)
        obtain ⟨g19, e20, hf⟩ := wLe_s hf
        refine pC_19_5 X h (hS 19) (Nat.le_of_ble_eq_true rfl) (vin_lt b16) lk_X10_107 e20 dX10_settle_58 (fun H locs h => ?_)
        exact wX10_settle_b61 hS X h (lv_sub hl [0, 1] rfl) hf J1 JR
set_option maxHeartbeats 4000000 in
set_option maxRecDepth 20000 in
theorem kX10_settle (l : Launch) {k : En} {S : Nat → Prop} (hS : ∀ t, S t) {res : Mm × Int32} {g : Mm} (hf : fX10_settle g = some res) : Mt l yX10_settle cX10_settle 2 (some .int) (RmN 2 42) YC S k [.ref (k.1 + adC 0 0 0)] g (some (.int res.2)) res.1 := by
  refine Mt.of (by decide) (Nat.le_of_ble_eq_true rfl) ?_
  intro p e s m args below meth c ls X _ h hl
  have X : Cx YC S k p s m args meth c cX10_settle 2 (some .int) RX10 := X
  have hl : lv_has ls 2 [(0, .ref (k.1 + adC 0 0 0))] := hl
  have JR : res = res := rfl
  unfold fX10_settle at hf
  refine lv_aload_n X.x X.b dX10_settle_0 rfl (lv_at hl 0 rfl) ?_
  refine lv_aload_n X.x X.b dX10_settle_1 rfl (lv_at hl 0 rfl) ?_
  refine gC_0_3 X h (hS 0) Nat.one_pos Nat.one_pos lk_X10_35 dX10_settle_2 ?_
  refine gC_23_0 X h (hS 23) Nat.one_pos Nat.one_pos lk_X10_187 dX10_settle_5 ?_
  obtain ⟨y2, e1, hf⟩ := wBd_s hf
  refine ro_callvI (As := [.int (g 23 0 0 0)]) (g1 := g) (x := y2) X h (kX10_areAhead l hS e1) mv_X10_areAhead lk_X10_190 ⟨rfl, rfl⟩ ⟨(Nat.le_of_ble_eq_true rfl), (Nat.le_of_ble_eq_true rfl)⟩ (rC_0 X h (hS 0) Nat.one_pos Nat.one_pos) rfl hl rfl (Nat.le_of_ble_eq_true rfl) ⟨Nat.zero_le _, Nat.zero_le _⟩ dX10_settle_8 (fun H locs h => ?_)
  refine lv_if_ne (tgt := 17) X.x X.b dX10_settle_11 (by decide) (fun c3 => ?_) (fun c3 => ?_)
  · have hf := wF c3 hf
    refine lv_iconst (v := 0) X.x X.b dX10_settle_17 (by decide) ?_
    obtain ⟨y4, e5, hf⟩ := wLe_s hf
    refine lv_nmi e5 ?_
    refine lv_istore_n (lv' := [(1, .int y4), (0, .ref (k.1 + adC 0 0 0))]) X.x X.b dX10_settle_18 rfl hl (by decide) rfl (fun ls hl => ?_)
    exact wX10_settle_L19 hS X JR _ _ _ _ _ _ h (lv_sub hl [1, 0] rfl) hf
  · have hf := wT c3 hf
    refine lv_bipush (v := (-3)) X.x X.b dX10_settle_14 (by decide) ?_
    cases (Option.some.inj hf).trans JR
    exact ro_iret X h dX10_settle_16
set_option maxHeartbeats 4000000 in
set_option maxRecDepth 20000 in
theorem kX10_estimate (l : Launch) {k : En} {S : Nat → Prop} (hS : ∀ t, S t) {a1 : Int32} {a2 : Int32} {res : Mm × Int32} {g : Mm} (hf : fX10_estimate g a1 a2 = some res) : Mt l yX10_estimate cX10_estimate 3 (some .int) (RmN 1 23) YC S k [.ref (k.1 + adC 0 0 0), .int a1, .int a2] g (some (.int res.2)) res.1 := by
  refine Mt.of (by decide) (Nat.le_of_ble_eq_true rfl) ?_
  intro p e s m args below meth c ls X _ h hl
  have X : Cx YC S k p s m args meth c cX10_estimate 3 (some .int) RX10 := X
  have hl : lv_has ls 3 [(0, .ref (k.1 + adC 0 0 0)), (1, .int a1), (2, .int a2)] := hl
  have JR : res = res := rfl
  unfold fX10_estimate at hf
  refine lv_aload_n X.x X.b dX10_estimate_0 rfl (lv_at hl 0 rfl) ?_
  refine gC_0_0 X h (hS 0) Nat.one_pos Nat.one_pos lk_X10_25 dX10_estimate_1 ?_
  refine lv_iload_n X.x X.b dX10_estimate_4 rfl (lv_at hl 1 rfl) ?_
  obtain ⟨y2, e1, hf⟩ := wBd_s hf
  refine ro_callvI (As := [.int a1]) (g1 := g) (x := y2) X h (kX4_hasVisit l hS (Nat.le_of_ble_eq_true rfl) e1) mv_X4_hasVisit lk_X10_82 ⟨rfl, rfl⟩ ⟨(Nat.le_of_ble_eq_true rfl), (Nat.le_of_ble_eq_true rfl)⟩ (rC_9 X h (hS 9) (Nat.le_of_ble_eq_true rfl) Nat.one_pos) rfl hl rfl (Nat.le_of_ble_eq_true rfl) ⟨Nat.zero_le _, Nat.zero_le _⟩ dX10_estimate_5 (fun H locs h => ?_)
  refine lv_if_ne (tgt := 13) X.x X.b dX10_estimate_8 (by decide) (fun c3 => ?_) (fun c3 => ?_)
  · have hf := wF c3 hf
    refine lv_iload_n X.x X.b dX10_estimate_13 rfl (lv_at hl 2 rfl) ?_
    refine lv_if_lt (tgt := 24) X.x X.b dX10_estimate_14 (by decide) (fun c4 => ?_) (fun c4 => ?_)
    · have hf := wT c4 hf
      refine lv_bipush (v := (-2)) X.x X.b dX10_estimate_24 (by decide) ?_
      cases (Option.some.inj hf).trans JR
      exact ro_iret X h dX10_estimate_26
    · have hf := wF c4 hf
      refine lv_iload_n X.x X.b dX10_estimate_17 rfl (lv_at hl 2 rfl) ?_
      refine lv_sipush (v := 9999) X.x X.b dX10_estimate_18 (by decide) ?_
      refine lv_icmp_le (tgt := 27) X.x X.b dX10_estimate_21 (by decide) (fun c5 => ?_) (fun c5 => ?_)
      · have hf := wT c5 hf
        refine lv_aload_n X.x X.b dX10_estimate_27 rfl (lv_at hl 0 rfl) ?_
        refine gC_0_4 X h (hS 0) Nat.one_pos Nat.one_pos lk_X10_42 dX10_estimate_28 ?_
        refine lv_iload_n X.x X.b dX10_estimate_31 rfl (lv_at hl 1 rfl) ?_
        refine lv_iload_n X.x X.b dX10_estimate_32 rfl (lv_at hl 2 rfl) ?_
        refine lv_aload_n X.x X.b dX10_estimate_33 rfl (lv_at hl 0 rfl) ?_
        refine gC_0_0 X h (hS 0) Nat.one_pos Nat.one_pos lk_X10_25 dX10_estimate_34 ?_
        refine gC_9_0 X h (hS 9) (Nat.le_of_ble_eq_true rfl) Nat.one_pos lk_X10_74 dX10_estimate_37 ?_
        obtain ⟨g8, y7, e6, hf⟩ := wB2_s hf
        refine ro_callvI (As := [.int a1, .int a2, .int (g 9 0 0 0)]) (g1 := g8) (x := y7) X h (kX0_add l hS e6) mv_X0_add lk_X10_201 ⟨rfl, rfl⟩ ⟨(Nat.le_of_ble_eq_true rfl), (Nat.le_of_ble_eq_true rfl)⟩ (rC_24 X h (hS 24) Nat.one_pos Nat.one_pos) rfl hl rfl (Nat.le_of_ble_eq_true rfl) ⟨Nat.zero_le _, Nat.zero_le _⟩ dX10_estimate_40 (fun H locs h => ?_)
        cases (Option.some.inj hf).trans JR
        exact ro_iret X h dX10_estimate_43
      · have hf := wF c5 hf
        refine lv_bipush (v := (-2)) X.x X.b dX10_estimate_24 (by decide) ?_
        cases (Option.some.inj hf).trans JR
        exact ro_iret X h dX10_estimate_26
  · have hf := wT c3 hf
    refine lv_iconst (v := (-1)) X.x X.b dX10_estimate_11 (by decide) ?_
    cases (Option.some.inj hf).trans JR
    exact ro_iret X h dX10_estimate_12
set_option maxHeartbeats 4000000 in
set_option maxRecDepth 20000 in
theorem kX10_thereBy (l : Launch) {k : En} {S : Nat → Prop} (hS : ∀ t, S t) {g0 : Mm} {a1 : Int32} {a2 : Int32} {res : Int32} (hf : fX10_thereBy g0 a1 a2 = some res) : Mt l yX10_thereBy cX10_thereBy 4 (some .int) (RmN 1 24) YC S k [.ref (k.1 + adC 0 0 0), .int a1, .int a2] g0 (some (.int res)) g0 := by
  refine Mt.of (by decide) (Nat.le_of_ble_eq_true rfl) ?_
  intro p e s m args below meth c ls X _ h hl
  have X : Cx YC S k p s m args meth c cX10_thereBy 4 (some .int) RX10 := X
  have hl : lv_has ls 4 [(0, .ref (k.1 + adC 0 0 0)), (1, .int a1), (2, .int a2)] := hl
  have JR : res = res := rfl
  unfold fX10_thereBy at hf
  refine lv_aload_n X.x X.b dX10_thereBy_0 rfl (lv_at hl 0 rfl) ?_
  refine gC_0_0 X h (hS 0) Nat.one_pos Nat.one_pos lk_X10_25 dX10_thereBy_1 ?_
  refine gC_9_11 X h (hS 9) (Nat.le_of_ble_eq_true rfl) Nat.one_pos lk_X10_85 dX10_thereBy_4 ?_
  refine lv_iload_n X.x X.b dX10_thereBy_7 rfl (lv_at hl 1 rfl) ?_
  obtain ⟨b1, hf⟩ := wGi_s hf
  refine qC_16 X h (hS 16) (Nat.le_of_ble_eq_true rfl) Nat.one_pos b1 dX10_thereBy_8 ?_
  refine lv_astore_n (lv' := [(3, .ref (k.1 + adC 19 0 ((a1).toNatClampNeg))), (0, .ref (k.1 + adC 0 0 0)), (1, .int a1), (2, .int a2)]) X.x X.b dX10_thereBy_9 rfl hl (by decide) rfl (fun ls hl => ?_)
  refine lv_aload_n X.x X.b dX10_thereBy_10 rfl (lv_at hl 1 rfl) ?_
  refine gC_0_4 X h (hS 0) Nat.one_pos Nat.one_pos lk_X10_42 dX10_thereBy_11 ?_
  refine lv_iload_n X.x X.b dX10_thereBy_14 rfl (lv_at hl 2 rfl) ?_
  refine lv_iload_n X.x X.b dX10_thereBy_15 rfl (lv_at hl 3 rfl) ?_
  refine lv_aload_n X.x X.b dX10_thereBy_16 rfl (lv_at hl 0 rfl) ?_
  refine gC_19_1 X h (hS 19) (Nat.le_of_ble_eq_true rfl) (vin_lt b1) lk_X10_314 dX10_thereBy_17 ?_
  obtain ⟨y3, e2, hf⟩ := wBd_s hf
  refine ro_callvI (As := [.int a1, .int a2, .int (g0 19 0 ((a1).toNatClampNeg) 1)]) (g1 := g0) (x := y3) X h (kX0_thought l hS e2) mv_X0_thought lk_X10_317 ⟨rfl, rfl⟩ ⟨(Nat.le_of_ble_eq_true rfl), (Nat.le_of_ble_eq_true rfl)⟩ (rC_24 X h (hS 24) Nat.one_pos Nat.one_pos) rfl hl rfl (Nat.le_of_ble_eq_true rfl) ⟨Nat.zero_le _, Nat.zero_le _⟩ dX10_thereBy_20 (fun H locs h => ?_)
  refine lv_aload_n X.x X.b dX10_thereBy_23 rfl (lv_at hl 0 rfl) ?_
  refine gC_19_0 X h (hS 19) (Nat.le_of_ble_eq_true rfl) (vin_lt b1) lk_X10_211 dX10_thereBy_24 ?_
  obtain ⟨y5, e4, hf⟩ := wBd_s hf
  refine ro_callsI (As := [.int (g0 19 0 ((a1).toNatClampNeg) 0)]) (g1 := g0) (x := y5) X h (kX3_roll l hS e4) mv_X3_roll lk_X10_154 ⟨rfl, rfl⟩ ⟨(Nat.le_of_ble_eq_true rfl), (Nat.le_of_ble_eq_true rfl)⟩ rfl hl rfl (Nat.le_of_ble_eq_true rfl) ⟨Nat.zero_le _, Nat.zero_le _⟩ dX10_thereBy_27 (fun H locs h => ?_)
  refine lv_iadd X.x X.b dX10_thereBy_30 ?_
  refine lv_iconst (v := 4) X.x X.b dX10_thereBy_31 (by decide) ?_
  refine lv_iadd X.x X.b dX10_thereBy_32 ?_
  cases (Option.some.inj hf).trans JR
  exact ro_iret X h dX10_thereBy_33
set_option maxHeartbeats 4000000 in
set_option maxRecDepth 20000 in
theorem wX10_expects_b60 {k : En} {S : Nat → Prop} (hS : ∀ t, S t) {g0 : Mm} {a1 : Int32} {a2 : Int32} {res : Int32} (X : Cx YC S k p s m args meth c cX10_expects 5 (some .int) RX10) {x3v : Nat} {z0 : Int32} (hx3v : x3v < 12) {H : Heap} {locs : List Loc} {ls : Array Slot} (h : Hx YC S k s g0 H locs) (hl : lv_has ls 5 [(0, .ref (k.1 + adC 0 0 0)), (1, .int a1), (2, .int a2), (3, .ref (k.1 + adC 19 0 x3v))]) {r : Int32} (hf : fX10_expects_b60 g0 a1 a2 x3v z0 = some r) (JR : r = res) :
    W p l e (RmN 4 83) s m args below meth c H locs 0 0 (Fin YC S k args s below (some (.int res)) g0) (F0 m 60 ls [.int z0]) := by
  unfold fX10_expects_b60 at hf
  refine lv_istore (lv' := [(4, .int z0), (0, .ref (k.1 + adC 0 0 0)), (1, .int a1), (2, .int a2), (3, .ref (k.1 + adC 19 0 x3v))]) X.x X.b dX10_expects_60 hl (by decide) rfl (fun ls hl => ?_)
  refine lv_aload_n X.x X.b dX10_expects_62 rfl (lv_at hl 4 rfl) ?_
  refine gC_19_2 X h (hS 19) (Nat.le_of_ble_eq_true rfl) hx3v lk_X10_205 dX10_expects_63 ?_
  refine lv_aload_n X.x X.b dX10_expects_66 rfl (lv_at hl 1 rfl) ?_
  refine lv_iload_n X.x X.b dX10_expects_67 rfl (lv_at hl 2 rfl) ?_
  refine lv_iload_n X.x X.b dX10_expects_68 rfl (lv_at hl 3 rfl) ?_
  obtain ⟨y10, e9, hf⟩ := wBd_s hf
  refine ro_callvI (As := [.int a1, .int a2]) (g1 := g0) (x := y10) X h (kX10_thereBy l hS e9) mv_X10_thereBy lk_X10_208 ⟨rfl, rfl⟩ ⟨(Nat.le_of_ble_eq_true rfl), (Nat.le_of_ble_eq_true rfl)⟩ (rC_0 X h (hS 0) Nat.one_pos Nat.one_pos) rfl hl rfl (Nat.le_of_ble_eq_true rfl) ⟨Nat.zero_le _, Nat.zero_le _⟩ dX10_expects_69 (fun H locs h => ?_)
  refine lv_aload_n X.x X.b dX10_expects_72 rfl (lv_at hl 4 rfl) ?_
  refine gC_19_0 X h (hS 19) (Nat.le_of_ble_eq_true rfl) hx3v lk_X10_211 dX10_expects_73 ?_
  refine lv_iload X.x X.b dX10_expects_76 (lv_at hl 0 rfl) ?_
  obtain ⟨y12, e11, hf⟩ := wBd_s hf
  refine ro_callsI (As := [.int (g0 19 0 x3v 0), .int z0]) (g1 := g0) (x := y12) X h (kX3_wayThrough l hS e11) mv_X3_wayThrough lk_X10_214 ⟨rfl, rfl⟩ ⟨(Nat.le_of_ble_eq_true rfl), (Nat.le_of_ble_eq_true rfl)⟩ rfl hl rfl (Nat.le_of_ble_eq_true rfl) ⟨Nat.zero_le _, Nat.zero_le _⟩ dX10_expects_78 (fun H locs h => ?_)
  refine lv_iadd X.x X.b dX10_expects_81 ?_
  refine ro_max X hl lk_X10_218 mx_f (Nat.le_of_ble_eq_true rfl) (Nat.le_of_ble_eq_true rfl) ⟨Nat.zero_le _, Nat.zero_le _⟩ dX10_expects_82 ?_
  cases (Option.some.inj hf).trans JR
  exact ro_iret X h dX10_expects_85
set_option maxHeartbeats 4000000 in
set_option maxRecDepth 20000 in
theorem kX10_expects (l : Launch) {k : En} {S : Nat → Prop} (hS : ∀ t, S t) {g0 : Mm} {a1 : Int32} {a2 : Int32} {res : Int32} (hf : fX10_expects g0 a1 a2 = some res) : Mt l yX10_expects cX10_expects 5 (some .int) (RmN 4 83) YC S k [.ref (k.1 + adC 0 0 0), .int a1, .int a2] g0 (some (.int res)) g0 := by
  refine Mt.of (by decide) (Nat.le_of_ble_eq_true rfl) ?_
  intro p e s m args below meth c ls X _ h hl
  have X : Cx YC S k p s m args meth c cX10_expects 5 (some .int) RX10 := X
  have hl : lv_has ls 5 [(0, .ref (k.1 + adC 0 0 0)), (1, .int a1), (2, .int a2)] := hl
  have JR : res = res := rfl
  unfold fX10_expects at hf
  refine lv_aload_n X.x X.b dX10_expects_0 rfl (lv_at hl 0 rfl) ?_
  refine gC_0_0 X h (hS 0) Nat.one_pos Nat.one_pos lk_X10_25 dX10_expects_1 ?_
  refine lv_iload_n X.x X.b dX10_expects_4 rfl (lv_at hl 1 rfl) ?_
  obtain ⟨y2, e1, hf⟩ := wBd_s hf
  refine ro_callvI (As := [.int a1]) (g1 := g0) (x := y2) X h (kX4_hasVisit l hS (Nat.le_of_ble_eq_true rfl) e1) mv_X4_hasVisit lk_X10_82 ⟨rfl, rfl⟩ ⟨(Nat.le_of_ble_eq_true rfl), (Nat.le_of_ble_eq_true rfl)⟩ (rC_9 X h (hS 9) (Nat.le_of_ble_eq_true rfl) Nat.one_pos) rfl hl rfl (Nat.le_of_ble_eq_true rfl) ⟨Nat.zero_le _, Nat.zero_le _⟩ dX10_expects_5 (fun H locs h => ?_)
  refine lv_if_ne (tgt := 13) X.x X.b dX10_expects_8 (by decide) (fun c3 => ?_) (fun c3 => ?_)
  · have hf := wF c3 hf
    refine lv_iload_n X.x X.b dX10_expects_13 rfl (lv_at hl 2 rfl) ?_
    refine lv_if_lt (tgt := 28) X.x X.b dX10_expects_14 (by decide) (fun c4 => ?_) (fun c4 => ?_)
    · have hf := wT c4 hf
      refine lv_bipush (v := (-2)) X.x X.b dX10_expects_28 (by decide) ?_
      cases (Option.some.inj hf).trans JR
      exact ro_iret X h dX10_expects_30
    · have hf := wF c4 hf
      refine lv_iload_n X.x X.b dX10_expects_17 rfl (lv_at hl 2 rfl) ?_
      refine lv_aload_n X.x X.b dX10_expects_18 rfl (lv_at hl 0 rfl) ?_
      refine gC_0_0 X h (hS 0) Nat.one_pos Nat.one_pos lk_X10_25 dX10_expects_19 ?_
      refine gC_9_0 X h (hS 9) (Nat.le_of_ble_eq_true rfl) Nat.one_pos lk_X10_74 dX10_expects_22 ?_
      refine lv_icmp_le (tgt := 31) X.x X.b dX10_expects_25 (by decide) (fun c5 => ?_) (fun c5 => ?_)
      · have hf := wT c5 hf
        refine lv_aload_n X.x X.b dX10_expects_31 rfl (lv_at hl 0 rfl) ?_
        refine gC_0_0 X h (hS 0) Nat.one_pos Nat.one_pos lk_X10_25 dX10_expects_32 ?_
        refine gC_9_11 X h (hS 9) (Nat.le_of_ble_eq_true rfl) Nat.one_pos lk_X10_85 dX10_expects_35 ?_
        refine lv_iload_n X.x X.b dX10_expects_38 rfl (lv_at hl 1 rfl) ?_
        obtain ⟨b6, hf⟩ := wGi_s hf
        refine qC_16 X h (hS 16) (Nat.le_of_ble_eq_true rfl) Nat.one_pos b6 dX10_expects_39 ?_
        refine lv_astore_n (lv' := [(3, .ref (k.1 + adC 19 0 ((a1).toNatClampNeg))), (0, .ref (k.1 + adC 0 0 0)), (1, .int a1), (2, .int a2)]) X.x X.b dX10_expects_40 rfl hl (by decide) rfl (fun ls hl => ?_)
        refine lv_aload_n X.x X.b dX10_expects_41 rfl (lv_at hl 1 rfl) ?_
        refine gC_0_0 X h (hS 0) Nat.one_pos Nat.one_pos lk_X10_25 dX10_expects_42 ?_
        refine gC_9_5 X h (hS 9) (Nat.le_of_ble_eq_true rfl) Nat.one_pos lk_X10_67 dX10_expects_45 ?_
        refine lv_bipush (v := 6) X.x X.b dX10_expects_48 (by decide) ?_
        obtain ⟨b7, hf⟩ := wGi_s hf
        refine aC_10 X h (hS 10) (Nat.le_of_ble_eq_true rfl) Nat.one_pos b7 dX10_expects_50 ?_
        refine lv_iconst (v := 1) X.x X.b dX10_expects_51 (by decide) ?_
        refine lv_icmp_ne (tgt := 59) X.x X.b dX10_expects_52 (by decide) (fun c8 => ?_) (fun c8 => ?_)
        · have hf := wF c8 hf
          refine lv_iconst (v := 0) X.x X.b dX10_expects_59 (by decide) ?_
          exact wX10_expects_b60 hS X (vin_lt b6) h (lv_sub hl [1, 2, 3, 0] rfl) hf JR
        · have hf := wT c8 hf
          refine lv_iconst (v := 1) X.x X.b dX10_expects_55 (by decide) ?_
          refine lv_goto (tgt := 60) X.x X.b dX10_expects_56 (by decide) ?_
          exact wX10_expects_b60 hS X (vin_lt b6) h (lv_sub hl [1, 2, 3, 0] rfl) hf JR
      · have hf := wF c5 hf
        refine lv_bipush (v := (-2)) X.x X.b dX10_expects_28 (by decide) ?_
        cases (Option.some.inj hf).trans JR
        exact ro_iret X h dX10_expects_30
  · have hf := wT c3 hf
    refine lv_iconst (v := (-1)) X.x X.b dX10_expects_11 (by decide) ?_
    cases (Option.some.inj hf).trans JR
    exact ro_iret X h dX10_expects_12
set_option maxHeartbeats 4000000 in
set_option maxRecDepth 20000 in
theorem kX10_cartThereBy (l : Launch) {k : En} {S : Nat → Prop} (hS : ∀ t, S t) {g0 : Mm} {i1 : Nat} {v1 : Nat} {a2 : Int32} (hi1 : i1 < 2) (hv1 : v1 < 16) {res : Int32} (hf : fX10_cartThereBy g0 i1 v1 a2 = some res) : Mt l yX10_cartThereBy cX10_cartThereBy 3 (some .int) (RmN 2 47) YC S k [.ref (k.1 + adC 0 0 0), .ref (k.1 + adC 22 i1 v1), .int a2] g0 (some (.int res)) g0 := by
  refine Mt.of (by decide) (Nat.le_of_ble_eq_true rfl) ?_
  intro p e s m args below meth c ls X _ h hl
  have X : Cx YC S k p s m args meth c cX10_cartThereBy 3 (some .int) RX10 := X
  have hl : lv_has ls 3 [(0, .ref (k.1 + adC 0 0 0)), (1, .ref (k.1 + adC 22 i1 v1)), (2, .int a2)] := hl
  have JR : res = res := rfl
  unfold fX10_cartThereBy at hf
  refine lv_aload_n X.x X.b dX10_cartThereBy_0 rfl (lv_at hl 0 rfl) ?_
  refine lv_aload_n X.x X.b dX10_cartThereBy_1 rfl (lv_at hl 1 rfl) ?_
  refine gC_22_0 X h (hS 22) hi1 hv1 lk_X10_320 dX10_cartThereBy_2 ?_
  refine lv_iload_n X.x X.b dX10_cartThereBy_5 rfl (lv_at hl 2 rfl) ?_
  obtain ⟨y2, e1, hf⟩ := wBd_s hf
  refine ro_callvI (As := [.int (g0 22 i1 v1 0), .int a2]) (g1 := g0) (x := y2) X h (kX10_thereBy l hS e1) mv_X10_thereBy lk_X10_208 ⟨rfl, rfl⟩ ⟨(Nat.le_of_ble_eq_true rfl), (Nat.le_of_ble_eq_true rfl)⟩ (rC_0 X h (hS 0) Nat.one_pos Nat.one_pos) rfl hl rfl (Nat.le_of_ble_eq_true rfl) ⟨Nat.zero_le _, Nat.zero_le _⟩ dX10_cartThereBy_6 (fun H locs h => ?_)
  refine lv_aload_n X.x X.b dX10_cartThereBy_9 rfl (lv_at hl 0 rfl) ?_
  refine gC_0_0 X h (hS 0) Nat.one_pos Nat.one_pos lk_X10_25 dX10_cartThereBy_10 ?_
  refine gC_9_11 X h (hS 9) (Nat.le_of_ble_eq_true rfl) Nat.one_pos lk_X10_85 dX10_cartThereBy_13 ?_
  refine lv_aload_n X.x X.b dX10_cartThereBy_16 rfl (lv_at hl 1 rfl) ?_
  refine gC_22_0 X h (hS 22) hi1 hv1 lk_X10_320 dX10_cartThereBy_17 ?_
  obtain ⟨b3, hf⟩ := wGi_s hf
  refine qC_16 X h (hS 16) (Nat.le_of_ble_eq_true rfl) Nat.one_pos b3 dX10_cartThereBy_20 ?_
  refine gC_19_0 X h (hS 19) (Nat.le_of_ble_eq_true rfl) (vin_lt b3) lk_X10_211 dX10_cartThereBy_21 ?_
  obtain ⟨y5, e4, hf⟩ := wBd_s hf
  refine ro_callsI (As := [.int (g0 19 0 ((g0 22 i1 v1 0).toNatClampNeg) 0)]) (g1 := g0) (x := y5) X h (kX3_wayToUnload l hS e4) mv_X3_wayToUnload lk_X10_323 ⟨rfl, rfl⟩ ⟨(Nat.le_of_ble_eq_true rfl), (Nat.le_of_ble_eq_true rfl)⟩ rfl hl rfl (Nat.le_of_ble_eq_true rfl) ⟨Nat.zero_le _, Nat.zero_le _⟩ dX10_cartThereBy_24 (fun H locs h => ?_)
  refine lv_iadd X.x X.b dX10_cartThereBy_27 ?_
  refine lv_aload_n X.x X.b dX10_cartThereBy_28 rfl (lv_at hl 1 rfl) ?_
  refine gC_22_3 X h (hS 22) hi1 hv1 lk_X10_326 dX10_cartThereBy_29 ?_
  refine lv_iadd X.x X.b dX10_cartThereBy_32 ?_
  cases (Option.some.inj hf).trans JR
  exact ro_iret X h dX10_cartThereBy_33
set_option maxHeartbeats 4000000 in
set_option maxRecDepth 20000 in
theorem wX10_misses_b139 {k : En} {S : Nat → Prop} (hS : ∀ t, S t) {g0 : Mm} {a1 : Int32} {a2 : Int32} {res : Int32} (X : Cx YC S k p s m args meth c cX10_misses 9 (some .int) RX10) {x5 : Int32} {x6 : Int32} {x7 : Int32} {H : Heap} {locs : List Loc} {ls : Array Slot} (h : Hx YC S k s g0 H locs) (hl : lv_has ls 9 [(0, .ref (k.1 + adC 0 0 0)), (1, .int a1), (2, .int a2), (5, .int x5), (6, .int x6), (7, .int x7)]) {r : (Int32 × Int32) ⊕ (Int32)} (hf : fX10_misses_b139 g0 a1 a2 x5 x6 x7 = some r) (J1 : ∀ (x6 : Int32) (x7 : Int32), r = .inl (x6, x7) → ∀ (H : Heap) (locs : List Loc) (ls : Array Slot), Hx YC S k s g0 H locs → lv_has ls 9 [(0, .ref (k.1 + adC 0 0 0)), (1, .int a1), (2, .int a2), (5, .int x5), (6, .int x6), (7, .int x7)] → W p l e (RmN 3 69) s m args below meth c H locs 0 0 (Fin YC S k args s below (some (.int res)) g0) (F0 m 84 ls [])) (JR : ∀ t1, r = .inr t1 → t1 = res) :
    W p l e (RmN 3 69) s m args below meth c H locs 0 0 (Fin YC S k args s below (some (.int res)) g0) (F0 m 139 ls []) := by
  unfold fX10_misses_b139 at hf
  obtain ⟨y26, e27, hf⟩ := wLe_s hf
  refine lv_iinc (v := y26) (lv' := [(7, .int y26), (0, .ref (k.1 + adC 0 0 0)), (1, .int a1), (2, .int a2), (5, .int x5), (6, .int x6)]) X.x X.b dX10_misses_139 hl (k := 5) rfl (by rw [e27]; rfl) (by decide) rfl (fun ls hl => ?_)
  refine lv_goto (tgt := 84) X.x X.b dX10_misses_142 (by decide) ?_
  exact J1 _ _ (Option.some.inj hf).symm _ _ _ h (lv_sub hl [1, 2, 3, 4, 5, 0] rfl)
set_option maxHeartbeats 4000000 in
set_option maxRecDepth 20000 in
theorem wX10_misses_L84 {k : En} {S : Nat → Prop} (hS : ∀ t, S t) {g0 : Mm} {a1 : Int32} {a2 : Int32} {res : Int32} (X : Cx YC S k p s m args meth c cX10_misses 9 (some .int) RX10) {x5 : Int32} {r : Int32} (JR : r = res) :
    ∀ (fu : Nat) (x6 : Int32) (x7 : Int32) (H : Heap) (locs : List Loc) (ls : Array Slot), Hx YC S k s g0 H locs → lv_has ls 9 [(0, .ref (k.1 + adC 0 0 0)), (1, .int a1), (2, .int a2), (5, .int x5), (6, .int x6), (7, .int x7)] → wLp (fun q => fX10_misses_B84 g0 a1 a2 x5 q.1 q.2) fu (x6, x7) = some r → W p l e (RmN 3 69) s m args below meth c H locs 0 0 (Fin YC S k args s below (some (.int res)) g0) (F0 m 84 ls []) := by
  intro fu
  induction fu with
  | zero => intro x6 x7 H locs ls h hl hf; exact (wLp_0 hf).elim
  | succ fu ih1 =>
    intro x6 x7 H locs ls h hl hf
    obtain ⟨r1, hf, hr⟩ := wLp_s hf
    have J1n : ∀ (x6 : Int32) (x7 : Int32), r1 = .inl (x6, x7) → ∀ (H : Heap) (locs : List Loc) (ls : Array Slot), Hx YC S k s g0 H locs → lv_has ls 9 [(0, .ref (k.1 + adC 0 0 0)), (1, .int a1), (2, .int a2), (5, .int x5), (6, .int x6), (7, .int x7)] → W p l e (RmN 3 69) s m args below meth c H locs 0 0 (Fin YC S k args s below (some (.int res)) g0) (F0 m 84 ls []) := fun x6 x7 q H locs ls h hl => by subst q; exact ih1 _ _ _ _ _ h hl hr
    have JRn : ∀ t1, r1 = .inr t1 → t1 = res := fun t1 q => by subst q; obtain rfl := Option.some.inj hr; exact JR
    have J1 := J1n
    have JR := JRn
    clear J1n JRn
    have hf : fX10_misses_B84 g0 a1 a2 x5 x6 x7 = some r1 := hf
    unfold fX10_misses_B84 at hf
    refine lv_iload X.x X.b dX10_misses_84 (lv_at hl 5 rfl) ?_
    refine lv_aload_n X.x X.b dX10_misses_86 rfl (lv_at hl 0 rfl) ?_
    refine gC_0_0 X h (hS 0) Nat.one_pos Nat.one_pos lk_X10_25 dX10_misses_87 ?_
    refine gC_9_3 X h (hS 9) (Nat.le_of_ble_eq_true rfl) Nat.one_pos lk_X10_226 dX10_misses_90 ?_
    refine lv_icmp_ge (tgt := 145) X.x X.b dX10_misses_93 (by decide) (fun c21 => ?_) (fun c21 => ?_)
    · have hf := wT c21 hf
      obtain ⟨t22, hf, e23⟩ := wEx_s hf
      have JR := JR t22 e23
      refine lv_iload X.x X.b dX10_misses_145 (lv_at hl 4 rfl) ?_
      cases (Option.some.inj hf).trans JR
      exact ro_iret X h dX10_misses_147
    · have hf := wF c21 hf
      refine lv_aload_n X.x X.b dX10_misses_96 rfl (lv_at hl 0 rfl) ?_
      refine gC_0_0 X h (hS 0) Nat.one_pos Nat.one_pos lk_X10_25 dX10_misses_97 ?_
      refine gC_9_12 X h (hS 9) (Nat.le_of_ble_eq_true rfl) Nat.one_pos lk_X10_129 dX10_misses_100 ?_
      refine lv_iload X.x X.b dX10_misses_103 (lv_at hl 5 rfl) ?_
      obtain ⟨b24, hf⟩ := wGi_s hf
      refine qC_17 X h (hS 17) (Nat.le_of_ble_eq_true rfl) Nat.one_pos b24 dX10_misses_105 ?_
      refine lv_astore (lv' := [(8, .ref (k.1 + adC 22 0 ((x7).toNatClampNeg))), (0, .ref (k.1 + adC 0 0 0)), (1, .int a1), (2, .int a2), (5, .int x5), (6, .int x6), (7, .int x7)]) X.x X.b dX10_misses_106 hl (by decide) rfl (fun ls hl => ?_)
      refine lv_aload X.x X.b dX10_misses_108 (lv_at hl 0 rfl) ?_
      refine gC_22_1 X h (hS 22) (Nat.le_of_ble_eq_true rfl) (vin_lt b24) lk_X10_229 dX10_misses_110 ?_
      refine lv_iload_n X.x X.b dX10_misses_113 rfl (lv_at hl 2 rfl) ?_
      refine lv_icmp_ne (tgt := 139) X.x X.b dX10_misses_114 (by decide) (fun c25 => ?_) (fun c25 => ?_)
      · have hf := wF c25 hf
        exact wX10_misses_b139 hS X h (lv_sub hl [1, 2, 3, 4, 5, 6] rfl) hf J1 JR
      · have hf := wT c25 hf
        refine lv_aload_n X.x X.b dX10_misses_117 rfl (lv_at hl 1 rfl) ?_
        refine lv_aload X.x X.b dX10_misses_118 (lv_at hl 0 rfl) ?_
        refine lv_iload_n X.x X.b dX10_misses_120 rfl (lv_at hl 3 rfl) ?_
        obtain ⟨y29, e28, hf⟩ := wBd_s hf
        refine ro_callvI (As := [.ref (k.1 + adC 22 0 ((x7).toNatClampNeg)), .int a2]) (g1 := g0) (x := y29) X h (kX10_cartThereBy l hS (Nat.le_of_ble_eq_true rfl) (vin_lt b24) e28) mv_X10_cartThereBy lk_X10_232 ⟨rfl, rfl⟩ ⟨(Nat.le_of_ble_eq_true rfl), (Nat.le_of_ble_eq_true rfl)⟩ (rC_0 X h (hS 0) Nat.one_pos Nat.one_pos) rfl hl rfl (Nat.le_of_ble_eq_true rfl) ⟨Nat.zero_le _, Nat.zero_le _⟩ dX10_misses_121 (fun H locs h => ?_)
        refine lv_iload X.x X.b dX10_misses_124 (lv_at hl 4 rfl) ?_
        refine lv_icmp_le (tgt := 139) X.x X.b dX10_misses_126 (by decide) (fun c30 => ?_) (fun c30 => ?_)
        · have hf := wT c30 hf
          exact wX10_misses_b139 hS X h (lv_sub hl [1, 2, 3, 4, 5, 6] rfl) hf J1 JR
        · have hf := wF c30 hf
          refine lv_iload X.x X.b dX10_misses_129 (lv_at hl 5 rfl) ?_
          refine lv_aload X.x X.b dX10_misses_131 (lv_at hl 0 rfl) ?_
          refine gC_22_2 X h (hS 22) (Nat.le_of_ble_eq_true rfl) (vin_lt b24) lk_X10_236 dX10_misses_133 ?_
          refine lv_iadd X.x X.b dX10_misses_136 ?_
          obtain ⟨y31, e32, hf⟩ := wLe_s hf
          refine lv_nmi e32 ?_
          refine lv_istore (lv' := [(6, .int y31), (8, .ref (k.1 + adC 22 0 ((x7).toNatClampNeg))), (0, .ref (k.1 + adC 0 0 0)), (1, .int a1), (2, .int a2), (5, .int x5), (7, .int x7)]) X.x X.b dX10_misses_137 hl (by decide) rfl (fun ls hl => ?_)
          exact wX10_misses_b139 hS X h (lv_sub hl [2, 3, 4, 5, 0, 6] rfl) hf J1 JR
set_option maxHeartbeats 4000000 in
set_option maxRecDepth 20000 in
theorem kX10_misses (l : Launch) {k : En} {S : Nat → Prop} (hS : ∀ t, S t) {g0 : Mm} {a1 : Int32} {a2 : Int32} {res : Int32} (hf : fX10_misses g0 a1 a2 = some res) : Mt l yX10_misses cX10_misses 9 (some .int) (RmN 3 69) YC S k [.ref (k.1 + adC 0 0 0), .int a1, .int a2] g0 (some (.int res)) g0 := by
  refine Mt.of (by decide) (Nat.le_of_ble_eq_true rfl) ?_
  intro p e s m args below meth c ls X _ h hl
  have X : Cx YC S k p s m args meth c cX10_misses 9 (some .int) RX10 := X
  have hl : lv_has ls 9 [(0, .ref (k.1 + adC 0 0 0)), (1, .int a1), (2, .int a2)] := hl
  have JR : res = res := rfl
  unfold fX10_misses at hf
  refine lv_aload_n X.x X.b dX10_misses_0 rfl (lv_at hl 0 rfl) ?_
  refine gC_0_0 X h (hS 0) Nat.one_pos Nat.one_pos lk_X10_25 dX10_misses_1 ?_
  refine lv_iload_n X.x X.b dX10_misses_4 rfl (lv_at hl 1 rfl) ?_
  obtain ⟨y2, e1, hf⟩ := wBd_s hf
  refine ro_callvI (As := [.int a1]) (g1 := g0) (x := y2) X h (kX4_hasVisit l hS (Nat.le_of_ble_eq_true rfl) e1) mv_X4_hasVisit lk_X10_82 ⟨rfl, rfl⟩ ⟨(Nat.le_of_ble_eq_true rfl), (Nat.le_of_ble_eq_true rfl)⟩ (rC_9 X h (hS 9) (Nat.le_of_ble_eq_true rfl) Nat.one_pos) rfl hl rfl (Nat.le_of_ble_eq_true rfl) ⟨Nat.zero_le _, Nat.zero_le _⟩ dX10_misses_5 (fun H locs h => ?_)
  refine lv_if_ne (tgt := 13) X.x X.b dX10_misses_8 (by decide) (fun c3 => ?_) (fun c3 => ?_)
  · have hf := wF c3 hf
    refine lv_iload_n X.x X.b dX10_misses_13 rfl (lv_at hl 2 rfl) ?_
    refine lv_if_lt (tgt := 28) X.x X.b dX10_misses_14 (by decide) (fun c4 => ?_) (fun c4 => ?_)
    · have hf := wT c4 hf
      refine lv_bipush (v := (-2)) X.x X.b dX10_misses_28 (by decide) ?_
      cases (Option.some.inj hf).trans JR
      exact ro_iret X h dX10_misses_30
    · have hf := wF c4 hf
      refine lv_iload_n X.x X.b dX10_misses_17 rfl (lv_at hl 2 rfl) ?_
      refine lv_aload_n X.x X.b dX10_misses_18 rfl (lv_at hl 0 rfl) ?_
      refine gC_0_0 X h (hS 0) Nat.one_pos Nat.one_pos lk_X10_25 dX10_misses_19 ?_
      refine gC_9_0 X h (hS 9) (Nat.le_of_ble_eq_true rfl) Nat.one_pos lk_X10_74 dX10_misses_22 ?_
      refine lv_icmp_le (tgt := 31) X.x X.b dX10_misses_25 (by decide) (fun c5 => ?_) (fun c5 => ?_)
      · have hf := wT c5 hf
        refine lv_aload_n X.x X.b dX10_misses_31 rfl (lv_at hl 0 rfl) ?_
        refine gC_0_0 X h (hS 0) Nat.one_pos Nat.one_pos lk_X10_25 dX10_misses_32 ?_
        refine gC_9_11 X h (hS 9) (Nat.le_of_ble_eq_true rfl) Nat.one_pos lk_X10_85 dX10_misses_35 ?_
        refine lv_iload_n X.x X.b dX10_misses_38 rfl (lv_at hl 1 rfl) ?_
        obtain ⟨b6, hf⟩ := wGi_s hf
        refine qC_16 X h (hS 16) (Nat.le_of_ble_eq_true rfl) Nat.one_pos b6 dX10_misses_39 ?_
        refine lv_astore_n (lv' := [(3, .ref (k.1 + adC 19 0 ((a1).toNatClampNeg))), (0, .ref (k.1 + adC 0 0 0)), (1, .int a1), (2, .int a2)]) X.x X.b dX10_misses_40 rfl hl (by decide) rfl (fun ls hl => ?_)
        refine lv_aload_n X.x X.b dX10_misses_41 rfl (lv_at hl 1 rfl) ?_
        refine lv_iload_n X.x X.b dX10_misses_42 rfl (lv_at hl 2 rfl) ?_
        refine lv_iload_n X.x X.b dX10_misses_43 rfl (lv_at hl 3 rfl) ?_
        obtain ⟨y8, e7, hf⟩ := wBd_s hf
        refine ro_callvI (As := [.int a1, .int a2]) (g1 := g0) (x := y8) X h (kX10_thereBy l hS e7) mv_X10_thereBy lk_X10_208 ⟨rfl, rfl⟩ ⟨(Nat.le_of_ble_eq_true rfl), (Nat.le_of_ble_eq_true rfl)⟩ (rC_0 X h (hS 0) Nat.one_pos Nat.one_pos) rfl hl rfl (Nat.le_of_ble_eq_true rfl) ⟨Nat.zero_le _, Nat.zero_le _⟩ dX10_misses_44 (fun H locs h => ?_)
        refine lv_aload_n X.x X.b dX10_misses_47 rfl (lv_at hl 0 rfl) ?_
        refine gC_19_0 X h (hS 19) (Nat.le_of_ble_eq_true rfl) (vin_lt b6) lk_X10_211 dX10_misses_48 ?_
        obtain ⟨y10, e9, hf⟩ := wBd_s hf
        refine ro_callsI (As := [.int (g0 19 0 ((a1).toNatClampNeg) 0)]) (g1 := g0) (x := y10) X h (kX3_wayToLoad l hS e9) mv_X3_wayToLoad lk_X10_223 ⟨rfl, rfl⟩ ⟨(Nat.le_of_ble_eq_true rfl), (Nat.le_of_ble_eq_true rfl)⟩ rfl hl rfl (Nat.le_of_ble_eq_true rfl) ⟨Nat.zero_le _, Nat.zero_le _⟩ dX10_misses_51 (fun H locs h => ?_)
        refine lv_iadd X.x X.b dX10_misses_54 ?_
        obtain ⟨y11, e12, hf⟩ := wLe_s hf
        refine lv_nmi e12 ?_
        refine lv_istore (lv' := [(4, .int y11), (3, .ref (k.1 + adC 19 0 ((a1).toNatClampNeg))), (0, .ref (k.1 + adC 0 0 0)), (1, .int a1), (2, .int a2)]) X.x X.b dX10_misses_55 hl (by decide) rfl (fun ls hl => ?_)
        refine lv_aload_n X.x X.b dX10_misses_57 rfl (lv_at hl 1 rfl) ?_
        refine gC_19_2 X h (hS 19) (Nat.le_of_ble_eq_true rfl) (vin_lt b6) lk_X10_205 dX10_misses_58 ?_
        refine lv_aload_n X.x X.b dX10_misses_61 rfl (lv_at hl 1 rfl) ?_
        refine gC_19_0 X h (hS 19) (Nat.le_of_ble_eq_true rfl) (vin_lt b6) lk_X10_211 dX10_misses_62 ?_
        refine lv_bipush (v := 7) X.x X.b dX10_misses_65 (by decide) ?_
        obtain ⟨y14, e13, hf⟩ := wBd_s hf
        refine ro_callsI (As := [.int (g0 19 0 ((a1).toNatClampNeg) 0), .int (7 : Int32)]) (g1 := g0) (x := y14) X h (kX3_lasts l hS e13) mv_X3_lasts lk_X10_148 ⟨rfl, rfl⟩ ⟨(Nat.le_of_ble_eq_true rfl), (Nat.le_of_ble_eq_true rfl)⟩ rfl hl rfl (Nat.le_of_ble_eq_true rfl) ⟨Nat.zero_le _, Nat.zero_le _⟩ dX10_misses_67 (fun H locs h => ?_)
        refine lv_isub X.x X.b dX10_misses_70 ?_
        refine lv_iload X.x X.b dX10_misses_71 (lv_at hl 0 rfl) ?_
        refine ro_max X hl lk_X10_218 mx_f (Nat.le_of_ble_eq_true rfl) (Nat.le_of_ble_eq_true rfl) ⟨Nat.zero_le _, Nat.zero_le _⟩ dX10_misses_73 ?_
        obtain ⟨y15, e16, hf⟩ := wLe_s hf
        refine lv_nmi e16 ?_
        refine lv_istore (lv' := [(5, .int y15), (4, .int y11), (3, .ref (k.1 + adC 19 0 ((a1).toNatClampNeg))), (0, .ref (k.1 + adC 0 0 0)), (1, .int a1), (2, .int a2)]) X.x X.b dX10_misses_76 hl (by decide) rfl (fun ls hl => ?_)
        refine lv_iconst (v := 0) X.x X.b dX10_misses_78 (by decide) ?_
        obtain ⟨y17, e18, hf⟩ := wLe_s hf
        refine lv_nmi e18 ?_
        refine lv_istore (lv' := [(6, .int y17), (5, .int y15), (4, .int y11), (3, .ref (k.1 + adC 19 0 ((a1).toNatClampNeg))), (0, .ref (k.1 + adC 0 0 0)), (1, .int a1), (2, .int a2)]) X.x X.b dX10_misses_79 hl (by decide) rfl (fun ls hl => ?_)
        refine lv_iconst (v := 0) X.x X.b dX10_misses_81 (by decide) ?_
        obtain ⟨y19, e20, hf⟩ := wLe_s hf
        refine lv_nmi e20 ?_
        refine lv_istore (lv' := [(7, .int y19), (6, .int y17), (5, .int y15), (4, .int y11), (3, .ref (k.1 + adC 19 0 ((a1).toNatClampNeg))), (0, .ref (k.1 + adC 0 0 0)), (1, .int a1), (2, .int a2)]) X.x X.b dX10_misses_82 hl (by decide) rfl (fun ls hl => ?_)
        exact wX10_misses_L84 hS X JR _ _ _ _ _ _ h (lv_sub hl [5, 6, 7, 2, 1, 0] rfl) hf
      · have hf := wF c5 hf
        refine lv_bipush (v := (-2)) X.x X.b dX10_misses_28 (by decide) ?_
        cases (Option.some.inj hf).trans JR
        exact ro_iret X h dX10_misses_30
  · have hf := wT c3 hf
    refine lv_iconst (v := (-1)) X.x X.b dX10_misses_11 (by decide) ?_
    cases (Option.some.inj hf).trans JR
    exact ro_iret X h dX10_misses_12
set_option maxHeartbeats 4000000 in
set_option maxRecDepth 20000 in
theorem kX10_feedTape (l : Launch) {k : En} {S : Nat → Prop} (hS : ∀ t, S t) {a1 : Int64} {a3 : Int32} {res : Mm × Int32} {g : Mm} (hf : fX10_feedTape g a1 a3 = some res) : Mt l yX10_feedTape cX10_feedTape 4 (some .int) (RmN 1 24) YC S k [.ref (k.1 + adC 0 0 0), .long a1, .int a3] g (some (.int res.2)) res.1 := by
  refine Mt.of (by decide) (Nat.le_of_ble_eq_true rfl) ?_
  intro p e s m args below meth c ls X _ h hl
  have X : Cx YC S k p s m args meth c cX10_feedTape 4 (some .int) RX10 := X
  have hl : lv_has ls 4 [(0, .ref (k.1 + adC 0 0 0)), (1, .long a1), (3, .int a3)] := hl
  have JR : res = res := rfl
  unfold fX10_feedTape at hf
  refine lv_iload_n X.x X.b dX10_feedTape_0 rfl (lv_at hl 2 rfl) ?_
  refine lv_iconst (v := 1) X.x X.b dX10_feedTape_1 (by decide) ?_
  refine lv_icmp_lt (tgt := 11) X.x X.b dX10_feedTape_2 (by decide) (fun c1 => ?_) (fun c1 => ?_)
  · have hf := wT c1 hf
    refine lv_bipush (v := (-2)) X.x X.b dX10_feedTape_11 (by decide) ?_
    cases (Option.some.inj hf).trans JR
    exact ro_iret X h dX10_feedTape_13
  · have hf := wF c1 hf
    refine lv_iload_n X.x X.b dX10_feedTape_5 rfl (lv_at hl 2 rfl) ?_
    refine lv_bipush (v := 8) X.x X.b dX10_feedTape_6 (by decide) ?_
    refine lv_icmp_le (tgt := 14) X.x X.b dX10_feedTape_8 (by decide) (fun c2 => ?_) (fun c2 => ?_)
    · have hf := wT c2 hf
      refine lv_aload_n X.x X.b dX10_feedTape_14 rfl (lv_at hl 0 rfl) ?_
      refine gC_0_2 X h (hS 0) Nat.one_pos Nat.one_pos lk_X10_10 dX10_feedTape_15 ?_
      refine lv_lload_n X.x X.b dX10_feedTape_18 rfl (lv_at hl 1 rfl) ?_
      refine lv_iload_n X.x X.b dX10_feedTape_19 rfl (lv_at hl 2 rfl) ?_
      obtain ⟨g5, y4, e3, hf⟩ := wB2_s hf
      refine ro_callvI (As := [.long a1, .int a3]) (g1 := g5) (x := y4) X h (kX8_append l (fun t _ _ => hS t) e3) mv_X8_append lk_X10_239 ⟨rfl, rfl⟩ ⟨(Nat.le_of_ble_eq_true rfl), (Nat.le_of_ble_eq_true rfl)⟩ (rC_1 X h (hS 1) Nat.one_pos Nat.one_pos) rfl hl rfl (Nat.le_of_ble_eq_true rfl) ⟨Nat.zero_le _, Nat.zero_le _⟩ dX10_feedTape_20 (fun H locs h => ?_)
      cases (Option.some.inj hf).trans JR
      exact ro_iret X h dX10_feedTape_23
    · have hf := wF c2 hf
      refine lv_bipush (v := (-2)) X.x X.b dX10_feedTape_11 (by decide) ?_
      cases (Option.some.inj hf).trans JR
      exact ro_iret X h dX10_feedTape_13
set_option maxHeartbeats 4000000 in
set_option maxRecDepth 20000 in
theorem kX10_text (l : Launch) {k : En} {S : Nat → Prop} (hS : ∀ t, S t) {res : Mm × Int32} {g : Mm} (hf : fX10_text g = some res) : Mt l yX10_text cX10_text 1 (some .int) (RmN 118 4426) YC S k [.ref (k.1 + adC 0 0 0)] g (some (.int res.2)) res.1 := by
  refine Mt.of (by decide) (Nat.le_of_ble_eq_true rfl) ?_
  intro p e s m args below meth c ls X _ h hl
  have X : Cx YC S k p s m args meth c cX10_text 1 (some .int) RX10 := X
  have hl : lv_has ls 1 [(0, .ref (k.1 + adC 0 0 0))] := hl
  have JR : res = res := rfl
  unfold fX10_text at hf
  refine lv_aload_n X.x X.b dX10_text_0 rfl (lv_at hl 0 rfl) ?_
  refine gC_0_2 X h (hS 0) Nat.one_pos Nat.one_pos lk_X10_10 dX10_text_1 ?_
  obtain ⟨g3, y2, e1, hf⟩ := wB2_s hf
  refine ro_callvI (As := []) (g1 := g3) (x := y2) X h (kX8_take l (fun t _ _ => hS t) e1) mv_X8_take lk_X10_243 ⟨rfl, rfl⟩ ⟨(Nat.le_of_ble_eq_true rfl), (Nat.le_of_ble_eq_true rfl)⟩ (rC_1 X h (hS 1) Nat.one_pos Nat.one_pos) rfl hl rfl (Nat.le_of_ble_eq_true rfl) ⟨Nat.zero_le _, Nat.zero_le _⟩ dX10_text_4 (fun H locs h => ?_)
  cases (Option.some.inj hf).trans JR
  exact ro_iret X h dX10_text_7
set_option maxHeartbeats 4000000 in
set_option maxRecDepth 20000 in
theorem kX10_force (l : Launch) {k : En} {S : Nat → Prop} (hS : ∀ t, S t) {a1 : Int32} {res : Mm × Int32} {g : Mm} (hf : fX10_force g a1 = some res) : Mt l yX10_force cX10_force 3 (some .int) (RmN 1 20) YC S k [.ref (k.1 + adC 0 0 0), .int a1] g (some (.int res.2)) res.1 := by
  refine Mt.of (by decide) (Nat.le_of_ble_eq_true rfl) ?_
  intro p e s m args below meth c ls X _ h hl
  have X : Cx YC S k p s m args meth c cX10_force 3 (some .int) RX10 := X
  have hl : lv_has ls 3 [(0, .ref (k.1 + adC 0 0 0)), (1, .int a1)] := hl
  have JR : res = res := rfl
  unfold fX10_force at hf
  refine lv_iload_n X.x X.b dX10_force_0 rfl (lv_at hl 1 rfl) ?_
  refine lv_if_lt (tgt := 15) X.x X.b dX10_force_1 (by decide) (fun c1 => ?_) (fun c1 => ?_)
  · have hf := wT c1 hf
    refine lv_bipush (v := (-2)) X.x X.b dX10_force_15 (by decide) ?_
    cases (Option.some.inj hf).trans JR
    exact ro_iret X h dX10_force_17
  · have hf := wF c1 hf
    refine lv_iload_n X.x X.b dX10_force_4 rfl (lv_at hl 1 rfl) ?_
    refine lv_aload_n X.x X.b dX10_force_5 rfl (lv_at hl 0 rfl) ?_
    refine gC_0_2 X h (hS 0) Nat.one_pos Nat.one_pos lk_X10_10 dX10_force_6 ?_
    refine gC_1_1 X h (hS 1) Nat.one_pos Nat.one_pos lk_X10_247 dX10_force_9 ?_
    refine lv_icmp_lt (tgt := 18) X.x X.b dX10_force_12 (by decide) (fun c2 => ?_) (fun c2 => ?_)
    · have hf := wT c2 hf
      refine lv_aload_n X.x X.b dX10_force_18 rfl (lv_at hl 0 rfl) ?_
      refine gC_0_2 X h (hS 0) Nat.one_pos Nat.one_pos lk_X10_10 dX10_force_19 ?_
      refine gC_1_2 X h (hS 1) Nat.one_pos Nat.one_pos lk_X10_249 dX10_force_22 ?_
      obtain ⟨y3, e4, hf⟩ := wLe_s hf
      refine lv_nmi e4 ?_
      refine lv_istore_n (lv' := [(2, .int y3), (0, .ref (k.1 + adC 0 0 0)), (1, .int a1)]) X.x X.b dX10_force_25 rfl hl (by decide) rfl (fun ls hl => ?_)
      refine lv_aload_n X.x X.b dX10_force_26 rfl (lv_at hl 1 rfl) ?_
      refine gC_0_2 X h (hS 0) Nat.one_pos Nat.one_pos lk_X10_10 dX10_force_27 ?_
      refine lv_iload_n X.x X.b dX10_force_30 rfl (lv_at hl 2 rfl) ?_
      obtain ⟨g5, e6, hf⟩ := wLe_s hf
      refine pC_1_2 X h (hS 1) Nat.one_pos Nat.one_pos lk_X10_249 e6 dX10_force_31 (fun H locs h => ?_)
      refine lv_aload_n X.x X.b dX10_force_34 rfl (lv_at hl 1 rfl) ?_
      refine gC_0_0 X h (hS 0) Nat.one_pos Nat.one_pos lk_X10_25 dX10_force_35 ?_
      refine lv_aload_n X.x X.b dX10_force_38 rfl (lv_at hl 1 rfl) ?_
      refine gC_0_2 X h (hS 0) Nat.one_pos Nat.one_pos lk_X10_10 dX10_force_39 ?_
      obtain ⟨y8, e7, hf⟩ := wBd_s hf
      refine ro_callvA (As := []) (g1 := g5) (x := k.1 + adC 5 y8 0) X h (kX8_rule l (fun t _ _ => hS t) e7) mv_X8_rule lk_X10_18 ⟨rfl, rfl⟩ ⟨(Nat.le_of_ble_eq_true rfl), (Nat.le_of_ble_eq_true rfl)⟩ (rC_1 X h (hS 1) Nat.one_pos Nat.one_pos) rfl hl rfl (Nat.le_of_ble_eq_true rfl) ⟨Nat.zero_le _, Nat.zero_le _⟩ dX10_force_42 (fun H locs h => ?_)
      obtain ⟨hb9, hf⟩ := wGd_s hf
      obtain ⟨g10, e11, hf⟩ := wLe_s hf
      refine pC_9_4 X h (hS 9) (Nat.le_of_ble_eq_true rfl) Nat.one_pos lk_X10_252 hb9 e11 dX10_force_45 (fun H locs h => ?_)
      refine lv_iload_n X.x X.b dX10_force_48 rfl (lv_at hl 0 rfl) ?_
      cases (Option.some.inj hf).trans JR
      exact ro_iret X h dX10_force_49
    · have hf := wF c2 hf
      refine lv_bipush (v := (-2)) X.x X.b dX10_force_15 (by decide) ?_
      cases (Option.some.inj hf).trans JR
      exact ro_iret X h dX10_force_17
set_option maxHeartbeats 4000000 in
set_option maxRecDepth 20000 in
theorem kX10_tells (l : Launch) {k : En} {S : Nat → Prop} (hS : ∀ t, S t) {a1 : Int32} {a2 : Int32} {res : Mm × Int64} {g : Mm} (hf : fX10_tells g a1 a2 = some res) : Mt l yX10_tells cX10_tells 3 (some .long) (RmN 2 48) YC S k [.ref (k.1 + adC 0 0 0), .int a1, .int a2] g (some (.long res.2)) res.1 := by
  refine Mt.of (by decide) (Nat.le_of_ble_eq_true rfl) ?_
  intro p e s m args below meth c ls X _ h hl
  have X : Cx YC S k p s m args meth c cX10_tells 3 (some .long) RX10 := X
  have hl : lv_has ls 3 [(0, .ref (k.1 + adC 0 0 0)), (1, .int a1), (2, .int a2)] := hl
  have JR : res = res := rfl
  unfold fX10_tells at hf
  refine lv_aload_n X.x X.b dX10_tells_0 rfl (lv_at hl 0 rfl) ?_
  refine gC_0_0 X h (hS 0) Nat.one_pos Nat.one_pos lk_X10_25 dX10_tells_1 ?_
  refine lv_iload_n X.x X.b dX10_tells_4 rfl (lv_at hl 1 rfl) ?_
  obtain ⟨y2, e1, hf⟩ := wBd_s hf
  refine ro_callvI (As := [.int a1]) (g1 := g) (x := y2) X h (kX4_hasVisit l hS (Nat.le_of_ble_eq_true rfl) e1) mv_X4_hasVisit lk_X10_82 ⟨rfl, rfl⟩ ⟨(Nat.le_of_ble_eq_true rfl), (Nat.le_of_ble_eq_true rfl)⟩ (rC_9 X h (hS 9) (Nat.le_of_ble_eq_true rfl) Nat.one_pos) rfl hl rfl (Nat.le_of_ble_eq_true rfl) ⟨Nat.zero_le _, Nat.zero_le _⟩ dX10_tells_5 (fun H locs h => ?_)
  refine lv_if_eq (tgt := 20) X.x X.b dX10_tells_8 (by decide) (fun c3 => ?_) (fun c3 => ?_)
  · have hf := wT c3 hf
    refine ro_ldc2 X lc_X10_257 dX10_tells_20 ?_
    cases (Option.some.inj hf).trans JR
    exact ro_lret X h dX10_tells_23
  · have hf := wF c3 hf
    refine lv_iload_n X.x X.b dX10_tells_11 rfl (lv_at hl 2 rfl) ?_
    refine lv_if_lt (tgt := 20) X.x X.b dX10_tells_12 (by decide) (fun c4 => ?_) (fun c4 => ?_)
    · have hf := wT c4 hf
      refine ro_ldc2 X lc_X10_257 dX10_tells_20 ?_
      cases (Option.some.inj hf).trans JR
      exact ro_lret X h dX10_tells_23
    · have hf := wF c4 hf
      refine lv_iload_n X.x X.b dX10_tells_15 rfl (lv_at hl 2 rfl) ?_
      refine lv_iconst (v := 3) X.x X.b dX10_tells_16 (by decide) ?_
      refine lv_icmp_lt (tgt := 24) X.x X.b dX10_tells_17 (by decide) (fun c5 => ?_) (fun c5 => ?_)
      · have hf := wT c5 hf
        refine lv_aload_n X.x X.b dX10_tells_24 rfl (lv_at hl 0 rfl) ?_
        refine gC_0_0 X h (hS 0) Nat.one_pos Nat.one_pos lk_X10_25 dX10_tells_25 ?_
        refine lv_iload_n X.x X.b dX10_tells_28 rfl (lv_at hl 1 rfl) ?_
        refine lv_iconst (v := (-1)) X.x X.b dX10_tells_29 (by decide) ?_
        obtain ⟨g8, e6, hf⟩ := wBd_s hf
        refine ro_callvV (As := [.int a1, .int (-1 : Int32)]) (g1 := g8) X h (kX4_learn l hS (Nat.le_of_ble_eq_true rfl) e6) mv_X4_learn lk_X10_259 ⟨rfl, rfl⟩ ⟨(Nat.le_of_ble_eq_true rfl), (Nat.le_of_ble_eq_true rfl)⟩ (rC_9 X h (hS 9) (Nat.le_of_ble_eq_true rfl) Nat.one_pos) rfl hl rfl (Nat.le_of_ble_eq_true rfl) ⟨Nat.zero_le _, Nat.zero_le _⟩ dX10_tells_30 (fun H locs h => ?_)
        refine lv_aload_n X.x X.b dX10_tells_33 rfl (lv_at hl 0 rfl) ?_
        refine gC_0_0 X h (hS 0) Nat.one_pos Nat.one_pos lk_X10_25 dX10_tells_34 ?_
        obtain ⟨n9, hb11, e10, hf⟩ := wGr_s hf
        refine gC_9_4 X h (hS 9) (Nat.le_of_ble_eq_true rfl) Nat.one_pos lk_X10_252 e10 dX10_tells_37 ?_
        refine lv_iload_n X.x X.b dX10_tells_40 rfl (lv_at hl 2 rfl) ?_
        refine lv_aload_n X.x X.b dX10_tells_41 rfl (lv_at hl 0 rfl) ?_
        refine gC_0_0 X h (hS 0) Nat.one_pos Nat.one_pos lk_X10_25 dX10_tells_42 ?_
        refine gC_9_13 X h (hS 9) (Nat.le_of_ble_eq_true rfl) Nat.one_pos lk_X10_263 dX10_tells_45 ?_
        obtain ⟨g14, y13, e12, hf⟩ := wB2_s hf
        refine ro_callvI (As := [.int a2, .ref (k.1 + adC 18 0 0)]) (g1 := g14) (x := y13) X h (kX6_says l hS hb11 (Nat.le_of_ble_eq_true rfl) e12) mv_X6_says lk_X10_266 ⟨rfl, rfl⟩ ⟨(Nat.le_of_ble_eq_true rfl), (Nat.le_of_ble_eq_true rfl)⟩ (rC_5 X h (hS 5) hb11 Nat.one_pos) rfl hl rfl (Nat.le_of_ble_eq_true rfl) ⟨Nat.zero_le _, Nat.zero_le _⟩ dX10_tells_48 (fun H locs h => ?_)
        refine lv_i2l X.x X.b dX10_tells_51 rfl ?_
        cases (Option.some.inj hf).trans JR
        exact ro_lret X h dX10_tells_52
      · have hf := wF c5 hf
        refine ro_ldc2 X lc_X10_257 dX10_tells_20 ?_
        cases (Option.some.inj hf).trans JR
        exact ro_lret X h dX10_tells_23
set_option maxHeartbeats 4000000 in
set_option maxRecDepth 20000 in
theorem kX10_count (l : Launch) {k : En} {S : Nat → Prop} (hS : ∀ t, S t) {g0 : Mm} {a1 : Int32} {res : Int32} (hf : fX10_count g0 a1 = some res) : Mt l yX10_count cX10_count 2 (some .int) (RmN 2 44) YC S k [.ref (k.1 + adC 0 0 0), .int a1] g0 (some (.int res)) g0 := by
  refine Mt.of (by decide) (Nat.le_of_ble_eq_true rfl) ?_
  intro p e s m args below meth c ls X _ h hl
  have X : Cx YC S k p s m args meth c cX10_count 2 (some .int) RX10 := X
  have hl : lv_has ls 2 [(0, .ref (k.1 + adC 0 0 0)), (1, .int a1)] := hl
  have JR : res = res := rfl
  unfold fX10_count at hf
  refine lv_iload_n X.x X.b dX10_count_0 rfl (lv_at hl 1 rfl) ?_
  by_cases c1 : a1 = (0 : Int32)
  · have hf := wT c1 hf
    refine lv_tableIn (off := 71) (tgt := 72) X.x X.b dX10_count_1 (by rw [c1]; decide) (by rw [c1]; decide) (by rw [c1]; rfl) (by decide) ?_
    refine lv_aload_n X.x X.b dX10_count_72 rfl (lv_at hl 0 rfl) ?_
    refine gC_0_0 X h (hS 0) Nat.one_pos Nat.one_pos lk_X10_25 dX10_count_73 ?_
    refine gC_9_0 X h (hS 9) (Nat.le_of_ble_eq_true rfl) Nat.one_pos lk_X10_74 dX10_count_76 ?_
    cases (Option.some.inj hf).trans JR
    exact ro_iret X h dX10_count_79
  · have hf := wF c1 hf
    by_cases c2 : a1 = (1 : Int32)
    · have hf := wT c2 hf
      refine lv_tableIn (off := 79) (tgt := 80) X.x X.b dX10_count_1 (by rw [c2]; decide) (by rw [c2]; decide) (by rw [c2]; rfl) (by decide) ?_
      refine lv_aload_n X.x X.b dX10_count_80 rfl (lv_at hl 0 rfl) ?_
      refine gC_0_0 X h (hS 0) Nat.one_pos Nat.one_pos lk_X10_25 dX10_count_81 ?_
      refine gC_9_2 X h (hS 9) (Nat.le_of_ble_eq_true rfl) Nat.one_pos lk_X10_193 dX10_count_84 ?_
      cases (Option.some.inj hf).trans JR
      exact ro_iret X h dX10_count_87
    · have hf := wF c2 hf
      by_cases c3 : a1 = (2 : Int32)
      · have hf := wT c3 hf
        refine lv_tableIn (off := 87) (tgt := 88) X.x X.b dX10_count_1 (by rw [c3]; decide) (by rw [c3]; decide) (by rw [c3]; rfl) (by decide) ?_
        refine lv_aload_n X.x X.b dX10_count_88 rfl (lv_at hl 0 rfl) ?_
        refine gC_0_0 X h (hS 0) Nat.one_pos Nat.one_pos lk_X10_25 dX10_count_89 ?_
        refine gC_9_1 X h (hS 9) (Nat.le_of_ble_eq_true rfl) Nat.one_pos lk_X10_170 dX10_count_92 ?_
        cases (Option.some.inj hf).trans JR
        exact ro_iret X h dX10_count_95
      · have hf := wF c3 hf
        by_cases c4 : a1 = (3 : Int32)
        · have hf := wT c4 hf
          refine lv_tableIn (off := 95) (tgt := 96) X.x X.b dX10_count_1 (by rw [c4]; decide) (by rw [c4]; decide) (by rw [c4]; rfl) (by decide) ?_
          refine lv_aload_n X.x X.b dX10_count_96 rfl (lv_at hl 0 rfl) ?_
          refine gC_0_0 X h (hS 0) Nat.one_pos Nat.one_pos lk_X10_25 dX10_count_97 ?_
          refine gC_9_3 X h (hS 9) (Nat.le_of_ble_eq_true rfl) Nat.one_pos lk_X10_226 dX10_count_100 ?_
          cases (Option.some.inj hf).trans JR
          exact ro_iret X h dX10_count_103
        · have hf := wF c4 hf
          by_cases c5 : a1 = (4 : Int32)
          · have hf := wT c5 hf
            refine lv_tableIn (off := 103) (tgt := 104) X.x X.b dX10_count_1 (by rw [c5]; decide) (by rw [c5]; decide) (by rw [c5]; rfl) (by decide) ?_
            refine lv_aload_n X.x X.b dX10_count_104 rfl (lv_at hl 0 rfl) ?_
            refine gC_0_2 X h (hS 0) Nat.one_pos Nat.one_pos lk_X10_10 dX10_count_105 ?_
            refine gC_1_1 X h (hS 1) Nat.one_pos Nat.one_pos lk_X10_247 dX10_count_108 ?_
            cases (Option.some.inj hf).trans JR
            exact ro_iret X h dX10_count_111
          · have hf := wF c5 hf
            by_cases c6 : a1 = (5 : Int32)
            · have hf := wT c6 hf
              refine lv_tableIn (off := 111) (tgt := 112) X.x X.b dX10_count_1 (by rw [c6]; decide) (by rw [c6]; decide) (by rw [c6]; rfl) (by decide) ?_
              refine lv_aload_n X.x X.b dX10_count_112 rfl (lv_at hl 0 rfl) ?_
              refine gC_0_2 X h (hS 0) Nat.one_pos Nat.one_pos lk_X10_10 dX10_count_113 ?_
              refine gC_1_2 X h (hS 1) Nat.one_pos Nat.one_pos lk_X10_249 dX10_count_116 ?_
              cases (Option.some.inj hf).trans JR
              exact ro_iret X h dX10_count_119
            · have hf := wF c6 hf
              by_cases c7 : a1 = (6 : Int32)
              · have hf := wT c7 hf
                refine lv_tableIn (off := 119) (tgt := 120) X.x X.b dX10_count_1 (by rw [c7]; decide) (by rw [c7]; decide) (by rw [c7]; rfl) (by decide) ?_
                refine lv_aload_n X.x X.b dX10_count_120 rfl (lv_at hl 0 rfl) ?_
                refine gC_0_2 X h (hS 0) Nat.one_pos Nat.one_pos lk_X10_10 dX10_count_121 ?_
                refine gC_1_0 X h (hS 1) Nat.one_pos Nat.one_pos lk_X10_270 dX10_count_124 ?_
                cases (Option.some.inj hf).trans JR
                exact ro_iret X h dX10_count_127
              · have hf := wF c7 hf
                by_cases c8 : a1 = (7 : Int32)
                · have hf := wT c8 hf
                  refine lv_tableIn (off := 127) (tgt := 128) X.x X.b dX10_count_1 (by rw [c8]; decide) (by rw [c8]; decide) (by rw [c8]; rfl) (by decide) ?_
                  refine lv_aload_n X.x X.b dX10_count_128 rfl (lv_at hl 0 rfl) ?_
                  refine gC_0_4 X h (hS 0) Nat.one_pos Nat.one_pos lk_X10_42 dX10_count_129 ?_
                  refine gC_24_0 X h (hS 24) Nat.one_pos Nat.one_pos lk_X10_273 dX10_count_132 ?_
                  cases (Option.some.inj hf).trans JR
                  exact ro_iret X h dX10_count_135
                · have hf := wF c8 hf
                  by_cases c9 : a1 = (8 : Int32)
                  · have hf := wT c9 hf
                    refine lv_tableIn (off := 135) (tgt := 136) X.x X.b dX10_count_1 (by rw [c9]; decide) (by rw [c9]; decide) (by rw [c9]; rfl) (by decide) ?_
                    refine lv_aload_n X.x X.b dX10_count_136 rfl (lv_at hl 0 rfl) ?_
                    refine gC_0_0 X h (hS 0) Nat.one_pos Nat.one_pos lk_X10_25 dX10_count_137 ?_
                    obtain ⟨y11, e10, hf⟩ := wBd_s hf
                    refine ro_callvI (As := []) (g1 := g0) (x := y11) X h (kX4_lateInAll l hS (Nat.le_of_ble_eq_true rfl) e10) mv_X4_lateInAll lk_X10_274 ⟨rfl, rfl⟩ ⟨(Nat.le_of_ble_eq_true rfl), (Nat.le_of_ble_eq_true rfl)⟩ (rC_9 X h (hS 9) (Nat.le_of_ble_eq_true rfl) Nat.one_pos) rfl hl rfl (Nat.le_of_ble_eq_true rfl) ⟨Nat.zero_le _, Nat.zero_le _⟩ dX10_count_140 (fun H locs h => ?_)
                    cases (Option.some.inj hf).trans JR
                    exact ro_iret X h dX10_count_143
                  · have hf := wF c9 hf
                    by_cases c12 : a1 = (9 : Int32)
                    · have hf := wT c12 hf
                      refine lv_tableIn (off := 143) (tgt := 144) X.x X.b dX10_count_1 (by rw [c12]; decide) (by rw [c12]; decide) (by rw [c12]; rfl) (by decide) ?_
                      refine lv_aload_n X.x X.b dX10_count_144 rfl (lv_at hl 0 rfl) ?_
                      refine gC_0_0 X h (hS 0) Nat.one_pos Nat.one_pos lk_X10_25 dX10_count_145 ?_
                      obtain ⟨y14, e13, hf⟩ := wBd_s hf
                      refine ro_callvI (As := []) (g1 := g0) (x := y14) X h (kX4_missedBags l hS (Nat.le_of_ble_eq_true rfl) e13) mv_X4_missedBags lk_X10_277 ⟨rfl, rfl⟩ ⟨(Nat.le_of_ble_eq_true rfl), (Nat.le_of_ble_eq_true rfl)⟩ (rC_9 X h (hS 9) (Nat.le_of_ble_eq_true rfl) Nat.one_pos) rfl hl rfl (Nat.le_of_ble_eq_true rfl) ⟨Nat.zero_le _, Nat.zero_le _⟩ dX10_count_148 (fun H locs h => ?_)
                      cases (Option.some.inj hf).trans JR
                      exact ro_iret X h dX10_count_151
                    · have hf := wF c12 hf
                      by_cases c15 : a1 = (10 : Int32)
                      · have hf := wT c15 hf
                        refine lv_tableIn (off := 151) (tgt := 152) X.x X.b dX10_count_1 (by rw [c15]; decide) (by rw [c15]; decide) (by rw [c15]; rfl) (by decide) ?_
                        refine lv_aload_n X.x X.b dX10_count_152 rfl (lv_at hl 0 rfl) ?_
                        refine gC_0_0 X h (hS 0) Nat.one_pos Nat.one_pos lk_X10_25 dX10_count_153 ?_
                        refine gC_9_5 X h (hS 9) (Nat.le_of_ble_eq_true rfl) Nat.one_pos lk_X10_67 dX10_count_156 ?_
                        refine lv_bipush (v := 7) X.x X.b dX10_count_159 (by decide) ?_
                        obtain ⟨b16, hf⟩ := wGi_s hf
                        refine aC_10 X h (hS 10) (Nat.le_of_ble_eq_true rfl) Nat.one_pos b16 dX10_count_161 ?_
                        cases (Option.some.inj hf).trans JR
                        exact ro_iret X h dX10_count_162
                      · have hf := wF c15 hf
                        by_cases c17 : a1 = (11 : Int32)
                        · have hf := wT c17 hf
                          refine lv_tableIn (off := 162) (tgt := 163) X.x X.b dX10_count_1 (by rw [c17]; decide) (by rw [c17]; decide) (by rw [c17]; rfl) (by decide) ?_
                          refine lv_aload_n X.x X.b dX10_count_163 rfl (lv_at hl 0 rfl) ?_
                          refine gC_0_0 X h (hS 0) Nat.one_pos Nat.one_pos lk_X10_25 dX10_count_164 ?_
                          refine gC_9_5 X h (hS 9) (Nat.le_of_ble_eq_true rfl) Nat.one_pos lk_X10_67 dX10_count_167 ?_
                          refine lv_iconst (v := 5) X.x X.b dX10_count_170 (by decide) ?_
                          obtain ⟨b18, hf⟩ := wGi_s hf
                          refine aC_10 X h (hS 10) (Nat.le_of_ble_eq_true rfl) Nat.one_pos b18 dX10_count_171 ?_
                          cases (Option.some.inj hf).trans JR
                          exact ro_iret X h dX10_count_172
                        · have hf := wF c17 hf
                          by_cases c19 : a1 = (12 : Int32)
                          · have hf := wT c19 hf
                            refine lv_tableIn (off := 172) (tgt := 173) X.x X.b dX10_count_1 (by rw [c19]; decide) (by rw [c19]; decide) (by rw [c19]; rfl) (by decide) ?_
                            refine lv_aload_n X.x X.b dX10_count_173 rfl (lv_at hl 0 rfl) ?_
                            refine gC_0_0 X h (hS 0) Nat.one_pos Nat.one_pos lk_X10_25 dX10_count_174 ?_
                            refine gC_9_5 X h (hS 9) (Nat.le_of_ble_eq_true rfl) Nat.one_pos lk_X10_67 dX10_count_177 ?_
                            refine lv_bipush (v := 6) X.x X.b dX10_count_180 (by decide) ?_
                            obtain ⟨b20, hf⟩ := wGi_s hf
                            refine aC_10 X h (hS 10) (Nat.le_of_ble_eq_true rfl) Nat.one_pos b20 dX10_count_182 ?_
                            cases (Option.some.inj hf).trans JR
                            exact ro_iret X h dX10_count_183
                          · have hf := wF c19 hf
                            by_cases c21 : a1 = (13 : Int32)
                            · have hf := wT c21 hf
                              refine lv_tableIn (off := 183) (tgt := 184) X.x X.b dX10_count_1 (by rw [c21]; decide) (by rw [c21]; decide) (by rw [c21]; rfl) (by decide) ?_
                              refine lv_aload_n X.x X.b dX10_count_184 rfl (lv_at hl 0 rfl) ?_
                              refine gC_0_0 X h (hS 0) Nat.one_pos Nat.one_pos lk_X10_25 dX10_count_185 ?_
                              refine gC_9_5 X h (hS 9) (Nat.le_of_ble_eq_true rfl) Nat.one_pos lk_X10_67 dX10_count_188 ?_
                              refine lv_bipush (v := 8) X.x X.b dX10_count_191 (by decide) ?_
                              obtain ⟨b22, hf⟩ := wGi_s hf
                              refine aC_10 X h (hS 10) (Nat.le_of_ble_eq_true rfl) Nat.one_pos b22 dX10_count_193 ?_
                              cases (Option.some.inj hf).trans JR
                              exact ro_iret X h dX10_count_194
                            · have hf := wF c21 hf
                              refine lv_tableOut (tgt := 195) X.x X.b dX10_count_1 (by have q0 := lv_neT c1 (a := 0) rfl; have q1 := lv_neT c2 (a := 1) rfl; have q2 := lv_neT c3 (a := 2) rfl; have q3 := lv_neT c4 (a := 3) rfl; have q4 := lv_neT c5 (a := 4) rfl; have q5 := lv_neT c6 (a := 5) rfl; have q6 := lv_neT c7 (a := 6) rfl; have q7 := lv_neT c8 (a := 7) rfl; have q8 := lv_neT c9 (a := 8) rfl; have q9 := lv_neT c12 (a := 9) rfl; have q10 := lv_neT c15 (a := 10) rfl; have q11 := lv_neT c17 (a := 11) rfl; have q12 := lv_neT c19 (a := 12) rfl; have q13 := lv_neT c21 (a := 13) rfl; omega) (by decide) ?_
                              refine lv_bipush (v := (-2)) X.x X.b dX10_count_195 (by decide) ?_
                              cases (Option.some.inj hf).trans JR
                              exact ro_iret X h dX10_count_197
set_option maxHeartbeats 4000000 in
set_option maxRecDepth 20000 in
theorem wX10_sheet_b43 {k : En} {S : Nat → Prop} (hS : ∀ t, S t) {a1 : Int32} {a2 : Int32} {a3 : Int32} {res : Mm × Int32} (X : Cx YC S k p s m args meth c cX10_sheet 4 (some .int) RX10) {g : Mm} {H : Heap} {locs : List Loc} {ls : Array Slot} (h : Hx YC S k s g H locs) (hl : lv_has ls 4 [(0, .ref (k.1 + adC 0 0 0)), (1, .int a1), (2, .int a2), (3, .int a3)]) {r : Mm × Int32} (hf : fX10_sheet_b43 g a1 a2 a3 = some r) (JR : r = res) :
    W p l e (RmN 1 23) s m args below meth c H locs 0 0 (Fin YC S k args s below (some (.int res.2)) res.1) (F0 m 43 ls []) := by
  unfold fX10_sheet_b43 at hf
  refine lv_aload_n X.x X.b dX10_sheet_43 rfl (lv_at hl 0 rfl) ?_
  refine gC_0_5 X h (hS 0) Nat.one_pos Nat.one_pos lk_X10_48 dX10_sheet_44 ?_
  refine lv_iload_n X.x X.b dX10_sheet_47 rfl (lv_at hl 1 rfl) ?_
  obtain ⟨b6, hf⟩ := wGi_s hf
  refine qC_28 X h (hS 28) Nat.one_pos Nat.one_pos b6 dX10_sheet_48 ?_
  refine lv_iload_n X.x X.b dX10_sheet_49 rfl (lv_at hl 2 rfl) ?_
  refine lv_iload_n X.x X.b dX10_sheet_50 rfl (lv_at hl 3 rfl) ?_
  obtain ⟨g9, e7, hf⟩ := wBd_s hf
  refine ro_callvV (As := [.int a2, .int a3]) (g1 := g9) X h (kX7_renew l hS (vin_lt b6) e7) mv_X7_renew lk_X10_280 ⟨rfl, rfl⟩ ⟨(Nat.le_of_ble_eq_true rfl), (Nat.le_of_ble_eq_true rfl)⟩ (rC_29 X h (hS 29) (vin_lt b6) Nat.one_pos) rfl hl rfl (Nat.le_of_ble_eq_true rfl) ⟨Nat.zero_le _, Nat.zero_le _⟩ dX10_sheet_51 (fun H locs h => ?_)
  refine lv_iconst (v := 1) X.x X.b dX10_sheet_54 (by decide) ?_
  cases (Option.some.inj hf).trans JR
  exact ro_iret X h dX10_sheet_55
set_option maxHeartbeats 4000000 in
set_option maxRecDepth 20000 in
theorem kX10_sheet (l : Launch) {k : En} {S : Nat → Prop} (hS : ∀ t, S t) {a1 : Int32} {a2 : Int32} {a3 : Int32} {res : Mm × Int32} {g : Mm} (hf : fX10_sheet g a1 a2 a3 = some res) : Mt l yX10_sheet cX10_sheet 4 (some .int) (RmN 1 23) YC S k [.ref (k.1 + adC 0 0 0), .int a1, .int a2, .int a3] g (some (.int res.2)) res.1 := by
  refine Mt.of (by decide) (Nat.le_of_ble_eq_true rfl) ?_
  intro p e s m args below meth c ls X _ h hl
  have X : Cx YC S k p s m args meth c cX10_sheet 4 (some .int) RX10 := X
  have hl : lv_has ls 4 [(0, .ref (k.1 + adC 0 0 0)), (1, .int a1), (2, .int a2), (3, .int a3)] := hl
  have JR : res = res := rfl
  unfold fX10_sheet at hf
  refine lv_iload_n X.x X.b dX10_sheet_0 rfl (lv_at hl 1 rfl) ?_
  refine lv_if_lt (tgt := 19) X.x X.b dX10_sheet_1 (by decide) (fun c1 => ?_) (fun c1 => ?_)
  · have hf := wT c1 hf
    refine lv_bipush (v := (-2)) X.x X.b dX10_sheet_19 (by decide) ?_
    cases (Option.some.inj hf).trans JR
    exact ro_iret X h dX10_sheet_21
  · have hf := wF c1 hf
    refine lv_iload_n X.x X.b dX10_sheet_4 rfl (lv_at hl 1 rfl) ?_
    refine lv_iconst (v := 4) X.x X.b dX10_sheet_5 (by decide) ?_
    refine lv_icmp_ge (tgt := 19) X.x X.b dX10_sheet_6 (by decide) (fun c2 => ?_) (fun c2 => ?_)
    · have hf := wT c2 hf
      refine lv_bipush (v := (-2)) X.x X.b dX10_sheet_19 (by decide) ?_
      cases (Option.some.inj hf).trans JR
      exact ro_iret X h dX10_sheet_21
    · have hf := wF c2 hf
      refine lv_iload_n X.x X.b dX10_sheet_9 rfl (lv_at hl 2 rfl) ?_
      refine lv_iconst (v := (-1)) X.x X.b dX10_sheet_10 (by decide) ?_
      refine lv_icmp_lt (tgt := 19) X.x X.b dX10_sheet_11 (by decide) (fun c3 => ?_) (fun c3 => ?_)
      · have hf := wT c3 hf
        refine lv_bipush (v := (-2)) X.x X.b dX10_sheet_19 (by decide) ?_
        cases (Option.some.inj hf).trans JR
        exact ro_iret X h dX10_sheet_21
      · have hf := wF c3 hf
        refine lv_iload_n X.x X.b dX10_sheet_14 rfl (lv_at hl 2 rfl) ?_
        refine lv_iconst (v := 3) X.x X.b dX10_sheet_15 (by decide) ?_
        refine lv_icmp_lt (tgt := 22) X.x X.b dX10_sheet_16 (by decide) (fun c4 => ?_) (fun c4 => ?_)
        · have hf := wT c4 hf
          refine lv_iload_n X.x X.b dX10_sheet_22 rfl (lv_at hl 2 rfl) ?_
          refine lv_iconst (v := (-1)) X.x X.b dX10_sheet_23 (by decide) ?_
          refine lv_icmp_eq (tgt := 43) X.x X.b dX10_sheet_24 (by decide) (fun c5 => ?_) (fun c5 => ?_)
          · have hf := wT c5 hf
            exact wX10_sheet_b43 hS X h (lv_sub hl [0, 1, 2, 3] rfl) hf JR
          · have hf := wF c5 hf
            refine lv_iload_n X.x X.b dX10_sheet_27 rfl (lv_at hl 3 rfl) ?_
            refine lv_bipush (v := 40) X.x X.b dX10_sheet_28 (by decide) ?_
            refine lv_icmp_le (tgt := 36) X.x X.b dX10_sheet_30 (by decide) (fun c10 => ?_) (fun c10 => ?_)
            · have hf := wT c10 hf
              refine lv_iload_n X.x X.b dX10_sheet_36 rfl (lv_at hl 3 rfl) ?_
              refine lv_if_ge (tgt := 43) X.x X.b dX10_sheet_37 (by decide) (fun c11 => ?_) (fun c11 => ?_)
              · have hf := wT c11 hf
                exact wX10_sheet_b43 hS X h (lv_sub hl [0, 1, 2, 3] rfl) hf JR
              · have hf := wF c11 hf
                refine lv_bipush (v := (-14)) X.x X.b dX10_sheet_40 (by decide) ?_
                cases (Option.some.inj hf).trans JR
                exact ro_iret X h dX10_sheet_42
            · have hf := wF c10 hf
              refine lv_bipush (v := (-2)) X.x X.b dX10_sheet_33 (by decide) ?_
              cases (Option.some.inj hf).trans JR
              exact ro_iret X h dX10_sheet_35
        · have hf := wF c4 hf
          refine lv_bipush (v := (-2)) X.x X.b dX10_sheet_19 (by decide) ?_
          cases (Option.some.inj hf).trans JR
          exact ro_iret X h dX10_sheet_21
set_option maxHeartbeats 4000000 in
set_option maxRecDepth 20000 in
theorem kX10_cell (l : Launch) {k : En} {S : Nat → Prop} (hS : ∀ t, S t) {a1 : Int32} {a2 : Int32} {a3 : Int32} {res : Mm × Int32} {g : Mm} (hf : fX10_cell g a1 a2 a3 = some res) : Mt l yX10_cell cX10_cell 5 (some .int) (RmN 1 22) YC S k [.ref (k.1 + adC 0 0 0), .int a1, .int a2, .int a3] g (some (.int res.2)) res.1 := by
  refine Mt.of (by decide) (Nat.le_of_ble_eq_true rfl) ?_
  intro p e s m args below meth c ls X _ h hl
  have X : Cx YC S k p s m args meth c cX10_cell 5 (some .int) RX10 := X
  have hl : lv_has ls 5 [(0, .ref (k.1 + adC 0 0 0)), (1, .int a1), (2, .int a2), (3, .int a3)] := hl
  have JR : res = res := rfl
  unfold fX10_cell at hf
  refine lv_iload_n X.x X.b dX10_cell_0 rfl (lv_at hl 1 rfl) ?_
  refine lv_if_lt (tgt := 9) X.x X.b dX10_cell_1 (by decide) (fun c1 => ?_) (fun c1 => ?_)
  · have hf := wT c1 hf
    refine lv_bipush (v := (-2)) X.x X.b dX10_cell_9 (by decide) ?_
    cases (Option.some.inj hf).trans JR
    exact ro_iret X h dX10_cell_11
  · have hf := wF c1 hf
    refine lv_iload_n X.x X.b dX10_cell_4 rfl (lv_at hl 1 rfl) ?_
    refine lv_iconst (v := 4) X.x X.b dX10_cell_5 (by decide) ?_
    refine lv_icmp_lt (tgt := 12) X.x X.b dX10_cell_6 (by decide) (fun c2 => ?_) (fun c2 => ?_)
    · have hf := wT c2 hf
      refine lv_aload_n X.x X.b dX10_cell_12 rfl (lv_at hl 0 rfl) ?_
      refine gC_0_5 X h (hS 0) Nat.one_pos Nat.one_pos lk_X10_48 dX10_cell_13 ?_
      refine lv_iload_n X.x X.b dX10_cell_16 rfl (lv_at hl 1 rfl) ?_
      obtain ⟨b3, hf⟩ := wGi_s hf
      refine qC_28 X h (hS 28) Nat.one_pos Nat.one_pos b3 dX10_cell_17 ?_
      refine lv_astore (lv' := [(4, .ref (k.1 + adC 29 ((a1).toNatClampNeg) 0)), (0, .ref (k.1 + adC 0 0 0)), (1, .int a1), (2, .int a2), (3, .int a3)]) X.x X.b dX10_cell_18 hl (by decide) rfl (fun ls hl => ?_)
      refine lv_aload X.x X.b dX10_cell_20 (lv_at hl 0 rfl) ?_
      obtain ⟨y5, e4, hf⟩ := wBd_s hf
      refine ro_callvI (As := []) (g1 := g) (x := y5) X h (kX7_isMissing l hS (vin_lt b3) e4) mv_X7_isMissing lk_X10_283 ⟨rfl, rfl⟩ ⟨(Nat.le_of_ble_eq_true rfl), (Nat.le_of_ble_eq_true rfl)⟩ (rC_29 X h (hS 29) (vin_lt b3) Nat.one_pos) rfl hl rfl (Nat.le_of_ble_eq_true rfl) ⟨Nat.zero_le _, Nat.zero_le _⟩ dX10_cell_22 (fun H locs h => ?_)
      refine lv_if_eq (tgt := 31) X.x X.b dX10_cell_25 (by decide) (fun c6 => ?_) (fun c6 => ?_)
      · have hf := wT c6 hf
        refine lv_aload X.x X.b dX10_cell_31 (lv_at hl 0 rfl) ?_
        refine lv_iload_n X.x X.b dX10_cell_33 rfl (lv_at hl 3 rfl) ?_
        obtain ⟨y8, e7, hf⟩ := wBd_s hf
        refine ro_callvI (As := [.int a2]) (g1 := g) (x := y8) X h (kX7_has l hS (vin_lt b3) e7) mv_X7_has lk_X10_286 ⟨rfl, rfl⟩ ⟨(Nat.le_of_ble_eq_true rfl), (Nat.le_of_ble_eq_true rfl)⟩ (rC_29 X h (hS 29) (vin_lt b3) Nat.one_pos) rfl hl rfl (Nat.le_of_ble_eq_true rfl) ⟨Nat.zero_le _, Nat.zero_le _⟩ dX10_cell_34 (fun H locs h => ?_)
        refine lv_if_ne (tgt := 43) X.x X.b dX10_cell_37 (by decide) (fun c9 => ?_) (fun c9 => ?_)
        · have hf := wF c9 hf
          refine lv_aload X.x X.b dX10_cell_43 (lv_at hl 0 rfl) ?_
          refine lv_iload_n X.x X.b dX10_cell_45 rfl (lv_at hl 3 rfl) ?_
          refine lv_iload_n X.x X.b dX10_cell_46 rfl (lv_at hl 4 rfl) ?_
          obtain ⟨g12, e10, hf⟩ := wBd_s hf
          refine ro_callvV (As := [.int a2, .int a3]) (g1 := g12) X h (kX7_put l hS (vin_lt b3) e10) mv_X7_put lk_X10_289 ⟨rfl, rfl⟩ ⟨(Nat.le_of_ble_eq_true rfl), (Nat.le_of_ble_eq_true rfl)⟩ (rC_29 X h (hS 29) (vin_lt b3) Nat.one_pos) rfl hl rfl (Nat.le_of_ble_eq_true rfl) ⟨Nat.zero_le _, Nat.zero_le _⟩ dX10_cell_47 (fun H locs h => ?_)
          refine lv_iconst (v := 1) X.x X.b dX10_cell_50 (by decide) ?_
          cases (Option.some.inj hf).trans JR
          exact ro_iret X h dX10_cell_51
        · have hf := wT c9 hf
          refine lv_bipush (v := (-12)) X.x X.b dX10_cell_40 (by decide) ?_
          cases (Option.some.inj hf).trans JR
          exact ro_iret X h dX10_cell_42
      · have hf := wF c6 hf
        refine lv_bipush (v := (-11)) X.x X.b dX10_cell_28 (by decide) ?_
        cases (Option.some.inj hf).trans JR
        exact ro_iret X h dX10_cell_30
    · have hf := wF c2 hf
      refine lv_bipush (v := (-2)) X.x X.b dX10_cell_9 (by decide) ?_
      cases (Option.some.inj hf).trans JR
      exact ro_iret X h dX10_cell_11
set_option maxHeartbeats 4000000 in
set_option maxRecDepth 20000 in
theorem kX10_copy (l : Launch) {k : En} {S : Nat → Prop} (hS : ∀ t, S t) {a1 : Int32} {a2 : Int32} {a3 : Int32} {a4 : Int32} {a5 : Int32} {res : Mm × Int32} {g : Mm} (hf : fX10_copy g a1 a2 a3 a4 a5 = some res) : Mt l yX10_copy cX10_copy 8 (some .int) (RmN 1 60) YC S k [.ref (k.1 + adC 0 0 0), .int a1, .int a2, .int a3, .int a4, .int a5] g (some (.int res.2)) res.1 := by
  refine Mt.of (by decide) (Nat.le_of_ble_eq_true rfl) ?_
  intro p e s m args below meth c ls X _ h hl
  have X : Cx YC S k p s m args meth c cX10_copy 8 (some .int) RX10 := X
  have hl : lv_has ls 8 [(0, .ref (k.1 + adC 0 0 0)), (1, .int a1), (2, .int a2), (3, .int a3), (4, .int a4), (5, .int a5)] := hl
  have JR : res = res := rfl
  unfold fX10_copy at hf
  refine lv_iload_n X.x X.b dX10_copy_0 rfl (lv_at hl 1 rfl) ?_
  refine lv_if_lt (tgt := 18) X.x X.b dX10_copy_1 (by decide) (fun c1 => ?_) (fun c1 => ?_)
  · have hf := wT c1 hf
    refine lv_bipush (v := (-2)) X.x X.b dX10_copy_18 (by decide) ?_
    cases (Option.some.inj hf).trans JR
    exact ro_iret X h dX10_copy_20
  · have hf := wF c1 hf
    refine lv_iload_n X.x X.b dX10_copy_4 rfl (lv_at hl 1 rfl) ?_
    refine lv_iconst (v := 4) X.x X.b dX10_copy_5 (by decide) ?_
    refine lv_icmp_ge (tgt := 18) X.x X.b dX10_copy_6 (by decide) (fun c2 => ?_) (fun c2 => ?_)
    · have hf := wT c2 hf
      refine lv_bipush (v := (-2)) X.x X.b dX10_copy_18 (by decide) ?_
      cases (Option.some.inj hf).trans JR
      exact ro_iret X h dX10_copy_20
    · have hf := wF c2 hf
      refine lv_iload_n X.x X.b dX10_copy_9 rfl (lv_at hl 3 rfl) ?_
      refine lv_if_lt (tgt := 18) X.x X.b dX10_copy_10 (by decide) (fun c3 => ?_) (fun c3 => ?_)
      · have hf := wT c3 hf
        refine lv_bipush (v := (-2)) X.x X.b dX10_copy_18 (by decide) ?_
        cases (Option.some.inj hf).trans JR
        exact ro_iret X h dX10_copy_20
      · have hf := wF c3 hf
        refine lv_iload_n X.x X.b dX10_copy_13 rfl (lv_at hl 3 rfl) ?_
        refine lv_iconst (v := 4) X.x X.b dX10_copy_14 (by decide) ?_
        refine lv_icmp_lt (tgt := 21) X.x X.b dX10_copy_15 (by decide) (fun c4 => ?_) (fun c4 => ?_)
        · have hf := wT c4 hf
          refine lv_aload_n X.x X.b dX10_copy_21 rfl (lv_at hl 0 rfl) ?_
          refine gC_0_5 X h (hS 0) Nat.one_pos Nat.one_pos lk_X10_48 dX10_copy_22 ?_
          refine lv_iload_n X.x X.b dX10_copy_25 rfl (lv_at hl 1 rfl) ?_
          obtain ⟨b5, hf⟩ := wGi_s hf
          refine qC_28 X h (hS 28) Nat.one_pos Nat.one_pos b5 dX10_copy_26 ?_
          refine lv_astore (lv' := [(6, .ref (k.1 + adC 29 ((a1).toNatClampNeg) 0)), (0, .ref (k.1 + adC 0 0 0)), (1, .int a1), (2, .int a2), (3, .int a3), (4, .int a4), (5, .int a5)]) X.x X.b dX10_copy_27 hl (by decide) rfl (fun ls hl => ?_)
          refine lv_aload_n X.x X.b dX10_copy_29 rfl (lv_at hl 1 rfl) ?_
          refine gC_0_5 X h (hS 0) Nat.one_pos Nat.one_pos lk_X10_48 dX10_copy_30 ?_
          refine lv_iload_n X.x X.b dX10_copy_33 rfl (lv_at hl 4 rfl) ?_
          obtain ⟨b6, hf⟩ := wGi_s hf
          refine qC_28 X h (hS 28) Nat.one_pos Nat.one_pos b6 dX10_copy_34 ?_
          refine lv_astore (lv' := [(7, .ref (k.1 + adC 29 ((a3).toNatClampNeg) 0)), (6, .ref (k.1 + adC 29 ((a1).toNatClampNeg) 0)), (0, .ref (k.1 + adC 0 0 0)), (1, .int a1), (2, .int a2), (3, .int a3), (4, .int a4), (5, .int a5)]) X.x X.b dX10_copy_35 hl (by decide) rfl (fun ls hl => ?_)
          refine lv_aload X.x X.b dX10_copy_37 (lv_at hl 1 rfl) ?_
          obtain ⟨y8, e7, hf⟩ := wBd_s hf
          refine ro_callvI (As := []) (g1 := g) (x := y8) X h (kX7_isMissing l hS (vin_lt b5) e7) mv_X7_isMissing lk_X10_283 ⟨rfl, rfl⟩ ⟨(Nat.le_of_ble_eq_true rfl), (Nat.le_of_ble_eq_true rfl)⟩ (rC_29 X h (hS 29) (vin_lt b5) Nat.one_pos) rfl hl rfl (Nat.le_of_ble_eq_true rfl) ⟨Nat.zero_le _, Nat.zero_le _⟩ dX10_copy_39 (fun H locs h => ?_)
          refine lv_if_ne (tgt := 53) X.x X.b dX10_copy_42 (by decide) (fun c9 => ?_) (fun c9 => ?_)
          · have hf := wF c9 hf
            refine lv_bipush (v := (-11)) X.x X.b dX10_copy_53 (by decide) ?_
            cases (Option.some.inj hf).trans JR
            exact ro_iret X h dX10_copy_55
          · have hf := wT c9 hf
            refine lv_aload X.x X.b dX10_copy_45 (lv_at hl 0 rfl) ?_
            obtain ⟨y11, e10, hf⟩ := wBd_s hf
            refine ro_callvI (As := []) (g1 := g) (x := y11) X h (kX7_isMissing l hS (vin_lt b6) e10) mv_X7_isMissing lk_X10_283 ⟨rfl, rfl⟩ ⟨(Nat.le_of_ble_eq_true rfl), (Nat.le_of_ble_eq_true rfl)⟩ (rC_29 X h (hS 29) (vin_lt b6) Nat.one_pos) rfl hl rfl (Nat.le_of_ble_eq_true rfl) ⟨Nat.zero_le _, Nat.zero_le _⟩ dX10_copy_47 (fun H locs h => ?_)
            refine lv_if_eq (tgt := 56) X.x X.b dX10_copy_50 (by decide) (fun c12 => ?_) (fun c12 => ?_)
            · have hf := wT c12 hf
              refine lv_aload X.x X.b dX10_copy_56 (lv_at hl 1 rfl) ?_
              refine gC_29_0 X h (hS 29) (vin_lt b5) Nat.one_pos lk_X10_292 dX10_copy_58 ?_
              refine lv_aload X.x X.b dX10_copy_61 (lv_at hl 0 rfl) ?_
              refine gC_29_0 X h (hS 29) (vin_lt b6) Nat.one_pos lk_X10_292 dX10_copy_63 ?_
              refine lv_icmp_eq (tgt := 72) X.x X.b dX10_copy_66 (by decide) (fun c13 => ?_) (fun c13 => ?_)
              · have hf := wT c13 hf
                refine lv_aload X.x X.b dX10_copy_72 (lv_at hl 1 rfl) ?_
                refine lv_iload_n X.x X.b dX10_copy_74 rfl (lv_at hl 4 rfl) ?_
                refine lv_iload X.x X.b dX10_copy_75 (lv_at hl 7 rfl) ?_
                obtain ⟨y15, e14, hf⟩ := wBd_s hf
                refine ro_callvI (As := [.int a2, .int a5]) (g1 := g) (x := y15) X h (kX7_spans l hS (vin_lt b5) e14) mv_X7_spans lk_X10_295 ⟨rfl, rfl⟩ ⟨(Nat.le_of_ble_eq_true rfl), (Nat.le_of_ble_eq_true rfl)⟩ (rC_29 X h (hS 29) (vin_lt b5) Nat.one_pos) rfl hl rfl (Nat.le_of_ble_eq_true rfl) ⟨Nat.zero_le _, Nat.zero_le _⟩ dX10_copy_77 (fun H locs h => ?_)
                refine lv_if_eq (tgt := 95) X.x X.b dX10_copy_80 (by decide) (fun c16 => ?_) (fun c16 => ?_)
                · have hf := wT c16 hf
                  refine lv_bipush (v := (-12)) X.x X.b dX10_copy_95 (by decide) ?_
                  cases (Option.some.inj hf).trans JR
                  exact ro_iret X h dX10_copy_97
                · have hf := wF c16 hf
                  refine lv_aload X.x X.b dX10_copy_83 (lv_at hl 0 rfl) ?_
                  refine lv_iload X.x X.b dX10_copy_85 (lv_at hl 6 rfl) ?_
                  refine lv_iload X.x X.b dX10_copy_87 (lv_at hl 7 rfl) ?_
                  obtain ⟨y18, e17, hf⟩ := wBd_s hf
                  refine ro_callvI (As := [.int a4, .int a5]) (g1 := g) (x := y18) X h (kX7_spans l hS (vin_lt b6) e17) mv_X7_spans lk_X10_295 ⟨rfl, rfl⟩ ⟨(Nat.le_of_ble_eq_true rfl), (Nat.le_of_ble_eq_true rfl)⟩ (rC_29 X h (hS 29) (vin_lt b6) Nat.one_pos) rfl hl rfl (Nat.le_of_ble_eq_true rfl) ⟨Nat.zero_le _, Nat.zero_le _⟩ dX10_copy_89 (fun H locs h => ?_)
                  refine lv_if_ne (tgt := 98) X.x X.b dX10_copy_92 (by decide) (fun c19 => ?_) (fun c19 => ?_)
                  · have hf := wF c19 hf
                    refine lv_aload X.x X.b dX10_copy_98 (lv_at hl 1 rfl) ?_
                    refine gC_29_2 X h (hS 29) (vin_lt b5) Nat.one_pos lk_X10_298 dX10_copy_100 ?_
                    refine lv_iload_n X.x X.b dX10_copy_103 rfl (lv_at hl 4 rfl) ?_
                    refine lv_aload X.x X.b dX10_copy_104 (lv_at hl 0 rfl) ?_
                    refine gC_29_2 X h (hS 29) (vin_lt b6) Nat.one_pos lk_X10_298 dX10_copy_106 ?_
                    refine lv_iload X.x X.b dX10_copy_109 (lv_at hl 6 rfl) ?_
                    refine lv_iload X.x X.b dX10_copy_111 (lv_at hl 7 rfl) ?_
                    obtain ⟨b22, hf⟩ := wGd_s hf
                    obtain ⟨g20, e21, hf⟩ := wLe_s hf
                    refine ro_copy okC X h hl (hS 30) (vin_lt b5) Nat.one_pos (fun _ => rfl) (hS 30) (vin_lt b6) Nat.one_pos (fun _ => rfl) lk_X10_301 cp_f b22 e21 (Nat.le_of_ble_eq_true rfl) (Nat.le_of_ble_eq_true rfl) dX10_copy_113 (fun H locs h => ?_)
                    refine lv_iload X.x X.b dX10_copy_116 (lv_at hl 7 rfl) ?_
                    cases (Option.some.inj hf).trans JR
                    exact ro_iret X h dX10_copy_118
                  · have hf := wT c19 hf
                    refine lv_bipush (v := (-12)) X.x X.b dX10_copy_95 (by decide) ?_
                    cases (Option.some.inj hf).trans JR
                    exact ro_iret X h dX10_copy_97
              · have hf := wF c13 hf
                refine lv_bipush (v := (-13)) X.x X.b dX10_copy_69 (by decide) ?_
                cases (Option.some.inj hf).trans JR
                exact ro_iret X h dX10_copy_71
            · have hf := wF c12 hf
              refine lv_bipush (v := (-11)) X.x X.b dX10_copy_53 (by decide) ?_
              cases (Option.some.inj hf).trans JR
              exact ro_iret X h dX10_copy_55
        · have hf := wF c4 hf
          refine lv_bipush (v := (-2)) X.x X.b dX10_copy_18 (by decide) ?_
          cases (Option.some.inj hf).trans JR
          exact ro_iret X h dX10_copy_20
set_option maxHeartbeats 4000000 in
set_option maxRecDepth 20000 in
theorem wX10_visitsOf_b102 {k : En} {S : Nat → Prop} (hS : ∀ t, S t) {i1 : Nat} {a2 : Int32} {a3 : Int32} (hi1 : i1 < 4) {res : Mm × Int32} (X : Cx YC S k p s m args meth c cX10_visitsOf 10 (some .int) RX10) {g : Mm} {x4 : Int32} {x5 : Int32} {H : Heap} {locs : List Loc} {ls : Array Slot} (h : Hx YC S k s g H locs) (hl : lv_has ls 10 [(0, .ref (k.1 + adC 0 0 0)), (1, .ref (k.1 + adC 29 i1 0)), (2, .int a2), (3, .int a3), (4, .int x4), (5, .int x5)]) {r : (Mm × Int32 × Int32) ⊕ (Mm × Int32)} (hf : fX10_visitsOf_b102 g i1 a2 a3 x4 x5 = some r) (J1 : ∀ (g : Mm) (x4 : Int32) (x5 : Int32), r = .inl (g, x4, x5) → ∀ (H : Heap) (locs : List Loc) (ls : Array Slot), Hx YC S k s g H locs → lv_has ls 10 [(0, .ref (k.1 + adC 0 0 0)), (1, .ref (k.1 + adC 29 i1 0)), (2, .int a2), (3, .int a3), (4, .int x4), (5, .int x5)] → W p l e (RmN 4 96) s m args below meth c H locs 0 0 (Fin YC S k args s below (some (.int res.2)) res.1) (F0 m 6 ls [])) (JR : ∀ t1, r = .inr t1 → t1 = res) :
    W p l e (RmN 4 96) s m args below meth c H locs 0 0 (Fin YC S k args s below (some (.int res.2)) res.1) (F0 m 102 ls []) := by
  unfold fX10_visitsOf_b102 at hf
  obtain ⟨y24, e25, hf⟩ := wLe_s hf
  refine lv_iinc (v := y24) (lv' := [(5, .int y24), (0, .ref (k.1 + adC 0 0 0)), (1, .ref (k.1 + adC 29 i1 0)), (2, .int a2), (3, .int a3), (4, .int x4)]) X.x X.b dX10_visitsOf_102 hl (k := 5) rfl (by rw [e25]; rfl) (by decide) rfl (fun ls hl => ?_)
  refine lv_goto (tgt := 6) X.x X.b dX10_visitsOf_105 (by decide) ?_
  exact J1 _ _ _ (Option.some.inj hf).symm _ _ _ h (lv_sub hl [1, 2, 3, 4, 5, 0] rfl)
set_option maxHeartbeats 4000000 in
set_option maxRecDepth 20000 in
theorem wX10_visitsOf_L6 {k : En} {S : Nat → Prop} (hS : ∀ t, S t) {i1 : Nat} {a2 : Int32} {a3 : Int32} (hi1 : i1 < 4) {res : Mm × Int32} (X : Cx YC S k p s m args meth c cX10_visitsOf 10 (some .int) RX10) {r : Mm × Int32} (JR : r = res) :
    ∀ (fu : Nat) (g : Mm) (x4 : Int32) (x5 : Int32) (H : Heap) (locs : List Loc) (ls : Array Slot), Hx YC S k s g H locs → lv_has ls 10 [(0, .ref (k.1 + adC 0 0 0)), (1, .ref (k.1 + adC 29 i1 0)), (2, .int a2), (3, .int a3), (4, .int x4), (5, .int x5)] → wLp (fun q => fX10_visitsOf_B6 q.1 i1 a2 a3 q.2.1 q.2.2) fu (g, x4, x5) = some r → W p l e (RmN 4 96) s m args below meth c H locs 0 0 (Fin YC S k args s below (some (.int res.2)) res.1) (F0 m 6 ls []) := by
  intro fu
  induction fu with
  | zero => intro g x4 x5 H locs ls h hl hf; exact (wLp_0 hf).elim
  | succ fu ih1 =>
    intro g x4 x5 H locs ls h hl hf
    obtain ⟨r1, hf, hr⟩ := wLp_s hf
    have J1n : ∀ (g : Mm) (x4 : Int32) (x5 : Int32), r1 = .inl (g, x4, x5) → ∀ (H : Heap) (locs : List Loc) (ls : Array Slot), Hx YC S k s g H locs → lv_has ls 10 [(0, .ref (k.1 + adC 0 0 0)), (1, .ref (k.1 + adC 29 i1 0)), (2, .int a2), (3, .int a3), (4, .int x4), (5, .int x5)] → W p l e (RmN 4 96) s m args below meth c H locs 0 0 (Fin YC S k args s below (some (.int res.2)) res.1) (F0 m 6 ls []) := fun g x4 x5 q H locs ls h hl => by subst q; exact ih1 _ _ _ _ _ _ h hl hr
    have JRn : ∀ t1, r1 = .inr t1 → t1 = res := fun t1 q => by subst q; obtain rfl := Option.some.inj hr; exact JR
    have J1 := J1n
    have JR := JRn
    clear J1n JRn
    have hf : fX10_visitsOf_B6 g i1 a2 a3 x4 x5 = some r1 := hf
    unfold fX10_visitsOf_B6 at hf
    refine lv_iload X.x X.b dX10_visitsOf_6 (lv_at hl 5 rfl) ?_
    refine lv_iload_n X.x X.b dX10_visitsOf_8 rfl (lv_at hl 3 rfl) ?_
    refine lv_icmp_ge (tgt := 108) X.x X.b dX10_visitsOf_9 (by decide) (fun c5 => ?_) (fun c5 => ?_)
    · have hf := wT c5 hf
      obtain ⟨t6, hf, e7⟩ := wEx_s hf
      have JR := JR t6 e7
      refine lv_iload X.x X.b dX10_visitsOf_108 (lv_at hl 4 rfl) ?_
      cases (Option.some.inj hf).trans JR
      exact ro_iret X h dX10_visitsOf_110
    · have hf := wF c5 hf
      refine lv_iload_n X.x X.b dX10_visitsOf_12 rfl (lv_at hl 2 rfl) ?_
      refine lv_i2l X.x X.b dX10_visitsOf_13 rfl ?_
      refine lv_iload X.x X.b dX10_visitsOf_14 (lv_at hl 5 rfl) ?_
      refine lv_i2l X.x X.b dX10_visitsOf_16 rfl ?_
      refine ro_ldc2 X lc_X10_329 dX10_visitsOf_17 ?_
      refine lv_lmul X.x X.b dX10_visitsOf_20 ?_
      refine lv_ladd X.x X.b dX10_visitsOf_21 ?_
      obtain ⟨y8, e9, hf⟩ := wLe_s hf
      refine lv_nml e9 ?_
      refine lv_lstore (lv' := [(6, .long y8), (0, .ref (k.1 + adC 0 0 0)), (1, .ref (k.1 + adC 29 i1 0)), (2, .int a2), (3, .int a3), (4, .int x4), (5, .int x5)]) X.x X.b dX10_visitsOf_22 hl (by decide) rfl (fun ls hl => ?_)
      refine lv_lload X.x X.b dX10_visitsOf_24 (lv_at hl 0 rfl) ?_
      refine lv_lconst (v := 0) X.x X.b dX10_visitsOf_26 (by decide) ?_
      refine W.lcmp X.x X.b dX10_visitsOf_27 ?_
      refine lv_if_lt (tgt := 46) X.x X.b dX10_visitsOf_28 (by decide) (fun c10 => ?_) (fun c10 => ?_)
      · have hf := wT c10 hf
        obtain ⟨t11, hf, e12⟩ := wEx_s hf
        have JR := JR t11 e12
        refine lv_bipush (v := (-12)) X.x X.b dX10_visitsOf_46 (by decide) ?_
        cases (Option.some.inj hf).trans JR
        exact ro_iret X h dX10_visitsOf_48
      · have hf := wF c10 hf
        refine lv_lload X.x X.b dX10_visitsOf_31 (lv_at hl 0 rfl) ?_
        refine ro_ldc2 X lc_X10_329 dX10_visitsOf_33 ?_
        refine lv_ladd X.x X.b dX10_visitsOf_36 ?_
        refine lv_aload_n X.x X.b dX10_visitsOf_37 rfl (lv_at hl 2 rfl) ?_
        refine gC_29_1 X h (hS 29) hi1 Nat.one_pos lk_X10_331 dX10_visitsOf_38 ?_
        refine lv_i2l X.x X.b dX10_visitsOf_41 rfl ?_
        refine W.lcmp X.x X.b dX10_visitsOf_42 ?_
        refine lv_if_le (tgt := 49) X.x X.b dX10_visitsOf_43 (by decide) (fun c13 => ?_) (fun c13 => ?_)
        · have hf := wT c13 hf
          refine lv_lload X.x X.b dX10_visitsOf_49 (lv_at hl 0 rfl) ?_
          refine lv_l2i X.x X.b dX10_visitsOf_51 rfl ?_
          obtain ⟨y14, e15, hf⟩ := wLe_s hf
          refine lv_nmi e15 ?_
          refine lv_istore (lv' := [(8, .int y14), (6, .long y8), (0, .ref (k.1 + adC 0 0 0)), (1, .ref (k.1 + adC 29 i1 0)), (2, .int a2), (3, .int a3), (4, .int x4), (5, .int x5)]) X.x X.b dX10_visitsOf_52 hl (by decide) rfl (fun ls hl => ?_)
          refine lv_aload_n X.x X.b dX10_visitsOf_54 rfl (lv_at hl 2 rfl) ?_
          refine lv_aload_n X.x X.b dX10_visitsOf_55 rfl (lv_at hl 3 rfl) ?_
          refine gC_29_2 X h (hS 29) hi1 Nat.one_pos lk_X10_298 dX10_visitsOf_56 ?_
          refine lv_iload X.x X.b dX10_visitsOf_59 (lv_at hl 0 rfl) ?_
          obtain ⟨b16, hf⟩ := wGi_s hf
          refine aC_30 X h (hS 30) hi1 Nat.one_pos b16 dX10_visitsOf_61 ?_
          refine lv_aload_n X.x X.b dX10_visitsOf_62 rfl (lv_at hl 3 rfl) ?_
          refine gC_29_2 X h (hS 29) hi1 Nat.one_pos lk_X10_298 dX10_visitsOf_63 ?_
          refine lv_iload X.x X.b dX10_visitsOf_66 (lv_at hl 0 rfl) ?_
          refine lv_iconst (v := 1) X.x X.b dX10_visitsOf_68 (by decide) ?_
          refine lv_iadd X.x X.b dX10_visitsOf_69 ?_
          obtain ⟨b17, hf⟩ := wGi_s hf
          refine aC_30 X h (hS 30) hi1 Nat.one_pos b17 dX10_visitsOf_70 ?_
          refine lv_aload_n X.x X.b dX10_visitsOf_71 rfl (lv_at hl 3 rfl) ?_
          refine gC_29_2 X h (hS 29) hi1 Nat.one_pos lk_X10_298 dX10_visitsOf_72 ?_
          refine lv_iload X.x X.b dX10_visitsOf_75 (lv_at hl 0 rfl) ?_
          refine lv_iconst (v := 2) X.x X.b dX10_visitsOf_77 (by decide) ?_
          refine lv_iadd X.x X.b dX10_visitsOf_78 ?_
          obtain ⟨b18, hf⟩ := wGi_s hf
          refine aC_30 X h (hS 30) hi1 Nat.one_pos b18 dX10_visitsOf_79 ?_
          refine lv_aload_n X.x X.b dX10_visitsOf_80 rfl (lv_at hl 3 rfl) ?_
          refine gC_29_2 X h (hS 29) hi1 Nat.one_pos lk_X10_298 dX10_visitsOf_81 ?_
          refine lv_iload X.x X.b dX10_visitsOf_84 (lv_at hl 0 rfl) ?_
          refine lv_iconst (v := 3) X.x X.b dX10_visitsOf_86 (by decide) ?_
          refine lv_iadd X.x X.b dX10_visitsOf_87 ?_
          obtain ⟨b19, hf⟩ := wGi_s hf
          refine aC_30 X h (hS 30) hi1 Nat.one_pos b19 dX10_visitsOf_88 ?_
          obtain ⟨g22, y21, e20, hf⟩ := wB2_s hf
          refine ro_callvI (As := [.int (g 30 i1 0 (y14).toNatClampNeg), .int (g 30 i1 0 (y14 + (1 : Int32)).toNatClampNeg), .int (g 30 i1 0 (y14 + (2 : Int32)).toNatClampNeg), .int (g 30 i1 0 (y14 + (3 : Int32)).toNatClampNeg)]) (g1 := g22) (x := y21) X h (kX10_visit l hS e20) mv_X10_visit lk_X10_332 ⟨rfl, rfl⟩ ⟨(Nat.le_of_ble_eq_true rfl), (Nat.le_of_ble_eq_true rfl)⟩ (rC_0 X h (hS 0) Nat.one_pos Nat.one_pos) rfl hl rfl (Nat.le_of_ble_eq_true rfl) ⟨Nat.zero_le _, Nat.zero_le _⟩ dX10_visitsOf_89 (fun H locs h => ?_)
          refine lv_istore (lv' := [(9, .int y21), (8, .int y14), (6, .long y8), (0, .ref (k.1 + adC 0 0 0)), (1, .ref (k.1 + adC 29 i1 0)), (2, .int a2), (3, .int a3), (4, .int x4), (5, .int x5)]) X.x X.b dX10_visitsOf_92 hl (by decide) rfl (fun ls hl => ?_)
          refine lv_iload X.x X.b dX10_visitsOf_94 (lv_at hl 0 rfl) ?_
          refine lv_if_lt (tgt := 102) X.x X.b dX10_visitsOf_96 (by decide) (fun c23 => ?_) (fun c23 => ?_)
          · have hf := wT c23 hf
            exact wX10_visitsOf_b102 hS hi1 X h (lv_sub hl [3, 4, 5, 6, 7, 8] rfl) hf J1 JR
          · have hf := wF c23 hf
            obtain ⟨y26, e27, hf⟩ := wLe_s hf
            refine lv_iinc (v := y26) (lv' := [(4, .int y26), (9, .int y21), (8, .int y14), (6, .long y8), (0, .ref (k.1 + adC 0 0 0)), (1, .ref (k.1 + adC 29 i1 0)), (2, .int a2), (3, .int a3), (5, .int x5)]) X.x X.b dX10_visitsOf_99 hl (k := 7) rfl (by rw [e27]; rfl) (by decide) rfl (fun ls hl => ?_)
            exact wX10_visitsOf_b102 hS hi1 X h (lv_sub hl [4, 5, 6, 7, 0, 8] rfl) hf J1 JR
        · have hf := wF c13 hf
          obtain ⟨t28, hf, e29⟩ := wEx_s hf
          have JR := JR t28 e29
          refine lv_bipush (v := (-12)) X.x X.b dX10_visitsOf_46 (by decide) ?_
          cases (Option.some.inj hf).trans JR
          exact ro_iret X h dX10_visitsOf_48
set_option maxHeartbeats 4000000 in
set_option maxRecDepth 20000 in
theorem kX10_visitsOf (l : Launch) {k : En} {S : Nat → Prop} (hS : ∀ t, S t) {i1 : Nat} {a2 : Int32} {a3 : Int32} (hi1 : i1 < 4) {res : Mm × Int32} {g : Mm} (hf : fX10_visitsOf g i1 a2 a3 = some res) : Mt l yX10_visitsOf cX10_visitsOf 10 (some .int) (RmN 4 96) YC S k [.ref (k.1 + adC 0 0 0), .ref (k.1 + adC 29 i1 0), .int a2, .int a3] g (some (.int res.2)) res.1 := by
  refine Mt.of (by decide) (Nat.le_of_ble_eq_true rfl) ?_
  intro p e s m args below meth c ls X _ h hl
  have X : Cx YC S k p s m args meth c cX10_visitsOf 10 (some .int) RX10 := X
  have hl : lv_has ls 10 [(0, .ref (k.1 + adC 0 0 0)), (1, .ref (k.1 + adC 29 i1 0)), (2, .int a2), (3, .int a3)] := hl
  have JR : res = res := rfl
  unfold fX10_visitsOf at hf
  refine lv_iconst (v := 0) X.x X.b dX10_visitsOf_0 (by decide) ?_
  obtain ⟨y1, e2, hf⟩ := wLe_s hf
  refine lv_nmi e2 ?_
  refine lv_istore (lv' := [(4, .int y1), (0, .ref (k.1 + adC 0 0 0)), (1, .ref (k.1 + adC 29 i1 0)), (2, .int a2), (3, .int a3)]) X.x X.b dX10_visitsOf_1 hl (by decide) rfl (fun ls hl => ?_)
  refine lv_iconst (v := 0) X.x X.b dX10_visitsOf_3 (by decide) ?_
  obtain ⟨y3, e4, hf⟩ := wLe_s hf
  refine lv_nmi e4 ?_
  refine lv_istore (lv' := [(5, .int y3), (4, .int y1), (0, .ref (k.1 + adC 0 0 0)), (1, .ref (k.1 + adC 29 i1 0)), (2, .int a2), (3, .int a3)]) X.x X.b dX10_visitsOf_4 hl (by decide) rfl (fun ls hl => ?_)
  exact wX10_visitsOf_L6 hS hi1 X JR _ _ _ _ _ _ _ h (lv_sub hl [2, 3, 4, 5, 1, 0] rfl) hf
set_option maxHeartbeats 4000000 in
set_option maxRecDepth 20000 in
theorem wX10_visits_b35 {k : En} {S : Nat → Prop} (hS : ∀ t, S t) {a1 : Int32} {a2 : Int32} {a3 : Int32} {a4 : Int32} {res : Mm × Int32} (X : Cx YC S k p s m args meth c cX10_visits 7 (some .int) RX10) {g : Mm} {z0 : Int32} {H : Heap} {locs : List Loc} {ls : Array Slot} (h : Hx YC S k s g H locs) (hl : lv_has ls 7 [(0, .ref (k.1 + adC 0 0 0)), (1, .int a1), (2, .int a2), (3, .int a3), (4, .int a4)]) {r : Mm × Int32} (hf : fX10_visits_b35 g a1 a2 a3 a4 z0 = some r) (JR : r = res) :
    W p l e (RmN 5 125) s m args below meth c H locs 0 0 (Fin YC S k args s below (some (.int res.2)) res.1) (F0 m 35 ls [.int z0]) := by
  unfold fX10_visits_b35 at hf
  refine lv_istore (lv' := [(5, .int z0), (0, .ref (k.1 + adC 0 0 0)), (1, .int a1), (2, .int a2), (3, .int a3), (4, .int a4)]) X.x X.b dX10_visits_35 hl (by decide) rfl (fun ls hl => ?_)
  refine lv_iload X.x X.b dX10_visits_37 (lv_at hl 0 rfl) ?_
  refine lv_if_ne (tgt := 45) X.x X.b dX10_visits_39 (by decide) (fun c2 => ?_) (fun c2 => ?_)
  · have hf := wF c2 hf
    refine lv_aload_n X.x X.b dX10_visits_45 rfl (lv_at hl 1 rfl) ?_
    refine gC_0_5 X h (hS 0) Nat.one_pos Nat.one_pos lk_X10_48 dX10_visits_46 ?_
    refine lv_iload_n X.x X.b dX10_visits_49 rfl (lv_at hl 2 rfl) ?_
    obtain ⟨b3, hf⟩ := wGi_s hf
    refine qC_28 X h (hS 28) Nat.one_pos Nat.one_pos b3 dX10_visits_50 ?_
    refine lv_astore (lv' := [(6, .ref (k.1 + adC 29 ((a1).toNatClampNeg) 0)), (5, .int z0), (0, .ref (k.1 + adC 0 0 0)), (1, .int a1), (2, .int a2), (3, .int a3), (4, .int a4)]) X.x X.b dX10_visits_51 hl (by decide) rfl (fun ls hl => ?_)
    refine lv_aload X.x X.b dX10_visits_53 (lv_at hl 0 rfl) ?_
    obtain ⟨y5, e4, hf⟩ := wBd_s hf
    refine ro_callvI (As := []) (g1 := g) (x := y5) X h (kX7_isMissing l hS (vin_lt b3) e4) mv_X7_isMissing lk_X10_283 ⟨rfl, rfl⟩ ⟨(Nat.le_of_ble_eq_true rfl), (Nat.le_of_ble_eq_true rfl)⟩ (rC_29 X h (hS 29) (vin_lt b3) Nat.one_pos) rfl hl rfl (Nat.le_of_ble_eq_true rfl) ⟨Nat.zero_le _, Nat.zero_le _⟩ dX10_visits_55 (fun H locs h => ?_)
    refine lv_if_eq (tgt := 64) X.x X.b dX10_visits_58 (by decide) (fun c6 => ?_) (fun c6 => ?_)
    · have hf := wT c6 hf
      refine lv_aload X.x X.b dX10_visits_64 (lv_at hl 0 rfl) ?_
      refine gC_29_0 X h (hS 29) (vin_lt b3) Nat.one_pos lk_X10_292 dX10_visits_66 ?_
      refine lv_iload_n X.x X.b dX10_visits_69 rfl (lv_at hl 4 rfl) ?_
      refine lv_icmp_eq (tgt := 76) X.x X.b dX10_visits_70 (by decide) (fun c7 => ?_) (fun c7 => ?_)
      · have hf := wT c7 hf
        refine lv_aload_n X.x X.b dX10_visits_76 rfl (lv_at hl 2 rfl) ?_
        refine lv_aload X.x X.b dX10_visits_77 (lv_at hl 0 rfl) ?_
        refine lv_iload_n X.x X.b dX10_visits_79 rfl (lv_at hl 5 rfl) ?_
        refine lv_iload X.x X.b dX10_visits_80 (lv_at hl 6 rfl) ?_
        obtain ⟨g10, y9, e8, hf⟩ := wB2_s hf
        refine ro_callvI (As := [.ref (k.1 + adC 29 ((a1).toNatClampNeg) 0), .int a3, .int a4]) (g1 := g10) (x := y9) X h (kX10_visitsOf l hS (vin_lt b3) e8) mv_X10_visitsOf lk_X10_307 ⟨rfl, rfl⟩ ⟨(Nat.le_of_ble_eq_true rfl), (Nat.le_of_ble_eq_true rfl)⟩ (rC_0 X h (hS 0) Nat.one_pos Nat.one_pos) rfl hl rfl (Nat.le_of_ble_eq_true rfl) ⟨Nat.zero_le _, Nat.zero_le _⟩ dX10_visits_82 (fun H locs h => ?_)
        cases (Option.some.inj hf).trans JR
        exact ro_iret X h dX10_visits_85
      · have hf := wF c7 hf
        refine lv_bipush (v := (-13)) X.x X.b dX10_visits_73 (by decide) ?_
        cases (Option.some.inj hf).trans JR
        exact ro_iret X h dX10_visits_75
    · have hf := wF c6 hf
      refine lv_bipush (v := (-11)) X.x X.b dX10_visits_61 (by decide) ?_
      cases (Option.some.inj hf).trans JR
      exact ro_iret X h dX10_visits_63
  · have hf := wT c2 hf
    refine lv_bipush (v := (-2)) X.x X.b dX10_visits_42 (by decide) ?_
    cases (Option.some.inj hf).trans JR
    exact ro_iret X h dX10_visits_44
set_option maxHeartbeats 4000000 in
set_option maxRecDepth 20000 in
theorem wX10_visits_b34 {k : En} {S : Nat → Prop} (hS : ∀ t, S t) {a1 : Int32} {a2 : Int32} {a3 : Int32} {a4 : Int32} {res : Mm × Int32} (X : Cx YC S k p s m args meth c cX10_visits 7 (some .int) RX10) {g : Mm} {H : Heap} {locs : List Loc} {ls : Array Slot} (h : Hx YC S k s g H locs) (hl : lv_has ls 7 [(0, .ref (k.1 + adC 0 0 0)), (1, .int a1), (2, .int a2), (3, .int a3), (4, .int a4)]) {r : Mm × Int32} (hf : fX10_visits_b34 g a1 a2 a3 a4 = some r) (JR : r = res) :
    W p l e (RmN 5 125) s m args below meth c H locs 0 0 (Fin YC S k args s below (some (.int res.2)) res.1) (F0 m 34 ls []) := by
  unfold fX10_visits_b34 at hf
  refine lv_iconst (v := 0) X.x X.b dX10_visits_34 (by decide) ?_
  exact wX10_visits_b35 hS X h (lv_sub hl [0, 1, 2, 3, 4] rfl) hf JR
set_option maxHeartbeats 4000000 in
set_option maxRecDepth 20000 in
theorem kX10_visits (l : Launch) {k : En} {S : Nat → Prop} (hS : ∀ t, S t) {a1 : Int32} {a2 : Int32} {a3 : Int32} {a4 : Int32} {res : Mm × Int32} {g : Mm} (hf : fX10_visits g a1 a2 a3 a4 = some res) : Mt l yX10_visits cX10_visits 7 (some .int) (RmN 5 125) YC S k [.ref (k.1 + adC 0 0 0), .int a1, .int a2, .int a3, .int a4] g (some (.int res.2)) res.1 := by
  refine Mt.of (by decide) (Nat.le_of_ble_eq_true rfl) ?_
  intro p e s m args below meth c ls X _ h hl
  have X : Cx YC S k p s m args meth c cX10_visits 7 (some .int) RX10 := X
  have hl : lv_has ls 7 [(0, .ref (k.1 + adC 0 0 0)), (1, .int a1), (2, .int a2), (3, .int a3), (4, .int a4)] := hl
  have JR : res = res := rfl
  unfold fX10_visits at hf
  refine lv_iload_n X.x X.b dX10_visits_0 rfl (lv_at hl 1 rfl) ?_
  refine lv_if_lt (tgt := 34) X.x X.b dX10_visits_1 (by decide) (fun c1 => ?_) (fun c1 => ?_)
  · have hf := wT c1 hf
    exact wX10_visits_b34 hS X h (lv_sub hl [0, 1, 2, 3, 4] rfl) hf JR
  · have hf := wF c1 hf
    refine lv_iload_n X.x X.b dX10_visits_4 rfl (lv_at hl 1 rfl) ?_
    refine lv_iconst (v := 4) X.x X.b dX10_visits_5 (by decide) ?_
    refine lv_icmp_ge (tgt := 34) X.x X.b dX10_visits_6 (by decide) (fun c11 => ?_) (fun c11 => ?_)
    · have hf := wT c11 hf
      exact wX10_visits_b34 hS X h (lv_sub hl [0, 1, 2, 3, 4] rfl) hf JR
    · have hf := wF c11 hf
      refine lv_iload_n X.x X.b dX10_visits_9 rfl (lv_at hl 2 rfl) ?_
      refine lv_if_lt (tgt := 34) X.x X.b dX10_visits_10 (by decide) (fun c12 => ?_) (fun c12 => ?_)
      · have hf := wT c12 hf
        exact wX10_visits_b34 hS X h (lv_sub hl [0, 1, 2, 3, 4] rfl) hf JR
      · have hf := wF c12 hf
        refine lv_iload_n X.x X.b dX10_visits_13 rfl (lv_at hl 2 rfl) ?_
        refine lv_iconst (v := 3) X.x X.b dX10_visits_14 (by decide) ?_
        refine lv_icmp_ge (tgt := 34) X.x X.b dX10_visits_15 (by decide) (fun c13 => ?_) (fun c13 => ?_)
        · have hf := wT c13 hf
          exact wX10_visits_b34 hS X h (lv_sub hl [0, 1, 2, 3, 4] rfl) hf JR
        · have hf := wF c13 hf
          refine lv_iload X.x X.b dX10_visits_18 (lv_at hl 4 rfl) ?_
          refine lv_if_lt (tgt := 34) X.x X.b dX10_visits_20 (by decide) (fun c14 => ?_) (fun c14 => ?_)
          · have hf := wT c14 hf
            exact wX10_visits_b34 hS X h (lv_sub hl [0, 1, 2, 3, 4] rfl) hf JR
          · have hf := wF c14 hf
            refine lv_iload X.x X.b dX10_visits_23 (lv_at hl 4 rfl) ?_
            refine lv_bipush (v := 10) X.x X.b dX10_visits_25 (by decide) ?_
            refine lv_icmp_gt (tgt := 34) X.x X.b dX10_visits_27 (by decide) (fun c15 => ?_) (fun c15 => ?_)
            · have hf := wT c15 hf
              exact wX10_visits_b34 hS X h (lv_sub hl [0, 1, 2, 3, 4] rfl) hf JR
            · have hf := wF c15 hf
              refine lv_iconst (v := 1) X.x X.b dX10_visits_30 (by decide) ?_
              refine lv_goto (tgt := 35) X.x X.b dX10_visits_31 (by decide) ?_
              exact wX10_visits_b35 hS X h (lv_sub hl [0, 1, 2, 3, 4] rfl) hf JR
set_option maxHeartbeats 4000000 in
set_option maxRecDepth 20000 in
theorem kX10_taken (l : Launch) {k : En} {S : Nat → Prop} (hS : ∀ t, S t) {g0 : Mm} {a1 : Int32} {a2 : Int32} {res : Int32} (hf : fX10_taken g0 a1 a2 = some res) : Mt l yX10_taken cX10_taken 4 (some .int) (RmN 1 23) YC S k [.ref (k.1 + adC 0 0 0), .int a1, .int a2] g0 (some (.int res)) g0 := by
  refine Mt.of (by decide) (Nat.le_of_ble_eq_true rfl) ?_
  intro p e s m args below meth c ls X _ h hl
  have X : Cx YC S k p s m args meth c cX10_taken 4 (some .int) RX10 := X
  have hl : lv_has ls 4 [(0, .ref (k.1 + adC 0 0 0)), (1, .int a1), (2, .int a2)] := hl
  have JR : res = res := rfl
  unfold fX10_taken at hf
  refine lv_iload_n X.x X.b dX10_taken_0 rfl (lv_at hl 2 rfl) ?_
  obtain ⟨y2, e1, hf⟩ := wBd_s hf
  refine ro_callsI (As := [.int a2]) (g1 := g0) (x := y2) X h (kX3_isKind l hS e1) mv_X3_isKind lk_X10_70 ⟨rfl, rfl⟩ ⟨(Nat.le_of_ble_eq_true rfl), (Nat.le_of_ble_eq_true rfl)⟩ rfl hl rfl (Nat.le_of_ble_eq_true rfl) ⟨Nat.zero_le _, Nat.zero_le _⟩ dX10_taken_1 (fun H locs h => ?_)
  refine lv_if_ne (tgt := 10) X.x X.b dX10_taken_4 (by decide) (fun c3 => ?_) (fun c3 => ?_)
  · have hf := wF c3 hf
    refine lv_aload_n X.x X.b dX10_taken_10 rfl (lv_at hl 0 rfl) ?_
    refine gC_0_0 X h (hS 0) Nat.one_pos Nat.one_pos lk_X10_25 dX10_taken_11 ?_
    refine lv_iload_n X.x X.b dX10_taken_14 rfl (lv_at hl 1 rfl) ?_
    obtain ⟨y5, e4, hf⟩ := wBd_s hf
    refine ro_callvI (As := [.int a1]) (g1 := g0) (x := y5) X h (kX4_hasVisit l hS (Nat.le_of_ble_eq_true rfl) e4) mv_X4_hasVisit lk_X10_82 ⟨rfl, rfl⟩ ⟨(Nat.le_of_ble_eq_true rfl), (Nat.le_of_ble_eq_true rfl)⟩ (rC_9 X h (hS 9) (Nat.le_of_ble_eq_true rfl) Nat.one_pos) rfl hl rfl (Nat.le_of_ble_eq_true rfl) ⟨Nat.zero_le _, Nat.zero_le _⟩ dX10_taken_15 (fun H locs h => ?_)
    refine lv_if_ne (tgt := 24) X.x X.b dX10_taken_18 (by decide) (fun c6 => ?_) (fun c6 => ?_)
    · have hf := wF c6 hf
      refine lv_aload_n X.x X.b dX10_taken_24 rfl (lv_at hl 0 rfl) ?_
      refine gC_0_0 X h (hS 0) Nat.one_pos Nat.one_pos lk_X10_25 dX10_taken_25 ?_
      refine gC_9_11 X h (hS 9) (Nat.le_of_ble_eq_true rfl) Nat.one_pos lk_X10_85 dX10_taken_28 ?_
      refine lv_iload_n X.x X.b dX10_taken_31 rfl (lv_at hl 1 rfl) ?_
      obtain ⟨b7, hf⟩ := wGi_s hf
      refine qC_16 X h (hS 16) (Nat.le_of_ble_eq_true rfl) Nat.one_pos b7 dX10_taken_32 ?_
      refine gC_19_0 X h (hS 19) (Nat.le_of_ble_eq_true rfl) (vin_lt b7) lk_X10_211 dX10_taken_33 ?_
      obtain ⟨y8, e9, hf⟩ := wLe_s hf
      refine lv_nmi e9 ?_
      refine lv_istore_n (lv' := [(3, .int y8), (0, .ref (k.1 + adC 0 0 0)), (1, .int a1), (2, .int a2)]) X.x X.b dX10_taken_36 rfl hl (by decide) rfl (fun ls hl => ?_)
      refine lv_iload_n X.x X.b dX10_taken_37 rfl (lv_at hl 0 rfl) ?_
      refine lv_iload_n X.x X.b dX10_taken_38 rfl (lv_at hl 3 rfl) ?_
      obtain ⟨y11, e10, hf⟩ := wBd_s hf
      refine ro_callsI (As := [.int y8, .int a2]) (g1 := g0) (x := y11) X h (kX3_isA l hS e10) mv_X3_isA lk_X10_311 ⟨rfl, rfl⟩ ⟨(Nat.le_of_ble_eq_true rfl), (Nat.le_of_ble_eq_true rfl)⟩ rfl hl rfl (Nat.le_of_ble_eq_true rfl) ⟨Nat.zero_le _, Nat.zero_le _⟩ dX10_taken_39 (fun H locs h => ?_)
      refine lv_if_eq (tgt := 52) X.x X.b dX10_taken_42 (by decide) (fun c12 => ?_) (fun c12 => ?_)
      · have hf := wT c12 hf
        refine lv_bipush (v := (-13)) X.x X.b dX10_taken_52 (by decide) ?_
        cases (Option.some.inj hf).trans JR
        exact ro_iret X h dX10_taken_54
      · have hf := wF c12 hf
        refine lv_iload_n X.x X.b dX10_taken_45 rfl (lv_at hl 0 rfl) ?_
        obtain ⟨y14, e13, hf⟩ := wBd_s hf
        refine ro_callsI (As := [.int y8]) (g1 := g0) (x := y14) X h (kX3_size l hS e13) mv_X3_size lk_X10_151 ⟨rfl, rfl⟩ ⟨(Nat.le_of_ble_eq_true rfl), (Nat.le_of_ble_eq_true rfl)⟩ rfl hl rfl (Nat.le_of_ble_eq_true rfl) ⟨Nat.zero_le _, Nat.zero_le _⟩ dX10_taken_46 (fun H locs h => ?_)
        refine lv_goto (tgt := 54) X.x X.b dX10_taken_49 (by decide) ?_
        cases (Option.some.inj hf).trans JR
        exact ro_iret X h dX10_taken_54
    · have hf := wT c6 hf
      refine lv_bipush (v := (-11)) X.x X.b dX10_taken_21 (by decide) ?_
      cases (Option.some.inj hf).trans JR
      exact ro_iret X h dX10_taken_23
  · have hf := wT c3 hf
    refine lv_bipush (v := (-2)) X.x X.b dX10_taken_7 (by decide) ?_
    cases (Option.some.inj hf).trans JR
    exact ro_iret X h dX10_taken_9
end WK
