theorem dX9_become_0 : decode cX9_become 0 = .ok (.aload_n 0, 1) := by decide +kernel
theorem dX9_become_1 : decode cX9_become 1 = .ok (.aload_n 1, 1) := by decide +kernel
theorem dX9_become_2 : decode cX9_become 2 = .ok (.getfield 20, 3) := by decide +kernel
theorem dX9_become_5 : decode cX9_become 5 = .ok (.putfield 20, 3) := by decide +kernel
theorem dX9_become_8 : decode cX9_become 8 = .ok (.aload_n 0, 1) := by decide +kernel
theorem dX9_become_9 : decode cX9_become 9 = .ok (.aload_n 1, 1) := by decide +kernel
theorem dX9_become_10 : decode cX9_become 10 = .ok (.getfield 24, 3) := by decide +kernel
theorem dX9_become_13 : decode cX9_become 13 = .ok (.putfield 24, 3) := by decide +kernel
theorem dX9_become_16 : decode cX9_become 16 = .ok (.aload_n 0, 1) := by decide +kernel
theorem dX9_become_17 : decode cX9_become 17 = .ok (.aload_n 1, 1) := by decide +kernel
theorem dX9_become_18 : decode cX9_become 18 = .ok (.getfield 27, 3) := by decide +kernel
theorem dX9_become_21 : decode cX9_become 21 = .ok (.putfield 27, 3) := by decide +kernel
theorem dX9_become_24 : decode cX9_become 24 = .ok (.aload_n 0, 1) := by decide +kernel
theorem dX9_become_25 : decode cX9_become 25 = .ok (.aload_n 1, 1) := by decide +kernel
theorem dX9_become_26 : decode cX9_become 26 = .ok (.getfield 30, 3) := by decide +kernel
theorem dX9_become_29 : decode cX9_become 29 = .ok (.putfield 30, 3) := by decide +kernel
theorem dX9_become_32 : decode cX9_become 32 = .ok (.aload_n 0, 1) := by decide +kernel
theorem dX9_become_33 : decode cX9_become 33 = .ok (.aload_n 1, 1) := by decide +kernel
theorem dX9_become_34 : decode cX9_become 34 = .ok (.getfield 46, 3) := by decide +kernel
theorem dX9_become_37 : decode cX9_become 37 = .ok (.putfield 46, 3) := by decide +kernel
theorem dX9_become_40 : decode cX9_become 40 = .ok (.aload_n 0, 1) := by decide +kernel
theorem dX9_become_41 : decode cX9_become 41 = .ok (.aload_n 1, 1) := by decide +kernel
theorem dX9_become_42 : decode cX9_become 42 = .ok (.getfield 33, 3) := by decide +kernel
theorem dX9_become_45 : decode cX9_become 45 = .ok (.putfield 33, 3) := by decide +kernel
theorem dX9_become_48 : decode cX9_become 48 = .ok (.aload_n 0, 1) := by decide +kernel
theorem dX9_become_49 : decode cX9_become 49 = .ok (.aload_n 1, 1) := by decide +kernel
theorem dX9_become_50 : decode cX9_become 50 = .ok (.getfield 49, 3) := by decide +kernel
theorem dX9_become_53 : decode cX9_become 53 = .ok (.putfield 49, 3) := by decide +kernel
theorem dX9_become_56 : decode cX9_become 56 = .ok (.aload_n 0, 1) := by decide +kernel
theorem dX9_become_57 : decode cX9_become 57 = .ok (.aload_n 1, 1) := by decide +kernel
theorem dX9_become_58 : decode cX9_become 58 = .ok (.getfield 52, 3) := by decide +kernel
theorem dX9_become_61 : decode cX9_become 61 = .ok (.putfield 52, 3) := by decide +kernel
theorem dX9_become_64 : decode cX9_become 64 = .ok (.aload_n 0, 1) := by decide +kernel
theorem dX9_become_65 : decode cX9_become 65 = .ok (.aload_n 1, 1) := by decide +kernel
theorem dX9_become_66 : decode cX9_become 66 = .ok (.getfield 36, 3) := by decide +kernel
theorem dX9_become_69 : decode cX9_become 69 = .ok (.putfield 36, 3) := by decide +kernel
theorem dX9_become_72 : decode cX9_become 72 = .ok (.aload_n 0, 1) := by decide +kernel
theorem dX9_become_73 : decode cX9_become 73 = .ok (.aload_n 1, 1) := by decide +kernel
theorem dX9_become_74 : decode cX9_become 74 = .ok (.getfield 55, 3) := by decide +kernel
theorem dX9_become_77 : decode cX9_become 77 = .ok (.putfield 55, 3) := by decide +kernel
theorem dX9_become_80 : decode cX9_become 80 = .ok (.aload_n 0, 1) := by decide +kernel
theorem dX9_become_81 : decode cX9_become 81 = .ok (.aload_n 1, 1) := by decide +kernel
theorem dX9_become_82 : decode cX9_become 82 = .ok (.getfield 58, 3) := by decide +kernel
theorem dX9_become_85 : decode cX9_become 85 = .ok (.putfield 58, 3) := by decide +kernel
theorem dX9_become_88 : decode cX9_become 88 = .ok (.aload_n 0, 1) := by decide +kernel
theorem dX9_become_89 : decode cX9_become 89 = .ok (.aload_n 1, 1) := by decide +kernel
theorem dX9_become_90 : decode cX9_become 90 = .ok (.getfield 61, 3) := by decide +kernel
theorem dX9_become_93 : decode cX9_become 93 = .ok (.putfield 61, 3) := by decide +kernel
theorem dX9_become_96 : decode cX9_become 96 = .ok (.aload_n 0, 1) := by decide +kernel
theorem dX9_become_97 : decode cX9_become 97 = .ok (.aload_n 1, 1) := by decide +kernel
theorem dX9_become_98 : decode cX9_become 98 = .ok (.getfield 39, 3) := by decide +kernel
theorem dX9_become_101 : decode cX9_become 101 = .ok (.putfield 39, 3) := by decide +kernel
theorem dX9_become_104 : decode cX9_become 104 = .ok (.aload_n 1, 1) := by decide +kernel
theorem dX9_become_105 : decode cX9_become 105 = .ok (.getfield 11, 3) := by decide +kernel
theorem dX9_become_108 : decode cX9_become 108 = .ok (.iconst 0, 1) := by decide +kernel
theorem dX9_become_109 : decode cX9_become 109 = .ok (.aload_n 0, 1) := by decide +kernel
theorem dX9_become_110 : decode cX9_become 110 = .ok (.getfield 11, 3) := by decide +kernel
theorem dX9_become_113 : decode cX9_become 113 = .ok (.iconst 0, 1) := by decide +kernel
theorem dX9_become_114 : decode cX9_become 114 = .ok (.bipush 8, 2) := by decide +kernel
theorem dX9_become_116 : decode cX9_become 116 = .ok (.invokestatic 64, 3) := by decide +kernel
theorem dX9_become_119 : decode cX9_become 119 = .ok (.aload_n 1, 1) := by decide +kernel
theorem dX9_become_120 : decode cX9_become 120 = .ok (.getfield 17, 3) := by decide +kernel
theorem dX9_become_123 : decode cX9_become 123 = .ok (.iconst 0, 1) := by decide +kernel
theorem dX9_become_124 : decode cX9_become 124 = .ok (.aload_n 0, 1) := by decide +kernel
theorem dX9_become_125 : decode cX9_become 125 = .ok (.getfield 17, 3) := by decide +kernel
theorem dX9_become_128 : decode cX9_become 128 = .ok (.iconst 0, 1) := by decide +kernel
theorem dX9_become_129 : decode cX9_become 129 = .ok (.bipush 9, 2) := by decide +kernel
theorem dX9_become_131 : decode cX9_become 131 = .ok (.invokestatic 64, 3) := by decide +kernel
theorem dX9_become_134 : decode cX9_become 134 = .ok (.return_, 1) := by decide +kernel
theorem dX9_enter_0 : decode cX9_enter 0 = .ok (.aload_n 0, 1) := by decide +kernel
theorem dX9_enter_1 : decode cX9_enter 1 = .ok (.iload_n 1, 1) := by decide +kernel
theorem dX9_enter_2 : decode cX9_enter 2 = .ok (.putfield 49, 3) := by decide +kernel
theorem dX9_enter_5 : decode cX9_enter 5 = .ok (.aload_n 0, 1) := by decide +kernel
theorem dX9_enter_6 : decode cX9_enter 6 = .ok (.iload_n 2, 1) := by decide +kernel
theorem dX9_enter_7 : decode cX9_enter 7 = .ok (.putfield 52, 3) := by decide +kernel
theorem dX9_enter_10 : decode cX9_enter 10 = .ok (.return_, 1) := by decide +kernel
theorem dX9_begin_0 : decode cX9_begin 0 = .ok (.aload_n 0, 1) := by decide +kernel
theorem dX9_begin_1 : decode cX9_begin 1 = .ok (.iload_n 1, 1) := by decide +kernel
theorem dX9_begin_2 : decode cX9_begin 2 = .ok (.putfield 20, 3) := by decide +kernel
theorem dX9_begin_5 : decode cX9_begin 5 = .ok (.aload_n 0, 1) := by decide +kernel
theorem dX9_begin_6 : decode cX9_begin 6 = .ok (.iload_n 2, 1) := by decide +kernel
theorem dX9_begin_7 : decode cX9_begin 7 = .ok (.putfield 24, 3) := by decide +kernel
theorem dX9_begin_10 : decode cX9_begin 10 = .ok (.aload_n 0, 1) := by decide +kernel
theorem dX9_begin_11 : decode cX9_begin 11 = .ok (.iload_n 3, 1) := by decide +kernel
theorem dX9_begin_12 : decode cX9_begin 12 = .ok (.putfield 27, 3) := by decide +kernel
theorem dX9_begin_15 : decode cX9_begin 15 = .ok (.aload_n 0, 1) := by decide +kernel
theorem dX9_begin_16 : decode cX9_begin 16 = .ok (.iload 4, 2) := by decide +kernel
theorem dX9_begin_18 : decode cX9_begin 18 = .ok (.putfield 30, 3) := by decide +kernel
theorem dX9_begin_21 : decode cX9_begin 21 = .ok (.aload_n 0, 1) := by decide +kernel
theorem dX9_begin_22 : decode cX9_begin 22 = .ok (.iconst (-1), 1) := by decide +kernel
theorem dX9_begin_23 : decode cX9_begin 23 = .ok (.putfield 33, 3) := by decide +kernel
theorem dX9_begin_26 : decode cX9_begin 26 = .ok (.aload_n 0, 1) := by decide +kernel
theorem dX9_begin_27 : decode cX9_begin 27 = .ok (.iconst (-1), 1) := by decide +kernel
theorem dX9_begin_28 : decode cX9_begin 28 = .ok (.putfield 36, 3) := by decide +kernel
theorem dX9_begin_31 : decode cX9_begin 31 = .ok (.aload_n 0, 1) := by decide +kernel
theorem dX9_begin_32 : decode cX9_begin 32 = .ok (.iconst (-1), 1) := by decide +kernel
theorem dX9_begin_33 : decode cX9_begin 33 = .ok (.putfield 39, 3) := by decide +kernel
theorem dX9_begin_36 : decode cX9_begin 36 = .ok (.aload_n 0, 1) := by decide +kernel
theorem dX9_begin_37 : decode cX9_begin 37 = .ok (.iconst 0, 1) := by decide +kernel
theorem dX9_begin_38 : decode cX9_begin 38 = .ok (.iload 5, 2) := by decide +kernel
theorem dX9_begin_40 : decode cX9_begin 40 = .ok (.invokevirtual 42, 3) := by decide +kernel
theorem dX9_begin_43 : decode cX9_begin 43 = .ok (.return_, 1) := by decide +kernel
theorem dX9_lateTicks_0 : decode cX9_lateTicks 0 = .ok (.iconst 0, 1) := by decide +kernel
theorem dX9_lateTicks_1 : decode cX9_lateTicks 1 = .ok (.istore_n 1, 1) := by decide +kernel
theorem dX9_lateTicks_2 : decode cX9_lateTicks 2 = .ok (.iconst 0, 1) := by decide +kernel
theorem dX9_lateTicks_3 : decode cX9_lateTicks 3 = .ok (.istore_n 2, 1) := by decide +kernel
theorem dX9_lateTicks_4 : decode cX9_lateTicks 4 = .ok (.iload_n 2, 1) := by decide +kernel
theorem dX9_lateTicks_5 : decode cX9_lateTicks 5 = .ok (.bipush 9, 2) := by decide +kernel
theorem dX9_lateTicks_7 : decode cX9_lateTicks 7 = .ok (.if_icmp .ge 18, 3) := by decide +kernel
theorem dX9_lateTicks_10 : decode cX9_lateTicks 10 = .ok (.iload_n 1, 1) := by decide +kernel
theorem dX9_lateTicks_11 : decode cX9_lateTicks 11 = .ok (.aload_n 0, 1) := by decide +kernel
theorem dX9_lateTicks_12 : decode cX9_lateTicks 12 = .ok (.getfield 17, 3) := by decide +kernel
theorem dX9_lateTicks_15 : decode cX9_lateTicks 15 = .ok (.iload_n 2, 1) := by decide +kernel
theorem dX9_lateTicks_16 : decode cX9_lateTicks 16 = .ok (.iaload, 1) := by decide +kernel
theorem dX9_lateTicks_17 : decode cX9_lateTicks 17 = .ok (.iadd, 1) := by decide +kernel
theorem dX9_lateTicks_18 : decode cX9_lateTicks 18 = .ok (.istore_n 1, 1) := by decide +kernel
theorem dX9_lateTicks_19 : decode cX9_lateTicks 19 = .ok (.iinc 2 1, 3) := by decide +kernel
theorem dX9_lateTicks_22 : decode cX9_lateTicks 22 = .ok (.goto (-18), 3) := by decide +kernel
theorem dX9_lateTicks_25 : decode cX9_lateTicks 25 = .ok (.iload_n 1, 1) := by decide +kernel
theorem dX9_lateTicks_26 : decode cX9_lateTicks 26 = .ok (.ireturn, 1) := by decide +kernel
theorem dX9_comes_0 : decode cX9_comes 0 = .ok (.aload_n 0, 1) := by decide +kernel
theorem dX9_comes_1 : decode cX9_comes 1 = .ok (.getfield 24, 3) := by decide +kernel
theorem dX9_comes_4 : decode cX9_comes 4 = .ok (.aload_n 0, 1) := by decide +kernel
theorem dX9_comes_5 : decode cX9_comes 5 = .ok (.getfield 46, 3) := by decide +kernel
theorem dX9_comes_8 : decode cX9_comes 8 = .ok (.iadd, 1) := by decide +kernel
theorem dX9_comes_9 : decode cX9_comes 9 = .ok (.ireturn, 1) := by decide +kernel
theorem dX9_isUnder_0 : decode cX9_isUnder 0 = .ok (.aload_n 0, 1) := by decide +kernel
theorem dX9_isUnder_1 : decode cX9_isUnder 1 = .ok (.getfield 58, 3) := by decide +kernel
theorem dX9_isUnder_4 : decode cX9_isUnder 4 = .ok (.iload_n 1, 1) := by decide +kernel
theorem dX9_isUnder_5 : decode cX9_isUnder 5 = .ok (.ishr, 1) := by decide +kernel
theorem dX9_isUnder_6 : decode cX9_isUnder 6 = .ok (.iconst 1, 1) := by decide +kernel
theorem dX9_isUnder_7 : decode cX9_isUnder 7 = .ok (.iand, 1) := by decide +kernel
theorem dX9_isUnder_8 : decode cX9_isUnder 8 = .ok (.iconst 1, 1) := by decide +kernel
theorem dX9_isUnder_9 : decode cX9_isUnder 9 = .ok (.if_icmp .ne 7, 3) := by decide +kernel
theorem dX9_isUnder_12 : decode cX9_isUnder 12 = .ok (.iconst 1, 1) := by decide +kernel
theorem dX9_isUnder_13 : decode cX9_isUnder 13 = .ok (.goto 4, 3) := by decide +kernel
theorem dX9_isUnder_16 : decode cX9_isUnder 16 = .ok (.iconst 0, 1) := by decide +kernel
theorem dX9_isUnder_17 : decode cX9_isUnder 17 = .ok (.ireturn, 1) := by decide +kernel
theorem dX9_endAct_0 : decode cX9_endAct 0 = .ok (.aload_n 0, 1) := by decide +kernel
theorem dX9_endAct_1 : decode cX9_endAct 1 = .ok (.dup, 1) := by decide +kernel
theorem dX9_endAct_2 : decode cX9_endAct 2 = .ok (.getfield 58, 3) := by decide +kernel
theorem dX9_endAct_5 : decode cX9_endAct 5 = .ok (.iconst 1, 1) := by decide +kernel
theorem dX9_endAct_6 : decode cX9_endAct 6 = .ok (.iload_n 1, 1) := by decide +kernel
theorem dX9_endAct_7 : decode cX9_endAct 7 = .ok (.ishl, 1) := by decide +kernel
theorem dX9_endAct_8 : decode cX9_endAct 8 = .ok (.iconst (-1), 1) := by decide +kernel
theorem dX9_endAct_9 : decode cX9_endAct 9 = .ok (.ixor, 1) := by decide +kernel
theorem dX9_endAct_10 : decode cX9_endAct 10 = .ok (.iand, 1) := by decide +kernel
theorem dX9_endAct_11 : decode cX9_endAct 11 = .ok (.putfield 58, 3) := by decide +kernel
theorem dX9_endAct_14 : decode cX9_endAct 14 = .ok (.aload_n 0, 1) := by decide +kernel
theorem dX9_endAct_15 : decode cX9_endAct 15 = .ok (.dup, 1) := by decide +kernel
theorem dX9_endAct_16 : decode cX9_endAct 16 = .ok (.getfield 55, 3) := by decide +kernel
theorem dX9_endAct_19 : decode cX9_endAct 19 = .ok (.iconst 1, 1) := by decide +kernel
theorem dX9_endAct_20 : decode cX9_endAct 20 = .ok (.iload_n 1, 1) := by decide +kernel
theorem dX9_endAct_21 : decode cX9_endAct 21 = .ok (.ishl, 1) := by decide +kernel
theorem dX9_endAct_22 : decode cX9_endAct 22 = .ok (.ior, 1) := by decide +kernel
theorem dX9_endAct_23 : decode cX9_endAct 23 = .ok (.putfield 55, 3) := by decide +kernel
theorem dX9_endAct_26 : decode cX9_endAct 26 = .ok (.return_, 1) := by decide +kernel
theorem dX9_isDone_0 : decode cX9_isDone 0 = .ok (.aload_n 0, 1) := by decide +kernel
theorem dX9_isDone_1 : decode cX9_isDone 1 = .ok (.getfield 55, 3) := by decide +kernel
theorem dX9_isDone_4 : decode cX9_isDone 4 = .ok (.iload_n 1, 1) := by decide +kernel
theorem dX9_isDone_5 : decode cX9_isDone 5 = .ok (.ishr, 1) := by decide +kernel
theorem dX9_isDone_6 : decode cX9_isDone 6 = .ok (.iconst 1, 1) := by decide +kernel
theorem dX9_isDone_7 : decode cX9_isDone 7 = .ok (.iand, 1) := by decide +kernel
theorem dX9_isDone_8 : decode cX9_isDone 8 = .ok (.iconst 1, 1) := by decide +kernel
theorem dX9_isDone_9 : decode cX9_isDone 9 = .ok (.if_icmp .ne 7, 3) := by decide +kernel
theorem dX9_isDone_12 : decode cX9_isDone 12 = .ok (.iconst 1, 1) := by decide +kernel
theorem dX9_isDone_13 : decode cX9_isDone 13 = .ok (.goto 4, 3) := by decide +kernel
theorem dX9_isDone_16 : decode cX9_isDone 16 = .ok (.iconst 0, 1) := by decide +kernel
theorem dX9_isDone_17 : decode cX9_isDone 17 = .ok (.ireturn, 1) := by decide +kernel
theorem dX9_mayBegin_0 : decode cX9_mayBegin 0 = .ok (.iload_n 1, 1) := by decide +kernel
theorem dX9_mayBegin_1 : decode cX9_mayBegin 1 = .ok (.invokestatic 70, 3) := by decide +kernel
theorem dX9_mayBegin_4 : decode cX9_mayBegin 4 = .ok (.aload_n 0, 1) := by decide +kernel
theorem dX9_mayBegin_5 : decode cX9_mayBegin 5 = .ok (.getfield 55, 3) := by decide +kernel
theorem dX9_mayBegin_8 : decode cX9_mayBegin 8 = .ok (.iconst (-1), 1) := by decide +kernel
theorem dX9_mayBegin_9 : decode cX9_mayBegin 9 = .ok (.ixor, 1) := by decide +kernel
theorem dX9_mayBegin_10 : decode cX9_mayBegin 10 = .ok (.iand, 1) := by decide +kernel
theorem dX9_mayBegin_11 : decode cX9_mayBegin 11 = .ok (.ifCond .ne 7, 3) := by decide +kernel
theorem dX9_mayBegin_14 : decode cX9_mayBegin 14 = .ok (.iconst 1, 1) := by decide +kernel
theorem dX9_mayBegin_15 : decode cX9_mayBegin 15 = .ok (.goto 4, 3) := by decide +kernel
theorem dX9_mayBegin_18 : decode cX9_mayBegin 18 = .ok (.iconst 0, 1) := by decide +kernel
theorem dX9_mayBegin_19 : decode cX9_mayBegin 19 = .ok (.ireturn, 1) := by decide +kernel
theorem dX9_limit_0 : decode cX9_limit 0 = .ok (.aload_n 0, 1) := by decide +kernel
theorem dX9_limit_1 : decode cX9_limit 1 = .ok (.getfield 24, 3) := by decide +kernel
theorem dX9_limit_4 : decode cX9_limit 4 = .ok (.aload_n 0, 1) := by decide +kernel
theorem dX9_limit_5 : decode cX9_limit 5 = .ok (.getfield 46, 3) := by decide +kernel
theorem dX9_limit_8 : decode cX9_limit 8 = .ok (.iadd, 1) := by decide +kernel
theorem dX9_limit_9 : decode cX9_limit 9 = .ok (.aload_n 0, 1) := by decide +kernel
theorem dX9_limit_10 : decode cX9_limit 10 = .ok (.getfield 30, 3) := by decide +kernel
theorem dX9_limit_13 : decode cX9_limit 13 = .ok (.iadd, 1) := by decide +kernel
theorem dX9_limit_14 : decode cX9_limit 14 = .ok (.ireturn, 1) := by decide +kernel
theorem dX6_joined_0 : decode cX6_joined 0 = .ok (.iload_n 0, 1) := by decide +kernel
theorem dX6_joined_1 : decode cX6_joined 1 = .ok (.tableswitch 101 10008 10014 #[43, 57, 101, 71, 82, 93, 97], 43) := by decide +kernel
theorem dX6_joined_44 : decode cX6_joined 44 = .ok (.iload_n 1, 1) := by decide +kernel
theorem dX6_joined_45 : decode cX6_joined 45 = .ok (.ifCond .ne 7, 3) := by decide +kernel
theorem dX6_joined_48 : decode cX6_joined 48 = .ok (.iload_n 2, 1) := by decide +kernel
theorem dX6_joined_49 : decode cX6_joined 49 = .ok (.ifCond .eq 7, 3) := by decide +kernel
theorem dX6_joined_52 : decode cX6_joined 52 = .ok (.iconst 1, 1) := by decide +kernel
theorem dX6_joined_53 : decode cX6_joined 53 = .ok (.goto 4, 3) := by decide +kernel
theorem dX6_joined_56 : decode cX6_joined 56 = .ok (.iconst 0, 1) := by decide +kernel
theorem dX6_joined_57 : decode cX6_joined 57 = .ok (.ireturn, 1) := by decide +kernel
theorem dX6_joined_58 : decode cX6_joined 58 = .ok (.iload_n 1, 1) := by decide +kernel
theorem dX6_joined_59 : decode cX6_joined 59 = .ok (.ifCond .eq 11, 3) := by decide +kernel
theorem dX6_joined_62 : decode cX6_joined 62 = .ok (.iload_n 2, 1) := by decide +kernel
theorem dX6_joined_63 : decode cX6_joined 63 = .ok (.ifCond .eq 7, 3) := by decide +kernel
theorem dX6_joined_66 : decode cX6_joined 66 = .ok (.iconst 1, 1) := by decide +kernel
theorem dX6_joined_67 : decode cX6_joined 67 = .ok (.goto 4, 3) := by decide +kernel
theorem dX6_joined_70 : decode cX6_joined 70 = .ok (.iconst 0, 1) := by decide +kernel
theorem dX6_joined_71 : decode cX6_joined 71 = .ok (.ireturn, 1) := by decide +kernel
theorem dX6_joined_72 : decode cX6_joined 72 = .ok (.iload_n 1, 1) := by decide +kernel
theorem dX6_joined_73 : decode cX6_joined 73 = .ok (.iload_n 2, 1) := by decide +kernel
theorem dX6_joined_74 : decode cX6_joined 74 = .ok (.if_icmp .ge 7, 3) := by decide +kernel
theorem dX6_joined_77 : decode cX6_joined 77 = .ok (.iconst 1, 1) := by decide +kernel
theorem dX6_joined_78 : decode cX6_joined 78 = .ok (.goto 4, 3) := by decide +kernel
theorem dX6_joined_81 : decode cX6_joined 81 = .ok (.iconst 0, 1) := by decide +kernel
theorem dX6_joined_82 : decode cX6_joined 82 = .ok (.ireturn, 1) := by decide +kernel
theorem dX6_joined_83 : decode cX6_joined 83 = .ok (.iload_n 1, 1) := by decide +kernel
theorem dX6_joined_84 : decode cX6_joined 84 = .ok (.iload_n 2, 1) := by decide +kernel
theorem dX6_joined_85 : decode cX6_joined 85 = .ok (.if_icmp .ne 7, 3) := by decide +kernel
theorem dX6_joined_88 : decode cX6_joined 88 = .ok (.iconst 1, 1) := by decide +kernel
theorem dX6_joined_89 : decode cX6_joined 89 = .ok (.goto 4, 3) := by decide +kernel
theorem dX6_joined_92 : decode cX6_joined 92 = .ok (.iconst 0, 1) := by decide +kernel
theorem dX6_joined_93 : decode cX6_joined 93 = .ok (.ireturn, 1) := by decide +kernel
theorem dX6_joined_94 : decode cX6_joined 94 = .ok (.iload_n 1, 1) := by decide +kernel
theorem dX6_joined_95 : decode cX6_joined 95 = .ok (.iload_n 2, 1) := by decide +kernel
theorem dX6_joined_96 : decode cX6_joined 96 = .ok (.iadd, 1) := by decide +kernel
theorem dX6_joined_97 : decode cX6_joined 97 = .ok (.ireturn, 1) := by decide +kernel
theorem dX6_joined_98 : decode cX6_joined 98 = .ok (.iload_n 1, 1) := by decide +kernel
theorem dX6_joined_99 : decode cX6_joined 99 = .ok (.iload_n 2, 1) := by decide +kernel
theorem dX6_joined_100 : decode cX6_joined 100 = .ok (.isub, 1) := by decide +kernel
theorem dX6_joined_101 : decode cX6_joined 101 = .ok (.ireturn, 1) := by decide +kernel
theorem dX6_joined_102 : decode cX6_joined 102 = .ok (.iload_n 1, 1) := by decide +kernel
theorem dX6_joined_103 : decode cX6_joined 103 = .ok (.iload_n 2, 1) := by decide +kernel
theorem dX6_joined_104 : decode cX6_joined 104 = .ok (.imul, 1) := by decide +kernel
theorem dX6_joined_105 : decode cX6_joined 105 = .ok (.ireturn, 1) := by decide +kernel
theorem dX6_says_0 : decode cX6_says 0 = .ok (.iconst 0, 1) := by decide +kernel
theorem dX6_says_1 : decode cX6_says 1 = .ok (.istore_n 3, 1) := by decide +kernel
theorem dX6_says_2 : decode cX6_says 2 = .ok (.aload_n 0, 1) := by decide +kernel
theorem dX6_says_3 : decode cX6_says 3 = .ok (.getfield 15, 3) := by decide +kernel
theorem dX6_says_6 : decode cX6_says 6 = .ok (.iload_n 1, 1) := by decide +kernel
theorem dX6_says_7 : decode cX6_says 7 = .ok (.iaload, 1) := by decide +kernel
theorem dX6_says_8 : decode cX6_says 8 = .ok (.istore 4, 2) := by decide +kernel
theorem dX6_says_10 : decode cX6_says 10 = .ok (.iload_n 1, 1) := by decide +kernel
theorem dX6_says_11 : decode cX6_says 11 = .ok (.ifCond .ne 7, 3) := by decide +kernel
theorem dX6_says_14 : decode cX6_says 14 = .ok (.iconst 0, 1) := by decide +kernel
theorem dX6_says_15 : decode cX6_says 15 = .ok (.goto 11, 3) := by decide +kernel
theorem dX6_says_18 : decode cX6_says 18 = .ok (.aload_n 0, 1) := by decide +kernel
theorem dX6_says_19 : decode cX6_says 19 = .ok (.getfield 15, 3) := by decide +kernel
theorem dX6_says_22 : decode cX6_says 22 = .ok (.iload_n 1, 1) := by decide +kernel
theorem dX6_says_23 : decode cX6_says 23 = .ok (.iconst 1, 1) := by decide +kernel
theorem dX6_says_24 : decode cX6_says 24 = .ok (.isub, 1) := by decide +kernel
theorem dX6_says_25 : decode cX6_says 25 = .ok (.iaload, 1) := by decide +kernel
theorem dX6_says_26 : decode cX6_says 26 = .ok (.istore 5, 2) := by decide +kernel
theorem dX6_says_28 : decode cX6_says 28 = .ok (.iload 5, 2) := by decide +kernel
theorem dX6_says_30 : decode cX6_says 30 = .ok (.iload 4, 2) := by decide +kernel
theorem dX6_says_32 : decode cX6_says 32 = .ok (.if_icmp .ge 192, 3) := by decide +kernel
theorem dX6_says_35 : decode cX6_says 35 = .ok (.aload_n 0, 1) := by decide +kernel
theorem dX6_says_36 : decode cX6_says 36 = .ok (.getfield 11, 3) := by decide +kernel
theorem dX6_says_39 : decode cX6_says 39 = .ok (.iload 5, 2) := by decide +kernel
theorem dX6_says_41 : decode cX6_says 41 = .ok (.iaload, 1) := by decide +kernel
theorem dX6_says_42 : decode cX6_says 42 = .ok (.istore 6, 2) := by decide +kernel
theorem dX6_says_44 : decode cX6_says 44 = .ok (.iload 6, 2) := by decide +kernel
theorem dX6_says_46 : decode cX6_says 46 = .ok (.sipush 10000, 3) := by decide +kernel
theorem dX6_says_49 : decode cX6_says 49 = .ok (.if_icmp .ge 26, 3) := by decide +kernel
theorem dX6_says_52 : decode cX6_says 52 = .ok (.iload_n 3, 1) := by decide +kernel
theorem dX6_says_53 : decode cX6_says 53 = .ok (.aload_n 0, 1) := by decide +kernel
theorem dX6_says_54 : decode cX6_says 54 = .ok (.getfield 18, 3) := by decide +kernel
theorem dX6_says_57 : decode cX6_says 57 = .ok (.arraylength, 1) := by decide +kernel
theorem dX6_says_58 : decode cX6_says 58 = .ok (.if_icmp .ge 17, 3) := by decide +kernel
theorem dX6_says_61 : decode cX6_says 61 = .ok (.aload_n 0, 1) := by decide +kernel
theorem dX6_says_62 : decode cX6_says 62 = .ok (.getfield 18, 3) := by decide +kernel
theorem dX6_says_65 : decode cX6_says 65 = .ok (.iload_n 3, 1) := by decide +kernel
theorem dX6_says_66 : decode cX6_says 66 = .ok (.iload 6, 2) := by decide +kernel
theorem dX6_says_68 : decode cX6_says 68 = .ok (.iastore, 1) := by decide +kernel
theorem dX6_says_69 : decode cX6_says 69 = .ok (.iinc 3 1, 3) := by decide +kernel
theorem dX6_says_72 : decode cX6_says 72 = .ok (.goto 146, 3) := by decide +kernel
theorem dX6_says_75 : decode cX6_says 75 = .ok (.iload 6, 2) := by decide +kernel
theorem dX6_says_77 : decode cX6_says 77 = .ok (.sipush 10008, 3) := by decide +kernel
theorem dX6_says_80 : decode cX6_says 80 = .ok (.if_icmp .ge 32, 3) := by decide +kernel
theorem dX6_says_83 : decode cX6_says 83 = .ok (.iload_n 3, 1) := by decide +kernel
theorem dX6_says_84 : decode cX6_says 84 = .ok (.aload_n 0, 1) := by decide +kernel
theorem dX6_says_85 : decode cX6_says 85 = .ok (.getfield 18, 3) := by decide +kernel
theorem dX6_says_88 : decode cX6_says 88 = .ok (.arraylength, 1) := by decide +kernel
theorem dX6_says_89 : decode cX6_says 89 = .ok (.if_icmp .ge 23, 3) := by decide +kernel
theorem dX6_says_92 : decode cX6_says 92 = .ok (.aload_n 0, 1) := by decide +kernel
theorem dX6_says_93 : decode cX6_says 93 = .ok (.getfield 18, 3) := by decide +kernel
theorem dX6_says_96 : decode cX6_says 96 = .ok (.iload_n 3, 1) := by decide +kernel
theorem dX6_says_97 : decode cX6_says 97 = .ok (.aload_n 2, 1) := by decide +kernel
theorem dX6_says_98 : decode cX6_says 98 = .ok (.iload 6, 2) := by decide +kernel
theorem dX6_says_100 : decode cX6_says 100 = .ok (.sipush 10000, 3) := by decide +kernel
theorem dX6_says_103 : decode cX6_says 103 = .ok (.isub, 1) := by decide +kernel
theorem dX6_says_104 : decode cX6_says 104 = .ok (.iaload, 1) := by decide +kernel
theorem dX6_says_105 : decode cX6_says 105 = .ok (.iastore, 1) := by decide +kernel
theorem dX6_says_106 : decode cX6_says 106 = .ok (.iinc 3 1, 3) := by decide +kernel
theorem dX6_says_109 : decode cX6_says 109 = .ok (.goto 109, 3) := by decide +kernel
theorem dX6_says_112 : decode cX6_says 112 = .ok (.iload 6, 2) := by decide +kernel
theorem dX6_says_114 : decode cX6_says 114 = .ok (.sipush 10016, 3) := by decide +kernel
theorem dX6_says_117 : decode cX6_says 117 = .ok (.if_icmp .ne 27, 3) := by decide +kernel
theorem dX6_says_120 : decode cX6_says 120 = .ok (.iload_n 3, 1) := by decide +kernel
theorem dX6_says_121 : decode cX6_says 121 = .ok (.ifCond .le 23, 3) := by decide +kernel
theorem dX6_says_124 : decode cX6_says 124 = .ok (.aload_n 0, 1) := by decide +kernel
theorem dX6_says_125 : decode cX6_says 125 = .ok (.getfield 18, 3) := by decide +kernel
theorem dX6_says_128 : decode cX6_says 128 = .ok (.iload_n 3, 1) := by decide +kernel
theorem dX6_says_129 : decode cX6_says 129 = .ok (.iconst 1, 1) := by decide +kernel
theorem dX6_says_130 : decode cX6_says 130 = .ok (.isub, 1) := by decide +kernel
theorem dX6_says_131 : decode cX6_says 131 = .ok (.aload_n 0, 1) := by decide +kernel
theorem dX6_says_132 : decode cX6_says 132 = .ok (.getfield 18, 3) := by decide +kernel
theorem dX6_says_135 : decode cX6_says 135 = .ok (.iload_n 3, 1) := by decide +kernel
theorem dX6_says_136 : decode cX6_says 136 = .ok (.iconst 1, 1) := by decide +kernel
theorem dX6_says_137 : decode cX6_says 137 = .ok (.isub, 1) := by decide +kernel
theorem dX6_says_138 : decode cX6_says 138 = .ok (.iaload, 1) := by decide +kernel
theorem dX6_says_139 : decode cX6_says 139 = .ok (.ineg, 1) := by decide +kernel
theorem dX6_says_140 : decode cX6_says 140 = .ok (.iastore, 1) := by decide +kernel
theorem dX6_says_141 : decode cX6_says 141 = .ok (.goto 77, 3) := by decide +kernel
theorem dX6_says_144 : decode cX6_says 144 = .ok (.iload 6, 2) := by decide +kernel
theorem dX6_says_146 : decode cX6_says 146 = .ok (.sipush 10010, 3) := by decide +kernel
theorem dX6_says_149 : decode cX6_says 149 = .ok (.if_icmp .ne 34, 3) := by decide +kernel
theorem dX6_says_152 : decode cX6_says 152 = .ok (.iload_n 3, 1) := by decide +kernel
theorem dX6_says_153 : decode cX6_says 153 = .ok (.ifCond .le 30, 3) := by decide +kernel
theorem dX6_says_156 : decode cX6_says 156 = .ok (.aload_n 0, 1) := by decide +kernel
theorem dX6_says_157 : decode cX6_says 157 = .ok (.getfield 18, 3) := by decide +kernel
theorem dX6_says_160 : decode cX6_says 160 = .ok (.iload_n 3, 1) := by decide +kernel
theorem dX6_says_161 : decode cX6_says 161 = .ok (.iconst 1, 1) := by decide +kernel
theorem dX6_says_162 : decode cX6_says 162 = .ok (.isub, 1) := by decide +kernel
theorem dX6_says_163 : decode cX6_says 163 = .ok (.aload_n 0, 1) := by decide +kernel
theorem dX6_says_164 : decode cX6_says 164 = .ok (.getfield 18, 3) := by decide +kernel
theorem dX6_says_167 : decode cX6_says 167 = .ok (.iload_n 3, 1) := by decide +kernel
theorem dX6_says_168 : decode cX6_says 168 = .ok (.iconst 1, 1) := by decide +kernel
theorem dX6_says_169 : decode cX6_says 169 = .ok (.isub, 1) := by decide +kernel
theorem dX6_says_170 : decode cX6_says 170 = .ok (.iaload, 1) := by decide +kernel
theorem dX6_says_171 : decode cX6_says 171 = .ok (.ifCond .ne 7, 3) := by decide +kernel
theorem dX6_says_174 : decode cX6_says 174 = .ok (.iconst 1, 1) := by decide +kernel
theorem dX6_says_175 : decode cX6_says 175 = .ok (.goto 4, 3) := by decide +kernel
theorem dX6_says_178 : decode cX6_says 178 = .ok (.iconst 0, 1) := by decide +kernel
theorem dX6_says_179 : decode cX6_says 179 = .ok (.iastore, 1) := by decide +kernel
theorem dX6_says_180 : decode cX6_says 180 = .ok (.goto 38, 3) := by decide +kernel
theorem dX6_says_183 : decode cX6_says 183 = .ok (.iload_n 3, 1) := by decide +kernel
theorem dX6_says_184 : decode cX6_says 184 = .ok (.iconst 1, 1) := by decide +kernel
theorem dX6_says_185 : decode cX6_says 185 = .ok (.if_icmp .le 33, 3) := by decide +kernel
theorem dX6_says_188 : decode cX6_says 188 = .ok (.iinc 3 (-1), 3) := by decide +kernel
theorem dX6_says_191 : decode cX6_says 191 = .ok (.aload_n 0, 1) := by decide +kernel
theorem dX6_says_192 : decode cX6_says 192 = .ok (.getfield 18, 3) := by decide +kernel
theorem dX6_says_195 : decode cX6_says 195 = .ok (.iload_n 3, 1) := by decide +kernel
theorem dX6_says_196 : decode cX6_says 196 = .ok (.iconst 1, 1) := by decide +kernel
theorem dX6_says_197 : decode cX6_says 197 = .ok (.isub, 1) := by decide +kernel
theorem dX6_says_198 : decode cX6_says 198 = .ok (.iload 6, 2) := by decide +kernel
theorem dX6_says_200 : decode cX6_says 200 = .ok (.aload_n 0, 1) := by decide +kernel
theorem dX6_says_201 : decode cX6_says 201 = .ok (.getfield 18, 3) := by decide +kernel
theorem dX6_says_204 : decode cX6_says 204 = .ok (.iload_n 3, 1) := by decide +kernel
theorem dX6_says_205 : decode cX6_says 205 = .ok (.iconst 1, 1) := by decide +kernel
theorem dX6_says_206 : decode cX6_says 206 = .ok (.isub, 1) := by decide +kernel
theorem dX6_says_207 : decode cX6_says 207 = .ok (.iaload, 1) := by decide +kernel
theorem dX6_says_208 : decode cX6_says 208 = .ok (.aload_n 0, 1) := by decide +kernel
theorem dX6_says_209 : decode cX6_says 209 = .ok (.getfield 18, 3) := by decide +kernel
theorem dX6_says_212 : decode cX6_says 212 = .ok (.iload_n 3, 1) := by decide +kernel
theorem dX6_says_213 : decode cX6_says 213 = .ok (.iaload, 1) := by decide +kernel
theorem dX6_says_214 : decode cX6_says 214 = .ok (.invokestatic 25, 3) := by decide +kernel
theorem dX6_says_217 : decode cX6_says 217 = .ok (.iastore, 1) := by decide +kernel
theorem dX6_says_218 : decode cX6_says 218 = .ok (.iinc 5 1, 3) := by decide +kernel
theorem dX6_says_221 : decode cX6_says 221 = .ok (.goto (-193), 3) := by decide +kernel
theorem dX6_says_224 : decode cX6_says 224 = .ok (.aload_n 0, 1) := by decide +kernel
theorem dX6_says_225 : decode cX6_says 225 = .ok (.getfield 18, 3) := by decide +kernel
theorem dX6_says_228 : decode cX6_says 228 = .ok (.iconst 0, 1) := by decide +kernel
theorem dX6_says_229 : decode cX6_says 229 = .ok (.iaload, 1) := by decide +kernel
theorem dX6_says_230 : decode cX6_says 230 = .ok (.ireturn, 1) := by decide +kernel
theorem dX9_startAct_0 : decode cX9_startAct 0 = .ok (.aload_n 0, 1) := by decide +kernel
theorem dX9_startAct_1 : decode cX9_startAct 1 = .ok (.dup, 1) := by decide +kernel
theorem dX9_startAct_2 : decode cX9_startAct 2 = .ok (.getfield 58, 3) := by decide +kernel
theorem dX9_startAct_5 : decode cX9_startAct 5 = .ok (.iconst 1, 1) := by decide +kernel
theorem dX9_startAct_6 : decode cX9_startAct 6 = .ok (.iload_n 1, 1) := by decide +kernel
theorem dX9_startAct_7 : decode cX9_startAct 7 = .ok (.ishl, 1) := by decide +kernel
theorem dX9_startAct_8 : decode cX9_startAct 8 = .ok (.ior, 1) := by decide +kernel
theorem dX9_startAct_9 : decode cX9_startAct 9 = .ok (.putfield 58, 3) := by decide +kernel
theorem dX9_startAct_12 : decode cX9_startAct 12 = .ok (.aload_n 0, 1) := by decide +kernel
theorem dX9_startAct_13 : decode cX9_startAct 13 = .ok (.getfield 11, 3) := by decide +kernel
theorem dX9_startAct_16 : decode cX9_startAct 16 = .ok (.iload_n 1, 1) := by decide +kernel
theorem dX9_startAct_17 : decode cX9_startAct 17 = .ok (.aload_n 0, 1) := by decide +kernel
theorem dX9_startAct_18 : decode cX9_startAct 18 = .ok (.getfield 20, 3) := by decide +kernel
theorem dX9_startAct_21 : decode cX9_startAct 21 = .ok (.iload_n 1, 1) := by decide +kernel
theorem dX9_startAct_22 : decode cX9_startAct 22 = .ok (.invokestatic 74, 3) := by decide +kernel
theorem dX9_startAct_25 : decode cX9_startAct 25 = .ok (.iastore, 1) := by decide +kernel
theorem dX9_startAct_26 : decode cX9_startAct 26 = .ok (.return_, 1) := by decide +kernel
theorem dX9_needsIce_0 : decode cX9_needsIce 0 = .ok (.iload_n 1, 1) := by decide +kernel
theorem dX9_needsIce_1 : decode cX9_needsIce 1 = .ok (.iconst 1, 1) := by decide +kernel
theorem dX9_needsIce_2 : decode cX9_needsIce 2 = .ok (.if_icmp .ne 25, 3) := by decide +kernel
theorem dX9_needsIce_5 : decode cX9_needsIce 5 = .ok (.aload_n 0, 1) := by decide +kernel
theorem dX9_needsIce_6 : decode cX9_needsIce 6 = .ok (.getfield 39, 3) := by decide +kernel
theorem dX9_needsIce_9 : decode cX9_needsIce 9 = .ok (.ifCond .lt 14, 3) := by decide +kernel
theorem dX9_needsIce_12 : decode cX9_needsIce 12 = .ok (.iload_n 2, 1) := by decide +kernel
theorem dX9_needsIce_13 : decode cX9_needsIce 13 = .ok (.aload_n 0, 1) := by decide +kernel
theorem dX9_needsIce_14 : decode cX9_needsIce 14 = .ok (.getfield 39, 3) := by decide +kernel
theorem dX9_needsIce_17 : decode cX9_needsIce 17 = .ok (.isub, 1) := by decide +kernel
theorem dX9_needsIce_18 : decode cX9_needsIce 18 = .ok (.bipush 40, 2) := by decide +kernel
theorem dX9_needsIce_20 : decode cX9_needsIce 20 = .ok (.if_icmp .le 7, 3) := by decide +kernel
theorem dX9_needsIce_23 : decode cX9_needsIce 23 = .ok (.iconst 1, 1) := by decide +kernel
theorem dX9_needsIce_24 : decode cX9_needsIce 24 = .ok (.goto 4, 3) := by decide +kernel
theorem dX9_needsIce_27 : decode cX9_needsIce 27 = .ok (.iconst 0, 1) := by decide +kernel
theorem dX9_needsIce_28 : decode cX9_needsIce 28 = .ok (.ireturn, 1) := by decide +kernel
theorem dX6_clear_0 : decode cX6_clear 0 = .ok (.aload_n 0, 1) := by decide +kernel
theorem dX6_clear_1 : decode cX6_clear 1 = .ok (.iconst 0, 1) := by decide +kernel
theorem dX6_clear_2 : decode cX6_clear 2 = .ok (.putfield 21, 3) := by decide +kernel
theorem dX6_clear_5 : decode cX6_clear 5 = .ok (.return_, 1) := by decide +kernel
theorem dX6_put_0 : decode cX6_put 0 = .ok (.aload_n 0, 1) := by decide +kernel
theorem dX6_put_1 : decode cX6_put 1 = .ok (.getfield 21, 3) := by decide +kernel
theorem dX6_put_4 : decode cX6_put 4 = .ok (.aload_n 0, 1) := by decide +kernel
theorem dX6_put_5 : decode cX6_put 5 = .ok (.getfield 11, 3) := by decide +kernel
theorem dX6_put_8 : decode cX6_put 8 = .ok (.arraylength, 1) := by decide +kernel
theorem dX6_put_9 : decode cX6_put 9 = .ok (.if_icmp .ge 23, 3) := by decide +kernel
theorem dX6_put_12 : decode cX6_put 12 = .ok (.aload_n 0, 1) := by decide +kernel
theorem dX6_put_13 : decode cX6_put 13 = .ok (.getfield 11, 3) := by decide +kernel
theorem dX6_put_16 : decode cX6_put 16 = .ok (.aload_n 0, 1) := by decide +kernel
theorem dX6_put_17 : decode cX6_put 17 = .ok (.getfield 21, 3) := by decide +kernel
theorem dX6_put_20 : decode cX6_put 20 = .ok (.iload_n 1, 1) := by decide +kernel
theorem dX6_put_21 : decode cX6_put 21 = .ok (.iastore, 1) := by decide +kernel
theorem dX6_put_22 : decode cX6_put 22 = .ok (.aload_n 0, 1) := by decide +kernel
theorem dX6_put_23 : decode cX6_put 23 = .ok (.dup, 1) := by decide +kernel
theorem dX6_put_24 : decode cX6_put 24 = .ok (.getfield 21, 3) := by decide +kernel
theorem dX6_put_27 : decode cX6_put 27 = .ok (.iconst 1, 1) := by decide +kernel
theorem dX6_put_28 : decode cX6_put 28 = .ok (.iadd, 1) := by decide +kernel
theorem dX6_put_29 : decode cX6_put 29 = .ok (.putfield 21, 3) := by decide +kernel
theorem dX6_put_32 : decode cX6_put 32 = .ok (.return_, 1) := by decide +kernel
theorem dX6_endPart_0 : decode cX6_endPart 0 = .ok (.aload_n 0, 1) := by decide +kernel
theorem dX6_endPart_1 : decode cX6_endPart 1 = .ok (.getfield 15, 3) := by decide +kernel
theorem dX6_endPart_4 : decode cX6_endPart 4 = .ok (.iload_n 1, 1) := by decide +kernel
theorem dX6_endPart_5 : decode cX6_endPart 5 = .ok (.aload_n 0, 1) := by decide +kernel
theorem dX6_endPart_6 : decode cX6_endPart 6 = .ok (.getfield 21, 3) := by decide +kernel
theorem dX6_endPart_9 : decode cX6_endPart 9 = .ok (.iastore, 1) := by decide +kernel
theorem dX6_endPart_10 : decode cX6_endPart 10 = .ok (.return_, 1) := by decide +kernel
theorem dX9_isAhead_0 : decode cX9_isAhead 0 = .ok (.aload_n 0, 1) := by decide +kernel
theorem dX9_isAhead_1 : decode cX9_isAhead 1 = .ok (.getfield 49, 3) := by decide +kernel
theorem dX9_isAhead_4 : decode cX9_isAhead 4 = .ok (.ifCond .eq 11, 3) := by decide +kernel
theorem dX9_isAhead_7 : decode cX9_isAhead 7 = .ok (.aload_n 0, 1) := by decide +kernel
theorem dX9_isAhead_8 : decode cX9_isAhead 8 = .ok (.getfield 49, 3) := by decide +kernel
theorem dX9_isAhead_11 : decode cX9_isAhead 11 = .ok (.iconst 1, 1) := by decide +kernel
theorem dX9_isAhead_12 : decode cX9_isAhead 12 = .ok (.if_icmp .ne 7, 3) := by decide +kernel
theorem dX9_isAhead_15 : decode cX9_isAhead 15 = .ok (.iconst 1, 1) := by decide +kernel
theorem dX9_isAhead_16 : decode cX9_isAhead 16 = .ok (.goto 4, 3) := by decide +kernel
theorem dX9_isAhead_19 : decode cX9_isAhead 19 = .ok (.iconst 0, 1) := by decide +kernel
theorem dX9_isAhead_20 : decode cX9_isAhead 20 = .ok (.ireturn, 1) := by decide +kernel
theorem dX9_told_0 : decode cX9_told 0 = .ok (.iload_n 1, 1) := by decide +kernel
theorem dX9_told_1 : decode cX9_told 1 = .ok (.tableswitch 114 0 10 #[59, 64, 69, 74, 79, 84, 89, 94, 99, 104, 109], 59) := by decide +kernel
theorem dX9_told_60 : decode cX9_told 60 = .ok (.aload_n 0, 1) := by decide +kernel
theorem dX9_told_61 : decode cX9_told 61 = .ok (.getfield 20, 3) := by decide +kernel
theorem dX9_told_64 : decode cX9_told 64 = .ok (.ireturn, 1) := by decide +kernel
theorem dX9_told_65 : decode cX9_told 65 = .ok (.aload_n 0, 1) := by decide +kernel
theorem dX9_told_66 : decode cX9_told 66 = .ok (.getfield 49, 3) := by decide +kernel
theorem dX9_told_69 : decode cX9_told 69 = .ok (.ireturn, 1) := by decide +kernel
theorem dX9_told_70 : decode cX9_told 70 = .ok (.aload_n 0, 1) := by decide +kernel
theorem dX9_told_71 : decode cX9_told 71 = .ok (.getfield 52, 3) := by decide +kernel
theorem dX9_told_74 : decode cX9_told 74 = .ok (.ireturn, 1) := by decide +kernel
theorem dX9_told_75 : decode cX9_told 75 = .ok (.aload_n 0, 1) := by decide +kernel
theorem dX9_told_76 : decode cX9_told 76 = .ok (.getfield 36, 3) := by decide +kernel
theorem dX9_told_79 : decode cX9_told 79 = .ok (.ireturn, 1) := by decide +kernel
theorem dX9_told_80 : decode cX9_told 80 = .ok (.aload_n 0, 1) := by decide +kernel
theorem dX9_told_81 : decode cX9_told 81 = .ok (.invokevirtual 78, 3) := by decide +kernel
theorem dX9_told_84 : decode cX9_told 84 = .ok (.ireturn, 1) := by decide +kernel
theorem dX9_told_85 : decode cX9_told 85 = .ok (.aload_n 0, 1) := by decide +kernel
theorem dX9_told_86 : decode cX9_told 86 = .ok (.getfield 27, 3) := by decide +kernel
theorem dX9_told_89 : decode cX9_told 89 = .ok (.ireturn, 1) := by decide +kernel
theorem dX9_told_90 : decode cX9_told 90 = .ok (.aload_n 0, 1) := by decide +kernel
theorem dX9_told_91 : decode cX9_told 91 = .ok (.getfield 55, 3) := by decide +kernel
theorem dX9_told_94 : decode cX9_told 94 = .ok (.ireturn, 1) := by decide +kernel
theorem dX9_told_95 : decode cX9_told 95 = .ok (.aload_n 0, 1) := by decide +kernel
theorem dX9_told_96 : decode cX9_told 96 = .ok (.invokevirtual 82, 3) := by decide +kernel
theorem dX9_told_99 : decode cX9_told 99 = .ok (.ireturn, 1) := by decide +kernel
theorem dX9_told_100 : decode cX9_told 100 = .ok (.aload_n 0, 1) := by decide +kernel
theorem dX9_told_101 : decode cX9_told 101 = .ok (.getfield 58, 3) := by decide +kernel
theorem dX9_told_104 : decode cX9_told 104 = .ok (.ireturn, 1) := by decide +kernel
theorem dX9_told_105 : decode cX9_told 105 = .ok (.aload_n 0, 1) := by decide +kernel
theorem dX9_told_106 : decode cX9_told 106 = .ok (.getfield 33, 3) := by decide +kernel
theorem dX9_told_109 : decode cX9_told 109 = .ok (.ireturn, 1) := by decide +kernel
theorem dX9_told_110 : decode cX9_told 110 = .ok (.aload_n 0, 1) := by decide +kernel
theorem dX9_told_111 : decode cX9_told 111 = .ok (.invokevirtual 85, 3) := by decide +kernel
theorem dX9_told_114 : decode cX9_told 114 = .ok (.ireturn, 1) := by decide +kernel
theorem dX9_told_115 : decode cX9_told 115 = .ok (.bipush (-2), 2) := by decide +kernel
theorem dX9_told_117 : decode cX9_told 117 = .ok (.ireturn, 1) := by decide +kernel
section WK
variable {p : Program} {l : Launch} {e : Env} {s : State} {m : MethodId} {args : Array Value} {below : List Frame} {meth : Method} {c : Code}
set_option maxHeartbeats 4000000 in
set_option maxRecDepth 20000 in
theorem kX9_become (l : Launch) {k : En} {S : Nat → Prop} (hS : ∀ t, S t) {i : Nat} {v : Nat} {i1 : Nat} {v1 : Nat} (hi : i < 2) (hv : v < 12) (hi1 : i1 < 2) (hv1 : v1 < 12) {res : Mm} {g : Mm} (hf : fX9_become g i v i1 v1 = some res) : Mt l yX9_become cX9_become 2 none (RmN 1 60) YC S k [.ref (k.1 + adC 19 i v), .ref (k.1 + adC 19 i1 v1)] g none res := by
  refine Mt.of (by decide) (Nat.le_of_ble_eq_true rfl) ?_
  intro p e s m args below meth c ls X _ h hl
  have X : Cx YC S k p s m args meth c cX9_become 2 none RX9 := X
  have hl : lv_has ls 2 [(0, .ref (k.1 + adC 19 i v)), (1, .ref (k.1 + adC 19 i1 v1))] := hl
  have JR : res = res := rfl
  unfold fX9_become at hf
  refine lv_aload_n X.x X.b dX9_become_0 rfl (lv_at hl 0 rfl) ?_
  refine lv_aload_n X.x X.b dX9_become_1 rfl (lv_at hl 1 rfl) ?_
  refine gC_19_0 X h (hS 19) hi1 hv1 lk_X9_20 dX9_become_2 ?_
  obtain ⟨g1, e2, hf⟩ := wLe_s hf
  refine pC_19_0 X h (hS 19) hi hv lk_X9_20 e2 dX9_become_5 (fun H locs h => ?_)
  refine lv_aload_n X.x X.b dX9_become_8 rfl (lv_at hl 0 rfl) ?_
  refine lv_aload_n X.x X.b dX9_become_9 rfl (lv_at hl 1 rfl) ?_
  refine gC_19_1 X h (hS 19) hi1 hv1 lk_X9_24 dX9_become_10 ?_
  obtain ⟨g3, e4, hf⟩ := wLe_s hf
  refine pC_19_1 X h (hS 19) hi hv lk_X9_24 e4 dX9_become_13 (fun H locs h => ?_)
  refine lv_aload_n X.x X.b dX9_become_16 rfl (lv_at hl 0 rfl) ?_
  refine lv_aload_n X.x X.b dX9_become_17 rfl (lv_at hl 1 rfl) ?_
  refine gC_19_2 X h (hS 19) hi1 hv1 lk_X9_27 dX9_become_18 ?_
  obtain ⟨g5, e6, hf⟩ := wLe_s hf
  refine pC_19_2 X h (hS 19) hi hv lk_X9_27 e6 dX9_become_21 (fun H locs h => ?_)
  refine lv_aload_n X.x X.b dX9_become_24 rfl (lv_at hl 0 rfl) ?_
  refine lv_aload_n X.x X.b dX9_become_25 rfl (lv_at hl 1 rfl) ?_
  refine gC_19_3 X h (hS 19) hi1 hv1 lk_X9_30 dX9_become_26 ?_
  obtain ⟨g7, e8, hf⟩ := wLe_s hf
  refine pC_19_3 X h (hS 19) hi hv lk_X9_30 e8 dX9_become_29 (fun H locs h => ?_)
  refine lv_aload_n X.x X.b dX9_become_32 rfl (lv_at hl 0 rfl) ?_
  refine lv_aload_n X.x X.b dX9_become_33 rfl (lv_at hl 1 rfl) ?_
  refine gC_19_4 X h (hS 19) hi1 hv1 lk_X9_46 dX9_become_34 ?_
  obtain ⟨g9, e10, hf⟩ := wLe_s hf
  refine pC_19_4 X h (hS 19) hi hv lk_X9_46 e10 dX9_become_37 (fun H locs h => ?_)
  refine lv_aload_n X.x X.b dX9_become_40 rfl (lv_at hl 0 rfl) ?_
  refine lv_aload_n X.x X.b dX9_become_41 rfl (lv_at hl 1 rfl) ?_
  refine gC_19_5 X h (hS 19) hi1 hv1 lk_X9_33 dX9_become_42 ?_
  obtain ⟨g11, e12, hf⟩ := wLe_s hf
  refine pC_19_5 X h (hS 19) hi hv lk_X9_33 e12 dX9_become_45 (fun H locs h => ?_)
  refine lv_aload_n X.x X.b dX9_become_48 rfl (lv_at hl 0 rfl) ?_
  refine lv_aload_n X.x X.b dX9_become_49 rfl (lv_at hl 1 rfl) ?_
  refine gC_19_6 X h (hS 19) hi1 hv1 lk_X9_49 dX9_become_50 ?_
  obtain ⟨g13, e14, hf⟩ := wLe_s hf
  refine pC_19_6 X h (hS 19) hi hv lk_X9_49 e14 dX9_become_53 (fun H locs h => ?_)
  refine lv_aload_n X.x X.b dX9_become_56 rfl (lv_at hl 0 rfl) ?_
  refine lv_aload_n X.x X.b dX9_become_57 rfl (lv_at hl 1 rfl) ?_
  refine gC_19_7 X h (hS 19) hi1 hv1 lk_X9_52 dX9_become_58 ?_
  obtain ⟨g15, e16, hf⟩ := wLe_s hf
  refine pC_19_7 X h (hS 19) hi hv lk_X9_52 e16 dX9_become_61 (fun H locs h => ?_)
  refine lv_aload_n X.x X.b dX9_become_64 rfl (lv_at hl 0 rfl) ?_
  refine lv_aload_n X.x X.b dX9_become_65 rfl (lv_at hl 1 rfl) ?_
  refine gC_19_8 X h (hS 19) hi1 hv1 lk_X9_36 dX9_become_66 ?_
  obtain ⟨g17, e18, hf⟩ := wLe_s hf
  refine pC_19_8 X h (hS 19) hi hv lk_X9_36 e18 dX9_become_69 (fun H locs h => ?_)
  refine lv_aload_n X.x X.b dX9_become_72 rfl (lv_at hl 0 rfl) ?_
  refine lv_aload_n X.x X.b dX9_become_73 rfl (lv_at hl 1 rfl) ?_
  refine gC_19_9 X h (hS 19) hi1 hv1 lk_X9_55 dX9_become_74 ?_
  obtain ⟨g19, e20, hf⟩ := wLe_s hf
  refine pC_19_9 X h (hS 19) hi hv lk_X9_55 e20 dX9_become_77 (fun H locs h => ?_)
  refine lv_aload_n X.x X.b dX9_become_80 rfl (lv_at hl 0 rfl) ?_
  refine lv_aload_n X.x X.b dX9_become_81 rfl (lv_at hl 1 rfl) ?_
  refine gC_19_10 X h (hS 19) hi1 hv1 lk_X9_58 dX9_become_82 ?_
  obtain ⟨g21, e22, hf⟩ := wLe_s hf
  refine pC_19_10 X h (hS 19) hi hv lk_X9_58 e22 dX9_become_85 (fun H locs h => ?_)
  refine lv_aload_n X.x X.b dX9_become_88 rfl (lv_at hl 0 rfl) ?_
  refine lv_aload_n X.x X.b dX9_become_89 rfl (lv_at hl 1 rfl) ?_
  refine gC_19_11 X h (hS 19) hi1 hv1 lk_X9_61 dX9_become_90 ?_
  obtain ⟨g23, e24, hf⟩ := wLe_s hf
  refine pC_19_11 X h (hS 19) hi hv lk_X9_61 e24 dX9_become_93 (fun H locs h => ?_)
  refine lv_aload_n X.x X.b dX9_become_96 rfl (lv_at hl 0 rfl) ?_
  refine lv_aload_n X.x X.b dX9_become_97 rfl (lv_at hl 1 rfl) ?_
  refine gC_19_12 X h (hS 19) hi1 hv1 lk_X9_39 dX9_become_98 ?_
  obtain ⟨g25, e26, hf⟩ := wLe_s hf
  refine pC_19_12 X h (hS 19) hi hv lk_X9_39 e26 dX9_become_101 (fun H locs h => ?_)
  refine lv_aload_n X.x X.b dX9_become_104 rfl (lv_at hl 1 rfl) ?_
  refine gC_19_13 X h (hS 19) hi1 hv1 lk_X9_11 dX9_become_105 ?_
  refine lv_iconst (v := 0) X.x X.b dX9_become_108 (by decide) ?_
  refine lv_aload_n X.x X.b dX9_become_109 rfl (lv_at hl 0 rfl) ?_
  refine gC_19_13 X h (hS 19) hi hv lk_X9_11 dX9_become_110 ?_
  refine lv_iconst (v := 0) X.x X.b dX9_become_113 (by decide) ?_
  refine lv_bipush (v := 8) X.x X.b dX9_become_114 (by decide) ?_
  obtain ⟨b29, hf⟩ := wGd_s hf
  obtain ⟨g27, e28, hf⟩ := wLe_s hf
  refine ro_copy okC X h hl (hS 20) hi1 hv1 (fun _ => rfl) (hS 20) hi hv (fun _ => rfl) lk_X9_64 cp_f b29 e28 (Nat.le_of_ble_eq_true rfl) (Nat.le_of_ble_eq_true rfl) dX9_become_116 (fun H locs h => ?_)
  refine lv_aload_n X.x X.b dX9_become_119 rfl (lv_at hl 1 rfl) ?_
  refine gC_19_14 X h (hS 19) hi1 hv1 lk_X9_17 dX9_become_120 ?_
  refine lv_iconst (v := 0) X.x X.b dX9_become_123 (by decide) ?_
  refine lv_aload_n X.x X.b dX9_become_124 rfl (lv_at hl 0 rfl) ?_
  refine gC_19_14 X h (hS 19) hi hv lk_X9_17 dX9_become_125 ?_
  refine lv_iconst (v := 0) X.x X.b dX9_become_128 (by decide) ?_
  refine lv_bipush (v := 9) X.x X.b dX9_become_129 (by decide) ?_
  obtain ⟨b32, hf⟩ := wGd_s hf
  obtain ⟨g30, e31, hf⟩ := wLe_s hf
  refine ro_copy okC X h hl (hS 21) hi1 hv1 (fun _ => rfl) (hS 21) hi hv (fun _ => rfl) lk_X9_64 cp_f b32 e31 (Nat.le_of_ble_eq_true rfl) (Nat.le_of_ble_eq_true rfl) dX9_become_131 (fun H locs h => ?_)
  cases (Option.some.inj hf).trans JR
  exact ro_vret X h dX9_become_134
set_option maxHeartbeats 4000000 in
set_option maxRecDepth 20000 in
theorem kX9_enter (l : Launch) {k : En} {S : Nat → Prop} (hS : ∀ t, S t) {i : Nat} {v : Nat} {a1 : Int32} {a2 : Int32} (hi : i < 2) (hv : v < 12) {res : Mm} {g : Mm} (hf : fX9_enter g i v a1 a2 = some res) : Mt l yX9_enter cX9_enter 3 none (RmN 0 0) YC S k [.ref (k.1 + adC 19 i v), .int a1, .int a2] g none res := by
  refine Mt.of (by decide) (Nat.le_of_ble_eq_true rfl) ?_
  intro p e s m args below meth c ls X _ h hl
  have X : Cx YC S k p s m args meth c cX9_enter 3 none RX9 := X
  have hl : lv_has ls 3 [(0, .ref (k.1 + adC 19 i v)), (1, .int a1), (2, .int a2)] := hl
  have JR : res = res := rfl
  unfold fX9_enter at hf
  refine lv_aload_n X.x X.b dX9_enter_0 rfl (lv_at hl 0 rfl) ?_
  refine lv_iload_n X.x X.b dX9_enter_1 rfl (lv_at hl 1 rfl) ?_
  obtain ⟨g1, e2, hf⟩ := wLe_s hf
  refine pC_19_6 X h (hS 19) hi hv lk_X9_49 e2 dX9_enter_2 (fun H locs h => ?_)
  refine lv_aload_n X.x X.b dX9_enter_5 rfl (lv_at hl 0 rfl) ?_
  refine lv_iload_n X.x X.b dX9_enter_6 rfl (lv_at hl 2 rfl) ?_
  obtain ⟨g3, e4, hf⟩ := wLe_s hf
  refine pC_19_7 X h (hS 19) hi hv lk_X9_52 e4 dX9_enter_7 (fun H locs h => ?_)
  cases (Option.some.inj hf).trans JR
  exact ro_vret X h dX9_enter_10
set_option maxHeartbeats 4000000 in
set_option maxRecDepth 20000 in
theorem kX9_begin (l : Launch) {k : En} {S : Nat → Prop} (hS : ∀ t, S t) {i : Nat} {v : Nat} {a1 : Int32} {a2 : Int32} {a3 : Int32} {a4 : Int32} {a5 : Int32} (hi : i < 2) (hv : v < 12) {res : Mm} {g : Mm} (hf : fX9_begin g i v a1 a2 a3 a4 a5 = some res) : Mt l yX9_begin cX9_begin 6 none (RmN 1 22) YC S k [.ref (k.1 + adC 19 i v), .int a1, .int a2, .int a3, .int a4, .int a5] g none res := by
  refine Mt.of (by decide) (Nat.le_of_ble_eq_true rfl) ?_
  intro p e s m args below meth c ls X _ h hl
  have X : Cx YC S k p s m args meth c cX9_begin 6 none RX9 := X
  have hl : lv_has ls 6 [(0, .ref (k.1 + adC 19 i v)), (1, .int a1), (2, .int a2), (3, .int a3), (4, .int a4), (5, .int a5)] := hl
  have JR : res = res := rfl
  unfold fX9_begin at hf
  refine lv_aload_n X.x X.b dX9_begin_0 rfl (lv_at hl 0 rfl) ?_
  refine lv_iload_n X.x X.b dX9_begin_1 rfl (lv_at hl 1 rfl) ?_
  obtain ⟨g1, e2, hf⟩ := wLe_s hf
  refine pC_19_0 X h (hS 19) hi hv lk_X9_20 e2 dX9_begin_2 (fun H locs h => ?_)
  refine lv_aload_n X.x X.b dX9_begin_5 rfl (lv_at hl 0 rfl) ?_
  refine lv_iload_n X.x X.b dX9_begin_6 rfl (lv_at hl 2 rfl) ?_
  obtain ⟨g3, e4, hf⟩ := wLe_s hf
  refine pC_19_1 X h (hS 19) hi hv lk_X9_24 e4 dX9_begin_7 (fun H locs h => ?_)
  refine lv_aload_n X.x X.b dX9_begin_10 rfl (lv_at hl 0 rfl) ?_
  refine lv_iload_n X.x X.b dX9_begin_11 rfl (lv_at hl 3 rfl) ?_
  obtain ⟨g5, e6, hf⟩ := wLe_s hf
  refine pC_19_2 X h (hS 19) hi hv lk_X9_27 e6 dX9_begin_12 (fun H locs h => ?_)
  refine lv_aload_n X.x X.b dX9_begin_15 rfl (lv_at hl 0 rfl) ?_
  refine lv_iload X.x X.b dX9_begin_16 (lv_at hl 4 rfl) ?_
  obtain ⟨g7, e8, hf⟩ := wLe_s hf
  refine pC_19_3 X h (hS 19) hi hv lk_X9_30 e8 dX9_begin_18 (fun H locs h => ?_)
  refine lv_aload_n X.x X.b dX9_begin_21 rfl (lv_at hl 0 rfl) ?_
  refine lv_iconst (v := (-1)) X.x X.b dX9_begin_22 (by decide) ?_
  obtain ⟨g9, e10, hf⟩ := wLe_s hf
  refine pC_19_5 X h (hS 19) hi hv lk_X9_33 e10 dX9_begin_23 (fun H locs h => ?_)
  refine lv_aload_n X.x X.b dX9_begin_26 rfl (lv_at hl 0 rfl) ?_
  refine lv_iconst (v := (-1)) X.x X.b dX9_begin_27 (by decide) ?_
  obtain ⟨g11, e12, hf⟩ := wLe_s hf
  refine pC_19_8 X h (hS 19) hi hv lk_X9_36 e12 dX9_begin_28 (fun H locs h => ?_)
  refine lv_aload_n X.x X.b dX9_begin_31 rfl (lv_at hl 0 rfl) ?_
  refine lv_iconst (v := (-1)) X.x X.b dX9_begin_32 (by decide) ?_
  obtain ⟨g13, e14, hf⟩ := wLe_s hf
  refine pC_19_12 X h (hS 19) hi hv lk_X9_39 e14 dX9_begin_33 (fun H locs h => ?_)
  refine lv_aload_n X.x X.b dX9_begin_36 rfl (lv_at hl 0 rfl) ?_
  refine lv_iconst (v := 0) X.x X.b dX9_begin_37 (by decide) ?_
  refine lv_iload X.x X.b dX9_begin_38 (lv_at hl 5 rfl) ?_
  obtain ⟨g17, e15, hf⟩ := wBd_s hf
  refine ro_callvV (As := [.int (0 : Int32), .int a5]) (g1 := g17) X h (kX9_enter l hS hi hv e15) mv_X9_enter lk_X9_42 ⟨rfl, rfl⟩ ⟨(Nat.le_of_ble_eq_true rfl), (Nat.le_of_ble_eq_true rfl)⟩ (rC_19 X h (hS 19) hi hv) rfl hl rfl (Nat.le_of_ble_eq_true rfl) ⟨Nat.zero_le _, Nat.zero_le _⟩ dX9_begin_40 (fun H locs h => ?_)
  cases (Option.some.inj hf).trans JR
  exact ro_vret X h dX9_begin_43
set_option maxHeartbeats 4000000 in
set_option maxRecDepth 20000 in
theorem wX9_lateTicks_L4 {k : En} {S : Nat → Prop} (hS : ∀ t, S t) {g0 : Mm} {i : Nat} {v : Nat} (hi : i < 2) (hv : v < 12) {res : Int32} (X : Cx YC S k p s m args meth c cX9_lateTicks 3 (some .int) RX9) {r : Int32} (JR : r = res) :
    ∀ (fu : Nat) (x1 : Int32) (x2 : Int32) (H : Heap) (locs : List Loc) (ls : Array Slot), Hx YC S k s g0 H locs → lv_has ls 3 [(0, .ref (k.1 + adC 19 i v)), (1, .int x1), (2, .int x2)] → wLp (fun q => fX9_lateTicks_B4 g0 i v q.1 q.2) fu (x1, x2) = some r → W p l e (RmN 0 0) s m args below meth c H locs 0 0 (Fin YC S k args s below (some (.int res)) g0) (F0 m 4 ls []) := by
  intro fu
  induction fu with
  | zero => intro x1 x2 H locs ls h hl hf; exact (wLp_0 hf).elim
  | succ fu ih1 =>
    intro x1 x2 H locs ls h hl hf
    obtain ⟨r1, hf, hr⟩ := wLp_s hf
    have J1n : ∀ (x1 : Int32) (x2 : Int32), r1 = .inl (x1, x2) → ∀ (H : Heap) (locs : List Loc) (ls : Array Slot), Hx YC S k s g0 H locs → lv_has ls 3 [(0, .ref (k.1 + adC 19 i v)), (1, .int x1), (2, .int x2)] → W p l e (RmN 0 0) s m args below meth c H locs 0 0 (Fin YC S k args s below (some (.int res)) g0) (F0 m 4 ls []) := fun x1 x2 q H locs ls h hl => by subst q; exact ih1 _ _ _ _ _ h hl hr
    have JRn : ∀ t1, r1 = .inr t1 → t1 = res := fun t1 q => by subst q; obtain rfl := Option.some.inj hr; exact JR
    have J1 := J1n
    have JR := JRn
    clear J1n JRn
    have hf : fX9_lateTicks_B4 g0 i v x1 x2 = some r1 := hf
    unfold fX9_lateTicks_B4 at hf
    refine lv_iload_n X.x X.b dX9_lateTicks_4 rfl (lv_at hl 2 rfl) ?_
    refine lv_bipush (v := 9) X.x X.b dX9_lateTicks_5 (by decide) ?_
    refine lv_icmp_ge (tgt := 25) X.x X.b dX9_lateTicks_7 (by decide) (fun c5 => ?_) (fun c5 => ?_)
    · have hf := wT c5 hf
      obtain ⟨t6, hf, e7⟩ := wEx_s hf
      have JR := JR t6 e7
      refine lv_iload_n X.x X.b dX9_lateTicks_25 rfl (lv_at hl 1 rfl) ?_
      cases (Option.some.inj hf).trans JR
      exact ro_iret X h dX9_lateTicks_26
    · have hf := wF c5 hf
      refine lv_iload_n X.x X.b dX9_lateTicks_10 rfl (lv_at hl 1 rfl) ?_
      refine lv_aload_n X.x X.b dX9_lateTicks_11 rfl (lv_at hl 0 rfl) ?_
      refine gC_19_14 X h (hS 19) hi hv lk_X9_17 dX9_lateTicks_12 ?_
      refine lv_iload_n X.x X.b dX9_lateTicks_15 rfl (lv_at hl 2 rfl) ?_
      obtain ⟨b8, hf⟩ := wGi_s hf
      refine aC_21 X h (hS 21) hi hv b8 dX9_lateTicks_16 ?_
      refine lv_iadd X.x X.b dX9_lateTicks_17 ?_
      obtain ⟨y9, e10, hf⟩ := wLe_s hf
      refine lv_nmi e10 ?_
      refine lv_istore_n (lv' := [(1, .int y9), (0, .ref (k.1 + adC 19 i v)), (2, .int x2)]) X.x X.b dX9_lateTicks_18 rfl hl (by decide) rfl (fun ls hl => ?_)
      obtain ⟨y11, e12, hf⟩ := wLe_s hf
      refine lv_iinc (v := y11) (lv' := [(2, .int y11), (1, .int y9), (0, .ref (k.1 + adC 19 i v))]) X.x X.b dX9_lateTicks_19 hl (k := 2) rfl (by rw [e12]; rfl) (by decide) rfl (fun ls hl => ?_)
      refine lv_goto (tgt := 4) X.x X.b dX9_lateTicks_22 (by decide) ?_
      exact J1 _ _ (Option.some.inj hf).symm _ _ _ h (lv_sub hl [2, 1, 0] rfl)
set_option maxHeartbeats 4000000 in
set_option maxRecDepth 20000 in
theorem kX9_lateTicks (l : Launch) {k : En} {S : Nat → Prop} (hS : ∀ t, S t) {g0 : Mm} {i : Nat} {v : Nat} (hi : i < 2) (hv : v < 12) {res : Int32} (hf : fX9_lateTicks g0 i v = some res) : Mt l yX9_lateTicks cX9_lateTicks 3 (some .int) (RmN 0 0) YC S k [.ref (k.1 + adC 19 i v)] g0 (some (.int res)) g0 := by
  refine Mt.of (by decide) (Nat.le_of_ble_eq_true rfl) ?_
  intro p e s m args below meth c ls X _ h hl
  have X : Cx YC S k p s m args meth c cX9_lateTicks 3 (some .int) RX9 := X
  have hl : lv_has ls 3 [(0, .ref (k.1 + adC 19 i v))] := hl
  have JR : res = res := rfl
  unfold fX9_lateTicks at hf
  refine lv_iconst (v := 0) X.x X.b dX9_lateTicks_0 (by decide) ?_
  obtain ⟨y1, e2, hf⟩ := wLe_s hf
  refine lv_nmi e2 ?_
  refine lv_istore_n (lv' := [(1, .int y1), (0, .ref (k.1 + adC 19 i v))]) X.x X.b dX9_lateTicks_1 rfl hl (by decide) rfl (fun ls hl => ?_)
  refine lv_iconst (v := 0) X.x X.b dX9_lateTicks_2 (by decide) ?_
  obtain ⟨y3, e4, hf⟩ := wLe_s hf
  refine lv_nmi e4 ?_
  refine lv_istore_n (lv' := [(2, .int y3), (1, .int y1), (0, .ref (k.1 + adC 19 i v))]) X.x X.b dX9_lateTicks_3 rfl hl (by decide) rfl (fun ls hl => ?_)
  exact wX9_lateTicks_L4 hS hi hv X JR _ _ _ _ _ _ h (lv_sub hl [2, 1, 0] rfl) hf
set_option maxHeartbeats 4000000 in
set_option maxRecDepth 20000 in
theorem kX9_comes (l : Launch) {k : En} {S : Nat → Prop} (hS : ∀ t, S t) {g0 : Mm} {i : Nat} {v : Nat} (hi : i < 2) (hv : v < 12) {res : Int32} (hf : fX9_comes g0 i v = some res) : Mt l yX9_comes cX9_comes 1 (some .int) (RmN 0 0) YC S k [.ref (k.1 + adC 19 i v)] g0 (some (.int res)) g0 := by
  refine Mt.of (by decide) (Nat.le_of_ble_eq_true rfl) ?_
  intro p e s m args below meth c ls X _ h hl
  have X : Cx YC S k p s m args meth c cX9_comes 1 (some .int) RX9 := X
  have hl : lv_has ls 1 [(0, .ref (k.1 + adC 19 i v))] := hl
  have JR : res = res := rfl
  unfold fX9_comes at hf
  refine lv_aload_n X.x X.b dX9_comes_0 rfl (lv_at hl 0 rfl) ?_
  refine gC_19_1 X h (hS 19) hi hv lk_X9_24 dX9_comes_1 ?_
  refine lv_aload_n X.x X.b dX9_comes_4 rfl (lv_at hl 0 rfl) ?_
  refine gC_19_4 X h (hS 19) hi hv lk_X9_46 dX9_comes_5 ?_
  refine lv_iadd X.x X.b dX9_comes_8 ?_
  cases (Option.some.inj hf).trans JR
  exact ro_iret X h dX9_comes_9
set_option maxHeartbeats 4000000 in
set_option maxRecDepth 20000 in
theorem kX9_isUnder (l : Launch) {k : En} {S : Nat → Prop} (hS : ∀ t, S t) {g0 : Mm} {i : Nat} {v : Nat} {a1 : Int32} (hi : i < 2) (hv : v < 12) {res : Int32} (hf : fX9_isUnder g0 i v a1 = some res) : Mt l yX9_isUnder cX9_isUnder 2 (some .boolean) (RmN 0 0) YC S k [.ref (k.1 + adC 19 i v), .int a1] g0 (some (.int res)) g0 := by
  refine Mt.of (by decide) (Nat.le_of_ble_eq_true rfl) ?_
  intro p e s m args below meth c ls X _ h hl
  have X : Cx YC S k p s m args meth c cX9_isUnder 2 (some .boolean) RX9 := X
  have hl : lv_has ls 2 [(0, .ref (k.1 + adC 19 i v)), (1, .int a1)] := hl
  have JR : res = res := rfl
  unfold fX9_isUnder at hf
  refine lv_aload_n X.x X.b dX9_isUnder_0 rfl (lv_at hl 0 rfl) ?_
  refine gC_19_10 X h (hS 19) hi hv lk_X9_58 dX9_isUnder_1 ?_
  refine lv_iload_n X.x X.b dX9_isUnder_4 rfl (lv_at hl 1 rfl) ?_
  refine lv_ishr X.x X.b dX9_isUnder_5 ?_
  refine lv_iconst (v := 1) X.x X.b dX9_isUnder_6 (by decide) ?_
  refine lv_iand X.x X.b dX9_isUnder_7 ?_
  refine lv_iconst (v := 1) X.x X.b dX9_isUnder_8 (by decide) ?_
  refine lv_icmp_ne (tgt := 16) X.x X.b dX9_isUnder_9 (by decide) (fun c1 => ?_) (fun c1 => ?_)
  · have hf := wF c1 hf
    refine lv_iconst (v := 0) X.x X.b dX9_isUnder_16 (by decide) ?_
    cases (Option.some.inj hf).trans JR
    exact ro_zret X h (Or.inl rfl) dX9_isUnder_17
  · have hf := wT c1 hf
    refine lv_iconst (v := 1) X.x X.b dX9_isUnder_12 (by decide) ?_
    refine lv_goto (tgt := 17) X.x X.b dX9_isUnder_13 (by decide) ?_
    cases (Option.some.inj hf).trans JR
    exact ro_zret X h (Or.inr rfl) dX9_isUnder_17
set_option maxHeartbeats 4000000 in
set_option maxRecDepth 20000 in
theorem kX9_endAct (l : Launch) {k : En} {S : Nat → Prop} (hS : ∀ t, S t) {i : Nat} {v : Nat} {a1 : Int32} (hi : i < 2) (hv : v < 12) {res : Mm} {g : Mm} (hf : fX9_endAct g i v a1 = some res) : Mt l yX9_endAct cX9_endAct 2 none (RmN 0 0) YC S k [.ref (k.1 + adC 19 i v), .int a1] g none res := by
  refine Mt.of (by decide) (Nat.le_of_ble_eq_true rfl) ?_
  intro p e s m args below meth c ls X _ h hl
  have X : Cx YC S k p s m args meth c cX9_endAct 2 none RX9 := X
  have hl : lv_has ls 2 [(0, .ref (k.1 + adC 19 i v)), (1, .int a1)] := hl
  have JR : res = res := rfl
  unfold fX9_endAct at hf
  refine lv_aload_n X.x X.b dX9_endAct_0 rfl (lv_at hl 0 rfl) ?_
  refine lv_dup X.x X.b dX9_endAct_1 rfl ?_
  refine gC_19_10 X h (hS 19) hi hv lk_X9_58 dX9_endAct_2 ?_
  refine lv_iconst (v := 1) X.x X.b dX9_endAct_5 (by decide) ?_
  refine lv_iload_n X.x X.b dX9_endAct_6 rfl (lv_at hl 1 rfl) ?_
  refine lv_ishl X.x X.b dX9_endAct_7 ?_
  refine lv_iconst (v := (-1)) X.x X.b dX9_endAct_8 (by decide) ?_
  refine lv_ixor X.x X.b dX9_endAct_9 ?_
  refine lv_iand X.x X.b dX9_endAct_10 ?_
  obtain ⟨g1, e2, hf⟩ := wLe_s hf
  refine pC_19_10 X h (hS 19) hi hv lk_X9_58 e2 dX9_endAct_11 (fun H locs h => ?_)
  refine lv_aload_n X.x X.b dX9_endAct_14 rfl (lv_at hl 0 rfl) ?_
  refine lv_dup X.x X.b dX9_endAct_15 rfl ?_
  refine gC_19_9 X h (hS 19) hi hv lk_X9_55 dX9_endAct_16 ?_
  refine lv_iconst (v := 1) X.x X.b dX9_endAct_19 (by decide) ?_
  refine lv_iload_n X.x X.b dX9_endAct_20 rfl (lv_at hl 1 rfl) ?_
  refine lv_ishl X.x X.b dX9_endAct_21 ?_
  refine lv_ior X.x X.b dX9_endAct_22 ?_
  obtain ⟨g3, e4, hf⟩ := wLe_s hf
  refine pC_19_9 X h (hS 19) hi hv lk_X9_55 e4 dX9_endAct_23 (fun H locs h => ?_)
  cases (Option.some.inj hf).trans JR
  exact ro_vret X h dX9_endAct_26
set_option maxHeartbeats 4000000 in
set_option maxRecDepth 20000 in
theorem kX9_isDone (l : Launch) {k : En} {S : Nat → Prop} (hS : ∀ t, S t) {g0 : Mm} {i : Nat} {v : Nat} {a1 : Int32} (hi : i < 2) (hv : v < 12) {res : Int32} (hf : fX9_isDone g0 i v a1 = some res) : Mt l yX9_isDone cX9_isDone 2 (some .boolean) (RmN 0 0) YC S k [.ref (k.1 + adC 19 i v), .int a1] g0 (some (.int res)) g0 := by
  refine Mt.of (by decide) (Nat.le_of_ble_eq_true rfl) ?_
  intro p e s m args below meth c ls X _ h hl
  have X : Cx YC S k p s m args meth c cX9_isDone 2 (some .boolean) RX9 := X
  have hl : lv_has ls 2 [(0, .ref (k.1 + adC 19 i v)), (1, .int a1)] := hl
  have JR : res = res := rfl
  unfold fX9_isDone at hf
  refine lv_aload_n X.x X.b dX9_isDone_0 rfl (lv_at hl 0 rfl) ?_
  refine gC_19_9 X h (hS 19) hi hv lk_X9_55 dX9_isDone_1 ?_
  refine lv_iload_n X.x X.b dX9_isDone_4 rfl (lv_at hl 1 rfl) ?_
  refine lv_ishr X.x X.b dX9_isDone_5 ?_
  refine lv_iconst (v := 1) X.x X.b dX9_isDone_6 (by decide) ?_
  refine lv_iand X.x X.b dX9_isDone_7 ?_
  refine lv_iconst (v := 1) X.x X.b dX9_isDone_8 (by decide) ?_
  refine lv_icmp_ne (tgt := 16) X.x X.b dX9_isDone_9 (by decide) (fun c1 => ?_) (fun c1 => ?_)
  · have hf := wF c1 hf
    refine lv_iconst (v := 0) X.x X.b dX9_isDone_16 (by decide) ?_
    cases (Option.some.inj hf).trans JR
    exact ro_zret X h (Or.inl rfl) dX9_isDone_17
  · have hf := wT c1 hf
    refine lv_iconst (v := 1) X.x X.b dX9_isDone_12 (by decide) ?_
    refine lv_goto (tgt := 17) X.x X.b dX9_isDone_13 (by decide) ?_
    cases (Option.some.inj hf).trans JR
    exact ro_zret X h (Or.inr rfl) dX9_isDone_17
set_option maxHeartbeats 4000000 in
set_option maxRecDepth 20000 in
theorem kX9_mayBegin (l : Launch) {k : En} {S : Nat → Prop} (hS : ∀ t, S t) {g0 : Mm} {i : Nat} {v : Nat} {a1 : Int32} (hi : i < 2) (hv : v < 12) {res : Int32} (hf : fX9_mayBegin g0 i v a1 = some res) : Mt l yX9_mayBegin cX9_mayBegin 2 (some .boolean) (RmN 1 20) YC S k [.ref (k.1 + adC 19 i v), .int a1] g0 (some (.int res)) g0 := by
  refine Mt.of (by decide) (Nat.le_of_ble_eq_true rfl) ?_
  intro p e s m args below meth c ls X _ h hl
  have X : Cx YC S k p s m args meth c cX9_mayBegin 2 (some .boolean) RX9 := X
  have hl : lv_has ls 2 [(0, .ref (k.1 + adC 19 i v)), (1, .int a1)] := hl
  have JR : res = res := rfl
  unfold fX9_mayBegin at hf
  refine lv_iload_n X.x X.b dX9_mayBegin_0 rfl (lv_at hl 1 rfl) ?_
  obtain ⟨y2, e1, hf⟩ := wBd_s hf
  refine ro_callsI (As := [.int a1]) (g1 := g0) (x := y2) X h (kX3_behind l hS e1) mv_X3_behind lk_X9_70 ⟨rfl, rfl⟩ ⟨(Nat.le_of_ble_eq_true rfl), (Nat.le_of_ble_eq_true rfl)⟩ rfl hl rfl (Nat.le_of_ble_eq_true rfl) ⟨Nat.zero_le _, Nat.zero_le _⟩ dX9_mayBegin_1 (fun H locs h => ?_)
  refine lv_aload_n X.x X.b dX9_mayBegin_4 rfl (lv_at hl 0 rfl) ?_
  refine gC_19_9 X h (hS 19) hi hv lk_X9_55 dX9_mayBegin_5 ?_
  refine lv_iconst (v := (-1)) X.x X.b dX9_mayBegin_8 (by decide) ?_
  refine lv_ixor X.x X.b dX9_mayBegin_9 ?_
  refine lv_iand X.x X.b dX9_mayBegin_10 ?_
  refine lv_if_ne (tgt := 18) X.x X.b dX9_mayBegin_11 (by decide) (fun c3 => ?_) (fun c3 => ?_)
  · have hf := wF c3 hf
    refine lv_iconst (v := 0) X.x X.b dX9_mayBegin_18 (by decide) ?_
    cases (Option.some.inj hf).trans JR
    exact ro_zret X h (Or.inl rfl) dX9_mayBegin_19
  · have hf := wT c3 hf
    refine lv_iconst (v := 1) X.x X.b dX9_mayBegin_14 (by decide) ?_
    refine lv_goto (tgt := 19) X.x X.b dX9_mayBegin_15 (by decide) ?_
    cases (Option.some.inj hf).trans JR
    exact ro_zret X h (Or.inr rfl) dX9_mayBegin_19
set_option maxHeartbeats 4000000 in
set_option maxRecDepth 20000 in
theorem kX9_limit (l : Launch) {k : En} {S : Nat → Prop} (hS : ∀ t, S t) {g0 : Mm} {i : Nat} {v : Nat} (hi : i < 2) (hv : v < 12) {res : Int32} (hf : fX9_limit g0 i v = some res) : Mt l yX9_limit cX9_limit 1 (some .int) (RmN 0 0) YC S k [.ref (k.1 + adC 19 i v)] g0 (some (.int res)) g0 := by
  refine Mt.of (by decide) (Nat.le_of_ble_eq_true rfl) ?_
  intro p e s m args below meth c ls X _ h hl
  have X : Cx YC S k p s m args meth c cX9_limit 1 (some .int) RX9 := X
  have hl : lv_has ls 1 [(0, .ref (k.1 + adC 19 i v))] := hl
  have JR : res = res := rfl
  unfold fX9_limit at hf
  refine lv_aload_n X.x X.b dX9_limit_0 rfl (lv_at hl 0 rfl) ?_
  refine gC_19_1 X h (hS 19) hi hv lk_X9_24 dX9_limit_1 ?_
  refine lv_aload_n X.x X.b dX9_limit_4 rfl (lv_at hl 0 rfl) ?_
  refine gC_19_4 X h (hS 19) hi hv lk_X9_46 dX9_limit_5 ?_
  refine lv_iadd X.x X.b dX9_limit_8 ?_
  refine lv_aload_n X.x X.b dX9_limit_9 rfl (lv_at hl 0 rfl) ?_
  refine gC_19_3 X h (hS 19) hi hv lk_X9_30 dX9_limit_10 ?_
  refine lv_iadd X.x X.b dX9_limit_13 ?_
  cases (Option.some.inj hf).trans JR
  exact ro_iret X h dX9_limit_14
set_option maxHeartbeats 4000000 in
set_option maxRecDepth 20000 in
theorem kX6_joined (l : Launch) {k : En} {S : Nat → Prop} (hS : ∀ t, 1 ≤ t → t ≤ 8 → S t) {g0 : Mm} {a0 : Int32} {a1 : Int32} {a2 : Int32} {res : Int32} (hf : fX6_joined g0 a0 a1 a2 = some res) : Mt l yX6_joined cX6_joined 3 (some .int) (RmN 0 0) YC S k [.int a0, .int a1, .int a2] g0 (some (.int res)) g0 := by
  refine Mt.of (by decide) (Nat.le_of_ble_eq_true rfl) ?_
  intro p e s m args below meth c ls X _ h hl
  have X : Cx YC S k p s m args meth c cX6_joined 3 (some .int) RX6 := X
  have hl : lv_has ls 3 [(0, .int a0), (1, .int a1), (2, .int a2)] := hl
  have JR : res = res := rfl
  unfold fX6_joined at hf
  refine lv_iload_n X.x X.b dX6_joined_0 rfl (lv_at hl 0 rfl) ?_
  by_cases c1 : a0 = (10008 : Int32)
  · have hf := wT c1 hf
    refine lv_tableIn (off := 43) (tgt := 44) X.x X.b dX6_joined_1 (by rw [c1]; decide) (by rw [c1]; decide) (by rw [c1]; rfl) (by decide) ?_
    refine lv_iload_n X.x X.b dX6_joined_44 rfl (lv_at hl 1 rfl) ?_
    refine lv_if_ne (tgt := 52) X.x X.b dX6_joined_45 (by decide) (fun c2 => ?_) (fun c2 => ?_)
    · have hf := wF c2 hf
      refine lv_iconst (v := 1) X.x X.b dX6_joined_52 (by decide) ?_
      refine lv_goto (tgt := 57) X.x X.b dX6_joined_53 (by decide) ?_
      cases (Option.some.inj hf).trans JR
      exact ro_iret X h dX6_joined_57
    · have hf := wT c2 hf
      refine lv_iload_n X.x X.b dX6_joined_48 rfl (lv_at hl 2 rfl) ?_
      refine lv_if_eq (tgt := 56) X.x X.b dX6_joined_49 (by decide) (fun c3 => ?_) (fun c3 => ?_)
      · have hf := wT c3 hf
        refine lv_iconst (v := 0) X.x X.b dX6_joined_56 (by decide) ?_
        cases (Option.some.inj hf).trans JR
        exact ro_iret X h dX6_joined_57
      · have hf := wF c3 hf
        refine lv_iconst (v := 1) X.x X.b dX6_joined_52 (by decide) ?_
        refine lv_goto (tgt := 57) X.x X.b dX6_joined_53 (by decide) ?_
        cases (Option.some.inj hf).trans JR
        exact ro_iret X h dX6_joined_57
  · have hf := wF c1 hf
    by_cases c4 : a0 = (10009 : Int32)
    · have hf := wT c4 hf
      refine lv_tableIn (off := 57) (tgt := 58) X.x X.b dX6_joined_1 (by rw [c4]; decide) (by rw [c4]; decide) (by rw [c4]; rfl) (by decide) ?_
      refine lv_iload_n X.x X.b dX6_joined_58 rfl (lv_at hl 1 rfl) ?_
      refine lv_if_eq (tgt := 70) X.x X.b dX6_joined_59 (by decide) (fun c5 => ?_) (fun c5 => ?_)
      · have hf := wT c5 hf
        refine lv_iconst (v := 0) X.x X.b dX6_joined_70 (by decide) ?_
        cases (Option.some.inj hf).trans JR
        exact ro_iret X h dX6_joined_71
      · have hf := wF c5 hf
        refine lv_iload_n X.x X.b dX6_joined_62 rfl (lv_at hl 2 rfl) ?_
        refine lv_if_eq (tgt := 70) X.x X.b dX6_joined_63 (by decide) (fun c6 => ?_) (fun c6 => ?_)
        · have hf := wT c6 hf
          refine lv_iconst (v := 0) X.x X.b dX6_joined_70 (by decide) ?_
          cases (Option.some.inj hf).trans JR
          exact ro_iret X h dX6_joined_71
        · have hf := wF c6 hf
          refine lv_iconst (v := 1) X.x X.b dX6_joined_66 (by decide) ?_
          refine lv_goto (tgt := 71) X.x X.b dX6_joined_67 (by decide) ?_
          cases (Option.some.inj hf).trans JR
          exact ro_iret X h dX6_joined_71
    · have hf := wF c4 hf
      by_cases c7 : a0 = (10010 : Int32)
      · have hf := wT c7 hf
        refine lv_tableIn (off := 101) (tgt := 102) X.x X.b dX6_joined_1 (by rw [c7]; decide) (by rw [c7]; decide) (by rw [c7]; rfl) (by decide) ?_
        refine lv_iload_n X.x X.b dX6_joined_102 rfl (lv_at hl 1 rfl) ?_
        refine lv_iload_n X.x X.b dX6_joined_103 rfl (lv_at hl 2 rfl) ?_
        refine lv_imul X.x X.b dX6_joined_104 ?_
        cases (Option.some.inj hf).trans JR
        exact ro_iret X h dX6_joined_105
      · have hf := wF c7 hf
        by_cases c8 : a0 = (10011 : Int32)
        · have hf := wT c8 hf
          refine lv_tableIn (off := 71) (tgt := 72) X.x X.b dX6_joined_1 (by rw [c8]; decide) (by rw [c8]; decide) (by rw [c8]; rfl) (by decide) ?_
          refine lv_iload_n X.x X.b dX6_joined_72 rfl (lv_at hl 1 rfl) ?_
          refine lv_iload_n X.x X.b dX6_joined_73 rfl (lv_at hl 2 rfl) ?_
          refine lv_icmp_ge (tgt := 81) X.x X.b dX6_joined_74 (by decide) (fun c9 => ?_) (fun c9 => ?_)
          · have hf := wT c9 hf
            refine lv_iconst (v := 0) X.x X.b dX6_joined_81 (by decide) ?_
            cases (Option.some.inj hf).trans JR
            exact ro_iret X h dX6_joined_82
          · have hf := wF c9 hf
            refine lv_iconst (v := 1) X.x X.b dX6_joined_77 (by decide) ?_
            refine lv_goto (tgt := 82) X.x X.b dX6_joined_78 (by decide) ?_
            cases (Option.some.inj hf).trans JR
            exact ro_iret X h dX6_joined_82
        · have hf := wF c8 hf
          by_cases c10 : a0 = (10012 : Int32)
          · have hf := wT c10 hf
            refine lv_tableIn (off := 82) (tgt := 83) X.x X.b dX6_joined_1 (by rw [c10]; decide) (by rw [c10]; decide) (by rw [c10]; rfl) (by decide) ?_
            refine lv_iload_n X.x X.b dX6_joined_83 rfl (lv_at hl 1 rfl) ?_
            refine lv_iload_n X.x X.b dX6_joined_84 rfl (lv_at hl 2 rfl) ?_
            refine lv_icmp_ne (tgt := 92) X.x X.b dX6_joined_85 (by decide) (fun c11 => ?_) (fun c11 => ?_)
            · have hf := wF c11 hf
              refine lv_iconst (v := 0) X.x X.b dX6_joined_92 (by decide) ?_
              cases (Option.some.inj hf).trans JR
              exact ro_iret X h dX6_joined_93
            · have hf := wT c11 hf
              refine lv_iconst (v := 1) X.x X.b dX6_joined_88 (by decide) ?_
              refine lv_goto (tgt := 93) X.x X.b dX6_joined_89 (by decide) ?_
              cases (Option.some.inj hf).trans JR
              exact ro_iret X h dX6_joined_93
          · have hf := wF c10 hf
            by_cases c12 : a0 = (10013 : Int32)
            · have hf := wT c12 hf
              refine lv_tableIn (off := 93) (tgt := 94) X.x X.b dX6_joined_1 (by rw [c12]; decide) (by rw [c12]; decide) (by rw [c12]; rfl) (by decide) ?_
              refine lv_iload_n X.x X.b dX6_joined_94 rfl (lv_at hl 1 rfl) ?_
              refine lv_iload_n X.x X.b dX6_joined_95 rfl (lv_at hl 2 rfl) ?_
              refine lv_iadd X.x X.b dX6_joined_96 ?_
              cases (Option.some.inj hf).trans JR
              exact ro_iret X h dX6_joined_97
            · have hf := wF c12 hf
              by_cases c13 : a0 = (10014 : Int32)
              · have hf := wT c13 hf
                refine lv_tableIn (off := 97) (tgt := 98) X.x X.b dX6_joined_1 (by rw [c13]; decide) (by rw [c13]; decide) (by rw [c13]; rfl) (by decide) ?_
                refine lv_iload_n X.x X.b dX6_joined_98 rfl (lv_at hl 1 rfl) ?_
                refine lv_iload_n X.x X.b dX6_joined_99 rfl (lv_at hl 2 rfl) ?_
                refine lv_isub X.x X.b dX6_joined_100 ?_
                cases (Option.some.inj hf).trans JR
                exact ro_iret X h dX6_joined_101
              · have hf := wF c13 hf
                refine lv_tableOut (tgt := 102) X.x X.b dX6_joined_1 (by have q0 := lv_neT c1 (a := 10008) rfl; have q1 := lv_neT c4 (a := 10009) rfl; have q2 := lv_neT c7 (a := 10010) rfl; have q3 := lv_neT c8 (a := 10011) rfl; have q4 := lv_neT c10 (a := 10012) rfl; have q5 := lv_neT c12 (a := 10013) rfl; have q6 := lv_neT c13 (a := 10014) rfl; omega) (by decide) ?_
                refine lv_iload_n X.x X.b dX6_joined_102 rfl (lv_at hl 1 rfl) ?_
                refine lv_iload_n X.x X.b dX6_joined_103 rfl (lv_at hl 2 rfl) ?_
                refine lv_imul X.x X.b dX6_joined_104 ?_
                cases (Option.some.inj hf).trans JR
                exact ro_iret X h dX6_joined_105
set_option maxHeartbeats 4000000 in
set_option maxRecDepth 20000 in
theorem wX6_says_b218 {k : En} {S : Nat → Prop} (hS : ∀ t, S t) {i : Nat} {a1 : Int32} {i2 : Nat} (hi : i < 6) (hi2 : i2 < 2) {res : Mm × Int32} (X : Cx YC S k p s m args meth c cX6_says 7 (some .int) RX6) {g : Mm} {x3 : Int32} {x4 : Int32} {x5 : Int32} {H : Heap} {locs : List Loc} {ls : Array Slot} (h : Hx YC S k s g H locs) (hl : lv_has ls 7 [(0, .ref (k.1 + adC 5 i 0)), (2, .ref (k.1 + adC 18 i2 0)), (3, .int x3), (4, .int x4), (5, .int x5)]) {r : (Mm × Int32 × Int32) ⊕ (Mm × Int32)} (hf : fX6_says_b218 g i a1 i2 x3 x4 x5 = some r) (J1 : ∀ (g : Mm) (x3 : Int32) (x5 : Int32), r = .inl (g, x3, x5) → ∀ (H : Heap) (locs : List Loc) (ls : Array Slot), Hx YC S k s g H locs → lv_has ls 7 [(0, .ref (k.1 + adC 5 i 0)), (2, .ref (k.1 + adC 18 i2 0)), (3, .int x3), (4, .int x4), (5, .int x5)] → W p l e (RmN 1 22) s m args below meth c H locs 0 0 (Fin YC S k args s below (some (.int res.2)) res.1) (F0 m 28 ls [])) (JR : ∀ t1, r = .inr t1 → t1 = res) :
    W p l e (RmN 1 22) s m args below meth c H locs 0 0 (Fin YC S k args s below (some (.int res.2)) res.1) (F0 m 218 ls []) := by
  unfold fX6_says_b218 at hf
  obtain ⟨y20, e21, hf⟩ := wLe_s hf
  refine lv_iinc (v := y20) (lv' := [(5, .int y20), (0, .ref (k.1 + adC 5 i 0)), (2, .ref (k.1 + adC 18 i2 0)), (3, .int x3), (4, .int x4)]) X.x X.b dX6_says_218 hl (k := 4) rfl (by rw [e21]; rfl) (by decide) rfl (fun ls hl => ?_)
  refine lv_goto (tgt := 28) X.x X.b dX6_says_221 (by decide) ?_
  exact J1 _ _ _ (Option.some.inj hf).symm _ _ _ h (lv_sub hl [1, 2, 3, 4, 0] rfl)
set_option maxHeartbeats 4000000 in
set_option maxRecDepth 20000 in
theorem wX6_says_b183 {k : En} {S : Nat → Prop} (hS : ∀ t, S t) {i : Nat} {a1 : Int32} {i2 : Nat} (hi : i < 6) (hi2 : i2 < 2) {res : Mm × Int32} (X : Cx YC S k p s m args meth c cX6_says 7 (some .int) RX6) {g : Mm} {x3 : Int32} {x4 : Int32} {x5 : Int32} {x6 : Int32} {H : Heap} {locs : List Loc} {ls : Array Slot} (h : Hx YC S k s g H locs) (hl : lv_has ls 7 [(0, .ref (k.1 + adC 5 i 0)), (2, .ref (k.1 + adC 18 i2 0)), (3, .int x3), (4, .int x4), (5, .int x5), (6, .int x6)]) {r : (Mm × Int32 × Int32) ⊕ (Mm × Int32)} (hf : fX6_says_b183 g i a1 i2 x3 x4 x5 x6 = some r) (J1 : ∀ (g : Mm) (x3 : Int32) (x5 : Int32), r = .inl (g, x3, x5) → ∀ (H : Heap) (locs : List Loc) (ls : Array Slot), Hx YC S k s g H locs → lv_has ls 7 [(0, .ref (k.1 + adC 5 i 0)), (2, .ref (k.1 + adC 18 i2 0)), (3, .int x3), (4, .int x4), (5, .int x5)] → W p l e (RmN 1 22) s m args below meth c H locs 0 0 (Fin YC S k args s below (some (.int res.2)) res.1) (F0 m 28 ls [])) (JR : ∀ t1, r = .inr t1 → t1 = res) :
    W p l e (RmN 1 22) s m args below meth c H locs 0 0 (Fin YC S k args s below (some (.int res.2)) res.1) (F0 m 183 ls []) := by
  unfold fX6_says_b183 at hf
  refine lv_iload_n X.x X.b dX6_says_183 rfl (lv_at hl 2 rfl) ?_
  refine lv_iconst (v := 1) X.x X.b dX6_says_184 (by decide) ?_
  refine lv_icmp_le (tgt := 218) X.x X.b dX6_says_185 (by decide) (fun c19 => ?_) (fun c19 => ?_)
  · have hf := wT c19 hf
    exact wX6_says_b218 hS hi hi2 X h (lv_sub hl [0, 1, 2, 3, 4] rfl) hf J1 JR
  · have hf := wF c19 hf
    obtain ⟨y22, e23, hf⟩ := wLe_s hf
    refine lv_iinc (v := y22) (lv' := [(3, .int y22), (0, .ref (k.1 + adC 5 i 0)), (2, .ref (k.1 + adC 18 i2 0)), (4, .int x4), (5, .int x5), (6, .int x6)]) X.x X.b dX6_says_188 hl (k := 2) rfl (by rw [e23]; rfl) (by decide) rfl (fun ls hl => ?_)
    refine lv_aload_n X.x X.b dX6_says_191 rfl (lv_at hl 1 rfl) ?_
    refine gC_5_2 X h (hS 5) hi Nat.one_pos lk_X6_18 dX6_says_192 ?_
    refine lv_iload_n X.x X.b dX6_says_195 rfl (lv_at hl 0 rfl) ?_
    refine lv_iconst (v := 1) X.x X.b dX6_says_196 (by decide) ?_
    refine lv_isub X.x X.b dX6_says_197 ?_
    refine lv_iload X.x X.b dX6_says_198 (lv_at hl 5 rfl) ?_
    refine lv_aload_n X.x X.b dX6_says_200 rfl (lv_at hl 1 rfl) ?_
    refine gC_5_2 X h (hS 5) hi Nat.one_pos lk_X6_18 dX6_says_201 ?_
    refine lv_iload_n X.x X.b dX6_says_204 rfl (lv_at hl 0 rfl) ?_
    refine lv_iconst (v := 1) X.x X.b dX6_says_205 (by decide) ?_
    refine lv_isub X.x X.b dX6_says_206 ?_
    obtain ⟨b24, hf⟩ := wGi_s hf
    refine aC_8 X h (hS 8) hi Nat.one_pos b24 dX6_says_207 ?_
    refine lv_aload_n X.x X.b dX6_says_208 rfl (lv_at hl 1 rfl) ?_
    refine gC_5_2 X h (hS 5) hi Nat.one_pos lk_X6_18 dX6_says_209 ?_
    refine lv_iload_n X.x X.b dX6_says_212 rfl (lv_at hl 0 rfl) ?_
    obtain ⟨b25, hf⟩ := wGi_s hf
    refine aC_8 X h (hS 8) hi Nat.one_pos b25 dX6_says_213 ?_
    obtain ⟨y27, e26, hf⟩ := wBd_s hf
    refine ro_callsI (As := [.int x6, .int (g 8 i 0 (y22 - (1 : Int32)).toNatClampNeg), .int (g 8 i 0 (y22).toNatClampNeg)]) (g1 := g) (x := y27) X h (kX6_joined l (fun t _ _ => hS t) e26) mv_X6_joined lk_X6_25 ⟨rfl, rfl⟩ ⟨(Nat.le_of_ble_eq_true rfl), (Nat.le_of_ble_eq_true rfl)⟩ rfl hl rfl (Nat.le_of_ble_eq_true rfl) ⟨Nat.zero_le _, Nat.zero_le _⟩ dX6_says_214 (fun H locs h => ?_)
    obtain ⟨b28, hf⟩ := wGi_s hf
    obtain ⟨g29, e30, hf⟩ := wLe_s hf
    refine bC_8 X h (hS 8) hi Nat.one_pos e30 b28 dX6_says_217 (fun H locs h => ?_)
    exact wX6_says_b218 hS hi hi2 X h (lv_sub hl [1, 2, 0, 3, 4] rfl) hf J1 JR
set_option maxHeartbeats 4000000 in
set_option maxRecDepth 20000 in
theorem wX6_says_b179 {k : En} {S : Nat → Prop} (hS : ∀ t, S t) {i : Nat} {a1 : Int32} {i2 : Nat} (hi : i < 6) (hi2 : i2 < 2) {res : Mm × Int32} (X : Cx YC S k p s m args meth c cX6_says 7 (some .int) RX6) {g : Mm} {x3 : Int32} {x4 : Int32} {x5 : Int32} {z1 : Int32} {z2 : Int32} {H : Heap} {locs : List Loc} {ls : Array Slot} (h : Hx YC S k s g H locs) (hl : lv_has ls 7 [(0, .ref (k.1 + adC 5 i 0)), (2, .ref (k.1 + adC 18 i2 0)), (3, .int x3), (4, .int x4), (5, .int x5)]) {r : (Mm × Int32 × Int32) ⊕ (Mm × Int32)} (hf : fX6_says_b179 g i a1 i2 x3 x4 x5 z1 z2 = some r) (J1 : ∀ (g : Mm) (x3 : Int32) (x5 : Int32), r = .inl (g, x3, x5) → ∀ (H : Heap) (locs : List Loc) (ls : Array Slot), Hx YC S k s g H locs → lv_has ls 7 [(0, .ref (k.1 + adC 5 i 0)), (2, .ref (k.1 + adC 18 i2 0)), (3, .int x3), (4, .int x4), (5, .int x5)] → W p l e (RmN 1 22) s m args below meth c H locs 0 0 (Fin YC S k args s below (some (.int res.2)) res.1) (F0 m 28 ls [])) (JR : ∀ t1, r = .inr t1 → t1 = res) :
    W p l e (RmN 1 22) s m args below meth c H locs 0 0 (Fin YC S k args s below (some (.int res.2)) res.1) (F0 m 179 ls [.int z2, .int z1, .ref (k.1 + adC 8 i 0)]) := by
  unfold fX6_says_b179 at hf
  obtain ⟨b34, hf⟩ := wGi_s hf
  obtain ⟨g35, e36, hf⟩ := wLe_s hf
  refine bC_8 X h (hS 8) hi Nat.one_pos e36 b34 dX6_says_179 (fun H locs h => ?_)
  refine lv_goto (tgt := 218) X.x X.b dX6_says_180 (by decide) ?_
  exact wX6_says_b218 hS hi hi2 X h (lv_sub hl [0, 1, 2, 3, 4] rfl) hf J1 JR
set_option maxHeartbeats 4000000 in
set_option maxRecDepth 20000 in
theorem wX6_says_b144 {k : En} {S : Nat → Prop} (hS : ∀ t, S t) {i : Nat} {a1 : Int32} {i2 : Nat} (hi : i < 6) (hi2 : i2 < 2) {res : Mm × Int32} (X : Cx YC S k p s m args meth c cX6_says 7 (some .int) RX6) {g : Mm} {x3 : Int32} {x4 : Int32} {x5 : Int32} {x6 : Int32} {H : Heap} {locs : List Loc} {ls : Array Slot} (h : Hx YC S k s g H locs) (hl : lv_has ls 7 [(0, .ref (k.1 + adC 5 i 0)), (2, .ref (k.1 + adC 18 i2 0)), (3, .int x3), (4, .int x4), (5, .int x5), (6, .int x6)]) {r : (Mm × Int32 × Int32) ⊕ (Mm × Int32)} (hf : fX6_says_b144 g i a1 i2 x3 x4 x5 x6 = some r) (J1 : ∀ (g : Mm) (x3 : Int32) (x5 : Int32), r = .inl (g, x3, x5) → ∀ (H : Heap) (locs : List Loc) (ls : Array Slot), Hx YC S k s g H locs → lv_has ls 7 [(0, .ref (k.1 + adC 5 i 0)), (2, .ref (k.1 + adC 18 i2 0)), (3, .int x3), (4, .int x4), (5, .int x5)] → W p l e (RmN 1 22) s m args below meth c H locs 0 0 (Fin YC S k args s below (some (.int res.2)) res.1) (F0 m 28 ls [])) (JR : ∀ t1, r = .inr t1 → t1 = res) :
    W p l e (RmN 1 22) s m args below meth c H locs 0 0 (Fin YC S k args s below (some (.int res.2)) res.1) (F0 m 144 ls []) := by
  unfold fX6_says_b144 at hf
  refine lv_iload X.x X.b dX6_says_144 (lv_at hl 5 rfl) ?_
  refine lv_sipush (v := 10010) X.x X.b dX6_says_146 (by decide) ?_
  refine lv_icmp_ne (tgt := 183) X.x X.b dX6_says_149 (by decide) (fun c18 => ?_) (fun c18 => ?_)
  · have hf := wF c18 hf
    exact wX6_says_b183 hS hi hi2 X h (lv_sub hl [0, 1, 2, 3, 4, 5] rfl) hf J1 JR
  · have hf := wT c18 hf
    refine lv_iload_n X.x X.b dX6_says_152 rfl (lv_at hl 2 rfl) ?_
    refine lv_if_le (tgt := 183) X.x X.b dX6_says_153 (by decide) (fun c31 => ?_) (fun c31 => ?_)
    · have hf := wT c31 hf
      exact wX6_says_b183 hS hi hi2 X h (lv_sub hl [0, 1, 2, 3, 4, 5] rfl) hf J1 JR
    · have hf := wF c31 hf
      refine lv_aload_n X.x X.b dX6_says_156 rfl (lv_at hl 0 rfl) ?_
      refine gC_5_2 X h (hS 5) hi Nat.one_pos lk_X6_18 dX6_says_157 ?_
      refine lv_iload_n X.x X.b dX6_says_160 rfl (lv_at hl 2 rfl) ?_
      refine lv_iconst (v := 1) X.x X.b dX6_says_161 (by decide) ?_
      refine lv_isub X.x X.b dX6_says_162 ?_
      refine lv_aload_n X.x X.b dX6_says_163 rfl (lv_at hl 0 rfl) ?_
      refine gC_5_2 X h (hS 5) hi Nat.one_pos lk_X6_18 dX6_says_164 ?_
      refine lv_iload_n X.x X.b dX6_says_167 rfl (lv_at hl 2 rfl) ?_
      refine lv_iconst (v := 1) X.x X.b dX6_says_168 (by decide) ?_
      refine lv_isub X.x X.b dX6_says_169 ?_
      obtain ⟨b32, hf⟩ := wGi_s hf
      refine aC_8 X h (hS 8) hi Nat.one_pos b32 dX6_says_170 ?_
      refine lv_if_ne (tgt := 178) X.x X.b dX6_says_171 (by decide) (fun c33 => ?_) (fun c33 => ?_)
      · have hf := wF c33 hf
        refine lv_iconst (v := 0) X.x X.b dX6_says_178 (by decide) ?_
        exact wX6_says_b179 hS hi hi2 X h (lv_sub hl [0, 1, 2, 3, 4] rfl) hf J1 JR
      · have hf := wT c33 hf
        refine lv_iconst (v := 1) X.x X.b dX6_says_174 (by decide) ?_
        refine lv_goto (tgt := 179) X.x X.b dX6_says_175 (by decide) ?_
        exact wX6_says_b179 hS hi hi2 X h (lv_sub hl [0, 1, 2, 3, 4] rfl) hf J1 JR
set_option maxHeartbeats 4000000 in
set_option maxRecDepth 20000 in
theorem wX6_says_b112 {k : En} {S : Nat → Prop} (hS : ∀ t, S t) {i : Nat} {a1 : Int32} {i2 : Nat} (hi : i < 6) (hi2 : i2 < 2) {res : Mm × Int32} (X : Cx YC S k p s m args meth c cX6_says 7 (some .int) RX6) {g : Mm} {x3 : Int32} {x4 : Int32} {x5 : Int32} {x6 : Int32} {H : Heap} {locs : List Loc} {ls : Array Slot} (h : Hx YC S k s g H locs) (hl : lv_has ls 7 [(0, .ref (k.1 + adC 5 i 0)), (2, .ref (k.1 + adC 18 i2 0)), (3, .int x3), (4, .int x4), (5, .int x5), (6, .int x6)]) {r : (Mm × Int32 × Int32) ⊕ (Mm × Int32)} (hf : fX6_says_b112 g i a1 i2 x3 x4 x5 x6 = some r) (J1 : ∀ (g : Mm) (x3 : Int32) (x5 : Int32), r = .inl (g, x3, x5) → ∀ (H : Heap) (locs : List Loc) (ls : Array Slot), Hx YC S k s g H locs → lv_has ls 7 [(0, .ref (k.1 + adC 5 i 0)), (2, .ref (k.1 + adC 18 i2 0)), (3, .int x3), (4, .int x4), (5, .int x5)] → W p l e (RmN 1 22) s m args below meth c H locs 0 0 (Fin YC S k args s below (some (.int res.2)) res.1) (F0 m 28 ls [])) (JR : ∀ t1, r = .inr t1 → t1 = res) :
    W p l e (RmN 1 22) s m args below meth c H locs 0 0 (Fin YC S k args s below (some (.int res.2)) res.1) (F0 m 112 ls []) := by
  unfold fX6_says_b112 at hf
  refine lv_iload X.x X.b dX6_says_112 (lv_at hl 5 rfl) ?_
  refine lv_sipush (v := 10016) X.x X.b dX6_says_114 (by decide) ?_
  refine lv_icmp_ne (tgt := 144) X.x X.b dX6_says_117 (by decide) (fun c17 => ?_) (fun c17 => ?_)
  · have hf := wF c17 hf
    exact wX6_says_b144 hS hi hi2 X h (lv_sub hl [0, 1, 2, 3, 4, 5] rfl) hf J1 JR
  · have hf := wT c17 hf
    refine lv_iload_n X.x X.b dX6_says_120 rfl (lv_at hl 2 rfl) ?_
    refine lv_if_le (tgt := 144) X.x X.b dX6_says_121 (by decide) (fun c37 => ?_) (fun c37 => ?_)
    · have hf := wT c37 hf
      exact wX6_says_b144 hS hi hi2 X h (lv_sub hl [0, 1, 2, 3, 4, 5] rfl) hf J1 JR
    · have hf := wF c37 hf
      refine lv_aload_n X.x X.b dX6_says_124 rfl (lv_at hl 0 rfl) ?_
      refine gC_5_2 X h (hS 5) hi Nat.one_pos lk_X6_18 dX6_says_125 ?_
      refine lv_iload_n X.x X.b dX6_says_128 rfl (lv_at hl 2 rfl) ?_
      refine lv_iconst (v := 1) X.x X.b dX6_says_129 (by decide) ?_
      refine lv_isub X.x X.b dX6_says_130 ?_
      refine lv_aload_n X.x X.b dX6_says_131 rfl (lv_at hl 0 rfl) ?_
      refine gC_5_2 X h (hS 5) hi Nat.one_pos lk_X6_18 dX6_says_132 ?_
      refine lv_iload_n X.x X.b dX6_says_135 rfl (lv_at hl 2 rfl) ?_
      refine lv_iconst (v := 1) X.x X.b dX6_says_136 (by decide) ?_
      refine lv_isub X.x X.b dX6_says_137 ?_
      obtain ⟨b38, hf⟩ := wGi_s hf
      refine aC_8 X h (hS 8) hi Nat.one_pos b38 dX6_says_138 ?_
      refine lv_ineg X.x X.b dX6_says_139 ?_
      obtain ⟨b39, hf⟩ := wGi_s hf
      obtain ⟨g40, e41, hf⟩ := wLe_s hf
      refine bC_8 X h (hS 8) hi Nat.one_pos e41 b39 dX6_says_140 (fun H locs h => ?_)
      refine lv_goto (tgt := 218) X.x X.b dX6_says_141 (by decide) ?_
      exact wX6_says_b218 hS hi hi2 X h (lv_sub hl [0, 1, 2, 3, 4] rfl) hf J1 JR
set_option maxHeartbeats 4000000 in
set_option maxRecDepth 20000 in
theorem wX6_says_b75 {k : En} {S : Nat → Prop} (hS : ∀ t, S t) {i : Nat} {a1 : Int32} {i2 : Nat} (hi : i < 6) (hi2 : i2 < 2) {res : Mm × Int32} (X : Cx YC S k p s m args meth c cX6_says 7 (some .int) RX6) {g : Mm} {x3 : Int32} {x4 : Int32} {x5 : Int32} {x6 : Int32} {H : Heap} {locs : List Loc} {ls : Array Slot} (h : Hx YC S k s g H locs) (hl : lv_has ls 7 [(0, .ref (k.1 + adC 5 i 0)), (2, .ref (k.1 + adC 18 i2 0)), (3, .int x3), (4, .int x4), (5, .int x5), (6, .int x6)]) {r : (Mm × Int32 × Int32) ⊕ (Mm × Int32)} (hf : fX6_says_b75 g i a1 i2 x3 x4 x5 x6 = some r) (J1 : ∀ (g : Mm) (x3 : Int32) (x5 : Int32), r = .inl (g, x3, x5) → ∀ (H : Heap) (locs : List Loc) (ls : Array Slot), Hx YC S k s g H locs → lv_has ls 7 [(0, .ref (k.1 + adC 5 i 0)), (2, .ref (k.1 + adC 18 i2 0)), (3, .int x3), (4, .int x4), (5, .int x5)] → W p l e (RmN 1 22) s m args below meth c H locs 0 0 (Fin YC S k args s below (some (.int res.2)) res.1) (F0 m 28 ls [])) (JR : ∀ t1, r = .inr t1 → t1 = res) :
    W p l e (RmN 1 22) s m args below meth c H locs 0 0 (Fin YC S k args s below (some (.int res.2)) res.1) (F0 m 75 ls []) := by
  unfold fX6_says_b75 at hf
  refine lv_iload X.x X.b dX6_says_75 (lv_at hl 5 rfl) ?_
  refine lv_sipush (v := 10008) X.x X.b dX6_says_77 (by decide) ?_
  refine lv_icmp_ge (tgt := 112) X.x X.b dX6_says_80 (by decide) (fun c16 => ?_) (fun c16 => ?_)
  · have hf := wT c16 hf
    exact wX6_says_b112 hS hi hi2 X h (lv_sub hl [0, 1, 2, 3, 4, 5] rfl) hf J1 JR
  · have hf := wF c16 hf
    refine lv_iload_n X.x X.b dX6_says_83 rfl (lv_at hl 2 rfl) ?_
    refine lv_aload_n X.x X.b dX6_says_84 rfl (lv_at hl 0 rfl) ?_
    refine gC_5_2 X h (hS 5) hi Nat.one_pos lk_X6_18 dX6_says_85 ?_
    refine nC_8 X h (hS 8) hi Nat.one_pos dX6_says_88 ?_
    refine lv_icmp_ge (tgt := 112) X.x X.b dX6_says_89 (by decide) (fun c42 => ?_) (fun c42 => ?_)
    · have hf := wT c42 hf
      exact wX6_says_b112 hS hi hi2 X h (lv_sub hl [0, 1, 2, 3, 4, 5] rfl) hf J1 JR
    · have hf := wF c42 hf
      refine lv_aload_n X.x X.b dX6_says_92 rfl (lv_at hl 0 rfl) ?_
      refine gC_5_2 X h (hS 5) hi Nat.one_pos lk_X6_18 dX6_says_93 ?_
      refine lv_iload_n X.x X.b dX6_says_96 rfl (lv_at hl 2 rfl) ?_
      refine lv_aload_n X.x X.b dX6_says_97 rfl (lv_at hl 1 rfl) ?_
      refine lv_iload X.x X.b dX6_says_98 (lv_at hl 5 rfl) ?_
      refine lv_sipush (v := 10000) X.x X.b dX6_says_100 (by decide) ?_
      refine lv_isub X.x X.b dX6_says_103 ?_
      obtain ⟨b43, hf⟩ := wGi_s hf
      refine aC_18 X h (hS 18) hi2 Nat.one_pos b43 dX6_says_104 ?_
      obtain ⟨b44, hf⟩ := wGi_s hf
      obtain ⟨g45, e46, hf⟩ := wLe_s hf
      refine bC_8 X h (hS 8) hi Nat.one_pos e46 b44 dX6_says_105 (fun H locs h => ?_)
      obtain ⟨y47, e48, hf⟩ := wLe_s hf
      refine lv_iinc (v := y47) (lv' := [(3, .int y47), (0, .ref (k.1 + adC 5 i 0)), (2, .ref (k.1 + adC 18 i2 0)), (4, .int x4), (5, .int x5), (6, .int x6)]) X.x X.b dX6_says_106 hl (k := 2) rfl (by rw [e48]; rfl) (by decide) rfl (fun ls hl => ?_)
      refine lv_goto (tgt := 218) X.x X.b dX6_says_109 (by decide) ?_
      exact wX6_says_b218 hS hi hi2 X h (lv_sub hl [1, 2, 0, 3, 4] rfl) hf J1 JR
set_option maxHeartbeats 4000000 in
set_option maxRecDepth 20000 in
theorem wX6_says_L28 {k : En} {S : Nat → Prop} (hS : ∀ t, S t) {i : Nat} {a1 : Int32} {i2 : Nat} (hi : i < 6) (hi2 : i2 < 2) {res : Mm × Int32} (X : Cx YC S k p s m args meth c cX6_says 7 (some .int) RX6) {x4 : Int32} {r : Mm × Int32} (JR : r = res) :
    ∀ (fu : Nat) (g : Mm) (x3 : Int32) (x5 : Int32) (H : Heap) (locs : List Loc) (ls : Array Slot), Hx YC S k s g H locs → lv_has ls 7 [(0, .ref (k.1 + adC 5 i 0)), (2, .ref (k.1 + adC 18 i2 0)), (3, .int x3), (4, .int x4), (5, .int x5)] → wLp (fun q => fX6_says_B28 q.1 i a1 i2 q.2.1 x4 q.2.2) fu (g, x3, x5) = some r → W p l e (RmN 1 22) s m args below meth c H locs 0 0 (Fin YC S k args s below (some (.int res.2)) res.1) (F0 m 28 ls []) := by
  intro fu
  induction fu with
  | zero => intro g x3 x5 H locs ls h hl hf; exact (wLp_0 hf).elim
  | succ fu ih1 =>
    intro g x3 x5 H locs ls h hl hf
    obtain ⟨r1, hf, hr⟩ := wLp_s hf
    have J1n : ∀ (g : Mm) (x3 : Int32) (x5 : Int32), r1 = .inl (g, x3, x5) → ∀ (H : Heap) (locs : List Loc) (ls : Array Slot), Hx YC S k s g H locs → lv_has ls 7 [(0, .ref (k.1 + adC 5 i 0)), (2, .ref (k.1 + adC 18 i2 0)), (3, .int x3), (4, .int x4), (5, .int x5)] → W p l e (RmN 1 22) s m args below meth c H locs 0 0 (Fin YC S k args s below (some (.int res.2)) res.1) (F0 m 28 ls []) := fun g x3 x5 q H locs ls h hl => by subst q; exact ih1 _ _ _ _ _ _ h hl hr
    have JRn : ∀ t1, r1 = .inr t1 → t1 = res := fun t1 q => by subst q; obtain rfl := Option.some.inj hr; exact JR
    have J1 := J1n
    have JR := JRn
    clear J1n JRn
    have hf : fX6_says_B28 g i a1 i2 x3 x4 x5 = some r1 := hf
    unfold fX6_says_B28 at hf
    refine lv_iload X.x X.b dX6_says_28 (lv_at hl 4 rfl) ?_
    refine lv_iload X.x X.b dX6_says_30 (lv_at hl 3 rfl) ?_
    refine lv_icmp_ge (tgt := 224) X.x X.b dX6_says_32 (by decide) (fun c8 => ?_) (fun c8 => ?_)
    · have hf := wT c8 hf
      obtain ⟨t9, hf, e10⟩ := wEx_s hf
      have JR := JR t9 e10
      refine lv_aload_n X.x X.b dX6_says_224 rfl (lv_at hl 0 rfl) ?_
      refine gC_5_2 X h (hS 5) hi Nat.one_pos lk_X6_18 dX6_says_225 ?_
      refine lv_iconst (v := 0) X.x X.b dX6_says_228 (by decide) ?_
      obtain ⟨b11, hf⟩ := wGi_s hf
      refine aC_8 X h (hS 8) hi Nat.one_pos b11 dX6_says_229 ?_
      cases (Option.some.inj hf).trans JR
      exact ro_iret X h dX6_says_230
    · have hf := wF c8 hf
      refine lv_aload_n X.x X.b dX6_says_35 rfl (lv_at hl 0 rfl) ?_
      refine gC_5_0 X h (hS 5) hi Nat.one_pos lk_X6_11 dX6_says_36 ?_
      refine lv_iload X.x X.b dX6_says_39 (lv_at hl 4 rfl) ?_
      obtain ⟨b12, hf⟩ := wGi_s hf
      refine aC_6 X h (hS 6) hi Nat.one_pos b12 dX6_says_41 ?_
      obtain ⟨y13, e14, hf⟩ := wLe_s hf
      refine lv_nmi e14 ?_
      refine lv_istore (lv' := [(6, .int y13), (0, .ref (k.1 + adC 5 i 0)), (2, .ref (k.1 + adC 18 i2 0)), (3, .int x3), (4, .int x4), (5, .int x5)]) X.x X.b dX6_says_42 hl (by decide) rfl (fun ls hl => ?_)
      refine lv_iload X.x X.b dX6_says_44 (lv_at hl 0 rfl) ?_
      refine lv_sipush (v := 10000) X.x X.b dX6_says_46 (by decide) ?_
      refine lv_icmp_ge (tgt := 75) X.x X.b dX6_says_49 (by decide) (fun c15 => ?_) (fun c15 => ?_)
      · have hf := wT c15 hf
        exact wX6_says_b75 hS hi hi2 X h (lv_sub hl [1, 2, 3, 4, 5, 0] rfl) hf J1 JR
      · have hf := wF c15 hf
        refine lv_iload_n X.x X.b dX6_says_52 rfl (lv_at hl 3 rfl) ?_
        refine lv_aload_n X.x X.b dX6_says_53 rfl (lv_at hl 1 rfl) ?_
        refine gC_5_2 X h (hS 5) hi Nat.one_pos lk_X6_18 dX6_says_54 ?_
        refine nC_8 X h (hS 8) hi Nat.one_pos dX6_says_57 ?_
        refine lv_icmp_ge (tgt := 75) X.x X.b dX6_says_58 (by decide) (fun c49 => ?_) (fun c49 => ?_)
        · have hf := wT c49 hf
          exact wX6_says_b75 hS hi hi2 X h (lv_sub hl [1, 2, 3, 4, 5, 0] rfl) hf J1 JR
        · have hf := wF c49 hf
          refine lv_aload_n X.x X.b dX6_says_61 rfl (lv_at hl 1 rfl) ?_
          refine gC_5_2 X h (hS 5) hi Nat.one_pos lk_X6_18 dX6_says_62 ?_
          refine lv_iload_n X.x X.b dX6_says_65 rfl (lv_at hl 3 rfl) ?_
          refine lv_iload X.x X.b dX6_says_66 (lv_at hl 0 rfl) ?_
          obtain ⟨b50, hf⟩ := wGi_s hf
          obtain ⟨g51, e52, hf⟩ := wLe_s hf
          refine bC_8 X h (hS 8) hi Nat.one_pos e52 b50 dX6_says_68 (fun H locs h => ?_)
          obtain ⟨y53, e54, hf⟩ := wLe_s hf
          refine lv_iinc (v := y53) (lv' := [(3, .int y53), (6, .int y13), (0, .ref (k.1 + adC 5 i 0)), (2, .ref (k.1 + adC 18 i2 0)), (4, .int x4), (5, .int x5)]) X.x X.b dX6_says_69 hl (k := 3) rfl (by rw [e54]; rfl) (by decide) rfl (fun ls hl => ?_)
          refine lv_goto (tgt := 218) X.x X.b dX6_says_72 (by decide) ?_
          exact wX6_says_b218 hS hi hi2 X h (lv_sub hl [2, 3, 0, 4, 5] rfl) hf J1 JR
set_option maxHeartbeats 4000000 in
set_option maxRecDepth 20000 in
theorem wX6_says_b26 {k : En} {S : Nat → Prop} (hS : ∀ t, S t) {i : Nat} {a1 : Int32} {i2 : Nat} (hi : i < 6) (hi2 : i2 < 2) {res : Mm × Int32} (X : Cx YC S k p s m args meth c cX6_says 7 (some .int) RX6) {g : Mm} {x3 : Int32} {x4 : Int32} {z0 : Int32} {H : Heap} {locs : List Loc} {ls : Array Slot} (h : Hx YC S k s g H locs) (hl : lv_has ls 7 [(0, .ref (k.1 + adC 5 i 0)), (2, .ref (k.1 + adC 18 i2 0)), (3, .int x3), (4, .int x4)]) {r : Mm × Int32} (hf : fX6_says_b26 g i a1 i2 x3 x4 z0 = some r) (JR : r = res) :
    W p l e (RmN 1 22) s m args below meth c H locs 0 0 (Fin YC S k args s below (some (.int res.2)) res.1) (F0 m 26 ls [.int z0]) := by
  unfold fX6_says_b26 at hf
  refine lv_istore (lv' := [(5, .int z0), (0, .ref (k.1 + adC 5 i 0)), (2, .ref (k.1 + adC 18 i2 0)), (3, .int x3), (4, .int x4)]) X.x X.b dX6_says_26 hl (by decide) rfl (fun ls hl => ?_)
  exact wX6_says_L28 hS hi hi2 X JR _ _ _ _ _ _ _ h (lv_sub hl [1, 2, 3, 4, 0] rfl) hf
set_option maxHeartbeats 4000000 in
set_option maxRecDepth 20000 in
theorem kX6_says (l : Launch) {k : En} {S : Nat → Prop} (hS : ∀ t, S t) {i : Nat} {a1 : Int32} {i2 : Nat} (hi : i < 6) (hi2 : i2 < 2) {res : Mm × Int32} {g : Mm} (hf : fX6_says g i a1 i2 = some res) : Mt l yX6_says cX6_says 7 (some .int) (RmN 1 22) YC S k [.ref (k.1 + adC 5 i 0), .int a1, .ref (k.1 + adC 18 i2 0)] g (some (.int res.2)) res.1 := by
  refine Mt.of (by decide) (Nat.le_of_ble_eq_true rfl) ?_
  intro p e s m args below meth c ls X _ h hl
  have X : Cx YC S k p s m args meth c cX6_says 7 (some .int) RX6 := X
  have hl : lv_has ls 7 [(0, .ref (k.1 + adC 5 i 0)), (1, .int a1), (2, .ref (k.1 + adC 18 i2 0))] := hl
  have JR : res = res := rfl
  unfold fX6_says at hf
  refine lv_iconst (v := 0) X.x X.b dX6_says_0 (by decide) ?_
  obtain ⟨y1, e2, hf⟩ := wLe_s hf
  refine lv_nmi e2 ?_
  refine lv_istore_n (lv' := [(3, .int y1), (0, .ref (k.1 + adC 5 i 0)), (1, .int a1), (2, .ref (k.1 + adC 18 i2 0))]) X.x X.b dX6_says_1 rfl hl (by decide) rfl (fun ls hl => ?_)
  refine lv_aload_n X.x X.b dX6_says_2 rfl (lv_at hl 1 rfl) ?_
  refine gC_5_1 X h (hS 5) hi Nat.one_pos lk_X6_15 dX6_says_3 ?_
  refine lv_iload_n X.x X.b dX6_says_6 rfl (lv_at hl 2 rfl) ?_
  obtain ⟨b3, hf⟩ := wGi_s hf
  refine aC_7 X h (hS 7) hi Nat.one_pos b3 dX6_says_7 ?_
  obtain ⟨y4, e5, hf⟩ := wLe_s hf
  refine lv_nmi e5 ?_
  refine lv_istore (lv' := [(4, .int y4), (3, .int y1), (0, .ref (k.1 + adC 5 i 0)), (1, .int a1), (2, .ref (k.1 + adC 18 i2 0))]) X.x X.b dX6_says_8 hl (by decide) rfl (fun ls hl => ?_)
  refine lv_iload_n X.x X.b dX6_says_10 rfl (lv_at hl 3 rfl) ?_
  refine lv_if_ne (tgt := 18) X.x X.b dX6_says_11 (by decide) (fun c6 => ?_) (fun c6 => ?_)
  · have hf := wF c6 hf
    refine lv_aload_n X.x X.b dX6_says_18 rfl (lv_at hl 2 rfl) ?_
    refine gC_5_1 X h (hS 5) hi Nat.one_pos lk_X6_15 dX6_says_19 ?_
    refine lv_iload_n X.x X.b dX6_says_22 rfl (lv_at hl 3 rfl) ?_
    refine lv_iconst (v := 1) X.x X.b dX6_says_23 (by decide) ?_
    refine lv_isub X.x X.b dX6_says_24 ?_
    obtain ⟨b7, hf⟩ := wGi_s hf
    refine aC_7 X h (hS 7) hi Nat.one_pos b7 dX6_says_25 ?_
    exact wX6_says_b26 hS hi hi2 X h (lv_sub hl [2, 4, 1, 0] rfl) hf JR
  · have hf := wT c6 hf
    refine lv_iconst (v := 0) X.x X.b dX6_says_14 (by decide) ?_
    refine lv_goto (tgt := 26) X.x X.b dX6_says_15 (by decide) ?_
    exact wX6_says_b26 hS hi hi2 X h (lv_sub hl [2, 4, 1, 0] rfl) hf JR
set_option maxHeartbeats 4000000 in
set_option maxRecDepth 20000 in
theorem kX9_startAct (l : Launch) {k : En} {S : Nat → Prop} (hS : ∀ t, S t) {i : Nat} {v : Nat} {a1 : Int32} (hi : i < 2) (hv : v < 12) {res : Mm} {g : Mm} (hf : fX9_startAct g i v a1 = some res) : Mt l yX9_startAct cX9_startAct 2 none (RmN 1 21) YC S k [.ref (k.1 + adC 19 i v), .int a1] g none res := by
  refine Mt.of (by decide) (Nat.le_of_ble_eq_true rfl) ?_
  intro p e s m args below meth c ls X _ h hl
  have X : Cx YC S k p s m args meth c cX9_startAct 2 none RX9 := X
  have hl : lv_has ls 2 [(0, .ref (k.1 + adC 19 i v)), (1, .int a1)] := hl
  have JR : res = res := rfl
  unfold fX9_startAct at hf
  refine lv_aload_n X.x X.b dX9_startAct_0 rfl (lv_at hl 0 rfl) ?_
  refine lv_dup X.x X.b dX9_startAct_1 rfl ?_
  refine gC_19_10 X h (hS 19) hi hv lk_X9_58 dX9_startAct_2 ?_
  refine lv_iconst (v := 1) X.x X.b dX9_startAct_5 (by decide) ?_
  refine lv_iload_n X.x X.b dX9_startAct_6 rfl (lv_at hl 1 rfl) ?_
  refine lv_ishl X.x X.b dX9_startAct_7 ?_
  refine lv_ior X.x X.b dX9_startAct_8 ?_
  obtain ⟨g1, e2, hf⟩ := wLe_s hf
  refine pC_19_10 X h (hS 19) hi hv lk_X9_58 e2 dX9_startAct_9 (fun H locs h => ?_)
  refine lv_aload_n X.x X.b dX9_startAct_12 rfl (lv_at hl 0 rfl) ?_
  refine gC_19_13 X h (hS 19) hi hv lk_X9_11 dX9_startAct_13 ?_
  refine lv_iload_n X.x X.b dX9_startAct_16 rfl (lv_at hl 1 rfl) ?_
  refine lv_aload_n X.x X.b dX9_startAct_17 rfl (lv_at hl 0 rfl) ?_
  refine gC_19_0 X h (hS 19) hi hv lk_X9_20 dX9_startAct_18 ?_
  refine lv_iload_n X.x X.b dX9_startAct_21 rfl (lv_at hl 1 rfl) ?_
  obtain ⟨y4, e3, hf⟩ := wBd_s hf
  refine ro_callsI (As := [.int (g1 19 i v 0), .int a1]) (g1 := g1) (x := y4) X h (kX3_lasts l hS e3) mv_X3_lasts lk_X9_74 ⟨rfl, rfl⟩ ⟨(Nat.le_of_ble_eq_true rfl), (Nat.le_of_ble_eq_true rfl)⟩ rfl hl rfl (Nat.le_of_ble_eq_true rfl) ⟨Nat.zero_le _, Nat.zero_le _⟩ dX9_startAct_22 (fun H locs h => ?_)
  obtain ⟨b5, hf⟩ := wGi_s hf
  obtain ⟨g6, e7, hf⟩ := wLe_s hf
  refine bC_20 X h (hS 20) hi hv e7 b5 dX9_startAct_25 (fun H locs h => ?_)
  cases (Option.some.inj hf).trans JR
  exact ro_vret X h dX9_startAct_26
set_option maxHeartbeats 4000000 in
set_option maxRecDepth 20000 in
theorem kX9_needsIce (l : Launch) {k : En} {S : Nat → Prop} (hS : ∀ t, S t) {g0 : Mm} {i : Nat} {v : Nat} {a1 : Int32} {a2 : Int32} (hi : i < 2) (hv : v < 12) {res : Int32} (hf : fX9_needsIce g0 i v a1 a2 = some res) : Mt l yX9_needsIce cX9_needsIce 3 (some .boolean) (RmN 0 0) YC S k [.ref (k.1 + adC 19 i v), .int a1, .int a2] g0 (some (.int res)) g0 := by
  refine Mt.of (by decide) (Nat.le_of_ble_eq_true rfl) ?_
  intro p e s m args below meth c ls X _ h hl
  have X : Cx YC S k p s m args meth c cX9_needsIce 3 (some .boolean) RX9 := X
  have hl : lv_has ls 3 [(0, .ref (k.1 + adC 19 i v)), (1, .int a1), (2, .int a2)] := hl
  have JR : res = res := rfl
  unfold fX9_needsIce at hf
  refine lv_iload_n X.x X.b dX9_needsIce_0 rfl (lv_at hl 1 rfl) ?_
  refine lv_iconst (v := 1) X.x X.b dX9_needsIce_1 (by decide) ?_
  refine lv_icmp_ne (tgt := 27) X.x X.b dX9_needsIce_2 (by decide) (fun c1 => ?_) (fun c1 => ?_)
  · have hf := wF c1 hf
    refine lv_iconst (v := 0) X.x X.b dX9_needsIce_27 (by decide) ?_
    cases (Option.some.inj hf).trans JR
    exact ro_zret X h (Or.inl rfl) dX9_needsIce_28
  · have hf := wT c1 hf
    refine lv_aload_n X.x X.b dX9_needsIce_5 rfl (lv_at hl 0 rfl) ?_
    refine gC_19_12 X h (hS 19) hi hv lk_X9_39 dX9_needsIce_6 ?_
    refine lv_if_lt (tgt := 23) X.x X.b dX9_needsIce_9 (by decide) (fun c2 => ?_) (fun c2 => ?_)
    · have hf := wT c2 hf
      refine lv_iconst (v := 1) X.x X.b dX9_needsIce_23 (by decide) ?_
      refine lv_goto (tgt := 28) X.x X.b dX9_needsIce_24 (by decide) ?_
      cases (Option.some.inj hf).trans JR
      exact ro_zret X h (Or.inr rfl) dX9_needsIce_28
    · have hf := wF c2 hf
      refine lv_iload_n X.x X.b dX9_needsIce_12 rfl (lv_at hl 2 rfl) ?_
      refine lv_aload_n X.x X.b dX9_needsIce_13 rfl (lv_at hl 0 rfl) ?_
      refine gC_19_12 X h (hS 19) hi hv lk_X9_39 dX9_needsIce_14 ?_
      refine lv_isub X.x X.b dX9_needsIce_17 ?_
      refine lv_bipush (v := 40) X.x X.b dX9_needsIce_18 (by decide) ?_
      refine lv_icmp_le (tgt := 27) X.x X.b dX9_needsIce_20 (by decide) (fun c3 => ?_) (fun c3 => ?_)
      · have hf := wT c3 hf
        refine lv_iconst (v := 0) X.x X.b dX9_needsIce_27 (by decide) ?_
        cases (Option.some.inj hf).trans JR
        exact ro_zret X h (Or.inl rfl) dX9_needsIce_28
      · have hf := wF c3 hf
        refine lv_iconst (v := 1) X.x X.b dX9_needsIce_23 (by decide) ?_
        refine lv_goto (tgt := 28) X.x X.b dX9_needsIce_24 (by decide) ?_
        cases (Option.some.inj hf).trans JR
        exact ro_zret X h (Or.inr rfl) dX9_needsIce_28
set_option maxHeartbeats 4000000 in
set_option maxRecDepth 20000 in
theorem kX6_clear (l : Launch) {k : En} {S : Nat → Prop} (hS : ∀ t, 1 ≤ t → t ≤ 8 → S t) {i : Nat} (hi : i < 6) {res : Mm} {g : Mm} (hf : fX6_clear g i = some res) : Mt l yX6_clear cX6_clear 1 none (RmN 0 0) YC S k [.ref (k.1 + adC 5 i 0)] g none res := by
  refine Mt.of (by decide) (Nat.le_of_ble_eq_true rfl) ?_
  intro p e s m args below meth c ls X _ h hl
  have X : Cx YC S k p s m args meth c cX6_clear 1 none RX6 := X
  have hl : lv_has ls 1 [(0, .ref (k.1 + adC 5 i 0))] := hl
  have JR : res = res := rfl
  unfold fX6_clear at hf
  refine lv_aload_n X.x X.b dX6_clear_0 rfl (lv_at hl 0 rfl) ?_
  refine lv_iconst (v := 0) X.x X.b dX6_clear_1 (by decide) ?_
  obtain ⟨g1, e2, hf⟩ := wLe_s hf
  refine pC_5_3 X h (hS 5 (Nat.le_of_ble_eq_true rfl) (Nat.le_of_ble_eq_true rfl)) hi Nat.one_pos lk_X6_21 e2 dX6_clear_2 (fun H locs h => ?_)
  cases (Option.some.inj hf).trans JR
  exact ro_vret X h dX6_clear_5
set_option maxHeartbeats 4000000 in
set_option maxRecDepth 20000 in
theorem kX6_put (l : Launch) {k : En} {S : Nat → Prop} (hS : ∀ t, 1 ≤ t → t ≤ 8 → S t) {i : Nat} {a1 : Int32} (hi : i < 6) {res : Mm} {g : Mm} (hf : fX6_put g i a1 = some res) : Mt l yX6_put cX6_put 2 none (RmN 0 0) YC S k [.ref (k.1 + adC 5 i 0), .int a1] g none res := by
  refine Mt.of (by decide) (Nat.le_of_ble_eq_true rfl) ?_
  intro p e s m args below meth c ls X _ h hl
  have X : Cx YC S k p s m args meth c cX6_put 2 none RX6 := X
  have hl : lv_has ls 2 [(0, .ref (k.1 + adC 5 i 0)), (1, .int a1)] := hl
  have JR : res = res := rfl
  unfold fX6_put at hf
  refine lv_aload_n X.x X.b dX6_put_0 rfl (lv_at hl 0 rfl) ?_
  refine gC_5_3 X h (hS 5 (Nat.le_of_ble_eq_true rfl) (Nat.le_of_ble_eq_true rfl)) hi Nat.one_pos lk_X6_21 dX6_put_1 ?_
  refine lv_aload_n X.x X.b dX6_put_4 rfl (lv_at hl 0 rfl) ?_
  refine gC_5_0 X h (hS 5 (Nat.le_of_ble_eq_true rfl) (Nat.le_of_ble_eq_true rfl)) hi Nat.one_pos lk_X6_11 dX6_put_5 ?_
  refine nC_6 X h (hS 6 (Nat.le_of_ble_eq_true rfl) (Nat.le_of_ble_eq_true rfl)) hi Nat.one_pos dX6_put_8 ?_
  refine lv_icmp_ge (tgt := 32) X.x X.b dX6_put_9 (by decide) (fun c1 => ?_) (fun c1 => ?_)
  · have hf := wT c1 hf
    cases (Option.some.inj hf).trans JR
    exact ro_vret X h dX6_put_32
  · have hf := wF c1 hf
    refine lv_aload_n X.x X.b dX6_put_12 rfl (lv_at hl 0 rfl) ?_
    refine gC_5_0 X h (hS 5 (Nat.le_of_ble_eq_true rfl) (Nat.le_of_ble_eq_true rfl)) hi Nat.one_pos lk_X6_11 dX6_put_13 ?_
    refine lv_aload_n X.x X.b dX6_put_16 rfl (lv_at hl 0 rfl) ?_
    refine gC_5_3 X h (hS 5 (Nat.le_of_ble_eq_true rfl) (Nat.le_of_ble_eq_true rfl)) hi Nat.one_pos lk_X6_21 dX6_put_17 ?_
    refine lv_iload_n X.x X.b dX6_put_20 rfl (lv_at hl 1 rfl) ?_
    obtain ⟨b2, hf⟩ := wGi_s hf
    obtain ⟨g3, e4, hf⟩ := wLe_s hf
    refine bC_6 X h (hS 6 (Nat.le_of_ble_eq_true rfl) (Nat.le_of_ble_eq_true rfl)) hi Nat.one_pos e4 b2 dX6_put_21 (fun H locs h => ?_)
    refine lv_aload_n X.x X.b dX6_put_22 rfl (lv_at hl 0 rfl) ?_
    refine lv_dup X.x X.b dX6_put_23 rfl ?_
    refine gC_5_3 X h (hS 5 (Nat.le_of_ble_eq_true rfl) (Nat.le_of_ble_eq_true rfl)) hi Nat.one_pos lk_X6_21 dX6_put_24 ?_
    refine lv_iconst (v := 1) X.x X.b dX6_put_27 (by decide) ?_
    refine lv_iadd X.x X.b dX6_put_28 ?_
    obtain ⟨g5, e6, hf⟩ := wLe_s hf
    refine pC_5_3 X h (hS 5 (Nat.le_of_ble_eq_true rfl) (Nat.le_of_ble_eq_true rfl)) hi Nat.one_pos lk_X6_21 e6 dX6_put_29 (fun H locs h => ?_)
    cases (Option.some.inj hf).trans JR
    exact ro_vret X h dX6_put_32
set_option maxHeartbeats 4000000 in
set_option maxRecDepth 20000 in
theorem kX6_endPart (l : Launch) {k : En} {S : Nat → Prop} (hS : ∀ t, 1 ≤ t → t ≤ 8 → S t) {i : Nat} {a1 : Int32} (hi : i < 6) {res : Mm} {g : Mm} (hf : fX6_endPart g i a1 = some res) : Mt l yX6_endPart cX6_endPart 2 none (RmN 0 0) YC S k [.ref (k.1 + adC 5 i 0), .int a1] g none res := by
  refine Mt.of (by decide) (Nat.le_of_ble_eq_true rfl) ?_
  intro p e s m args below meth c ls X _ h hl
  have X : Cx YC S k p s m args meth c cX6_endPart 2 none RX6 := X
  have hl : lv_has ls 2 [(0, .ref (k.1 + adC 5 i 0)), (1, .int a1)] := hl
  have JR : res = res := rfl
  unfold fX6_endPart at hf
  refine lv_aload_n X.x X.b dX6_endPart_0 rfl (lv_at hl 0 rfl) ?_
  refine gC_5_1 X h (hS 5 (Nat.le_of_ble_eq_true rfl) (Nat.le_of_ble_eq_true rfl)) hi Nat.one_pos lk_X6_15 dX6_endPart_1 ?_
  refine lv_iload_n X.x X.b dX6_endPart_4 rfl (lv_at hl 1 rfl) ?_
  refine lv_aload_n X.x X.b dX6_endPart_5 rfl (lv_at hl 0 rfl) ?_
  refine gC_5_3 X h (hS 5 (Nat.le_of_ble_eq_true rfl) (Nat.le_of_ble_eq_true rfl)) hi Nat.one_pos lk_X6_21 dX6_endPart_6 ?_
  obtain ⟨b1, hf⟩ := wGi_s hf
  obtain ⟨g2, e3, hf⟩ := wLe_s hf
  refine bC_7 X h (hS 7 (Nat.le_of_ble_eq_true rfl) (Nat.le_of_ble_eq_true rfl)) hi Nat.one_pos e3 b1 dX6_endPart_9 (fun H locs h => ?_)
  cases (Option.some.inj hf).trans JR
  exact ro_vret X h dX6_endPart_10
set_option maxHeartbeats 4000000 in
set_option maxRecDepth 20000 in
theorem kX9_isAhead (l : Launch) {k : En} {S : Nat → Prop} (hS : ∀ t, S t) {g0 : Mm} {i : Nat} {v : Nat} (hi : i < 2) (hv : v < 12) {res : Int32} (hf : fX9_isAhead g0 i v = some res) : Mt l yX9_isAhead cX9_isAhead 1 (some .boolean) (RmN 0 0) YC S k [.ref (k.1 + adC 19 i v)] g0 (some (.int res)) g0 := by
  refine Mt.of (by decide) (Nat.le_of_ble_eq_true rfl) ?_
  intro p e s m args below meth c ls X _ h hl
  have X : Cx YC S k p s m args meth c cX9_isAhead 1 (some .boolean) RX9 := X
  have hl : lv_has ls 1 [(0, .ref (k.1 + adC 19 i v))] := hl
  have JR : res = res := rfl
  unfold fX9_isAhead at hf
  refine lv_aload_n X.x X.b dX9_isAhead_0 rfl (lv_at hl 0 rfl) ?_
  refine gC_19_6 X h (hS 19) hi hv lk_X9_49 dX9_isAhead_1 ?_
  refine lv_if_eq (tgt := 15) X.x X.b dX9_isAhead_4 (by decide) (fun c1 => ?_) (fun c1 => ?_)
  · have hf := wT c1 hf
    refine lv_iconst (v := 1) X.x X.b dX9_isAhead_15 (by decide) ?_
    refine lv_goto (tgt := 20) X.x X.b dX9_isAhead_16 (by decide) ?_
    cases (Option.some.inj hf).trans JR
    exact ro_zret X h (Or.inr rfl) dX9_isAhead_20
  · have hf := wF c1 hf
    refine lv_aload_n X.x X.b dX9_isAhead_7 rfl (lv_at hl 0 rfl) ?_
    refine gC_19_6 X h (hS 19) hi hv lk_X9_49 dX9_isAhead_8 ?_
    refine lv_iconst (v := 1) X.x X.b dX9_isAhead_11 (by decide) ?_
    refine lv_icmp_ne (tgt := 19) X.x X.b dX9_isAhead_12 (by decide) (fun c2 => ?_) (fun c2 => ?_)
    · have hf := wF c2 hf
      refine lv_iconst (v := 0) X.x X.b dX9_isAhead_19 (by decide) ?_
      cases (Option.some.inj hf).trans JR
      exact ro_zret X h (Or.inl rfl) dX9_isAhead_20
    · have hf := wT c2 hf
      refine lv_iconst (v := 1) X.x X.b dX9_isAhead_15 (by decide) ?_
      refine lv_goto (tgt := 20) X.x X.b dX9_isAhead_16 (by decide) ?_
      cases (Option.some.inj hf).trans JR
      exact ro_zret X h (Or.inr rfl) dX9_isAhead_20
set_option maxHeartbeats 4000000 in
set_option maxRecDepth 20000 in
theorem kX9_told (l : Launch) {k : En} {S : Nat → Prop} (hS : ∀ t, S t) {g0 : Mm} {i : Nat} {v : Nat} {a1 : Int32} (hi : i < 2) (hv : v < 12) {res : Int32} (hf : fX9_told g0 i v a1 = some res) : Mt l yX9_told cX9_told 2 (some .int) (RmN 1 22) YC S k [.ref (k.1 + adC 19 i v), .int a1] g0 (some (.int res)) g0 := by
  refine Mt.of (by decide) (Nat.le_of_ble_eq_true rfl) ?_
  intro p e s m args below meth c ls X _ h hl
  have X : Cx YC S k p s m args meth c cX9_told 2 (some .int) RX9 := X
  have hl : lv_has ls 2 [(0, .ref (k.1 + adC 19 i v)), (1, .int a1)] := hl
  have JR : res = res := rfl
  unfold fX9_told at hf
  refine lv_iload_n X.x X.b dX9_told_0 rfl (lv_at hl 1 rfl) ?_
  by_cases c1 : a1 = (0 : Int32)
  · have hf := wT c1 hf
    refine lv_tableIn (off := 59) (tgt := 60) X.x X.b dX9_told_1 (by rw [c1]; decide) (by rw [c1]; decide) (by rw [c1]; rfl) (by decide) ?_
    refine lv_aload_n X.x X.b dX9_told_60 rfl (lv_at hl 0 rfl) ?_
    refine gC_19_0 X h (hS 19) hi hv lk_X9_20 dX9_told_61 ?_
    cases (Option.some.inj hf).trans JR
    exact ro_iret X h dX9_told_64
  · have hf := wF c1 hf
    by_cases c2 : a1 = (1 : Int32)
    · have hf := wT c2 hf
      refine lv_tableIn (off := 64) (tgt := 65) X.x X.b dX9_told_1 (by rw [c2]; decide) (by rw [c2]; decide) (by rw [c2]; rfl) (by decide) ?_
      refine lv_aload_n X.x X.b dX9_told_65 rfl (lv_at hl 0 rfl) ?_
      refine gC_19_6 X h (hS 19) hi hv lk_X9_49 dX9_told_66 ?_
      cases (Option.some.inj hf).trans JR
      exact ro_iret X h dX9_told_69
    · have hf := wF c2 hf
      by_cases c3 : a1 = (2 : Int32)
      · have hf := wT c3 hf
        refine lv_tableIn (off := 69) (tgt := 70) X.x X.b dX9_told_1 (by rw [c3]; decide) (by rw [c3]; decide) (by rw [c3]; rfl) (by decide) ?_
        refine lv_aload_n X.x X.b dX9_told_70 rfl (lv_at hl 0 rfl) ?_
        refine gC_19_7 X h (hS 19) hi hv lk_X9_52 dX9_told_71 ?_
        cases (Option.some.inj hf).trans JR
        exact ro_iret X h dX9_told_74
      · have hf := wF c3 hf
        by_cases c4 : a1 = (3 : Int32)
        · have hf := wT c4 hf
          refine lv_tableIn (off := 74) (tgt := 75) X.x X.b dX9_told_1 (by rw [c4]; decide) (by rw [c4]; decide) (by rw [c4]; rfl) (by decide) ?_
          refine lv_aload_n X.x X.b dX9_told_75 rfl (lv_at hl 0 rfl) ?_
          refine gC_19_8 X h (hS 19) hi hv lk_X9_36 dX9_told_76 ?_
          cases (Option.some.inj hf).trans JR
          exact ro_iret X h dX9_told_79
        · have hf := wF c4 hf
          by_cases c5 : a1 = (4 : Int32)
          · have hf := wT c5 hf
            refine lv_tableIn (off := 79) (tgt := 80) X.x X.b dX9_told_1 (by rw [c5]; decide) (by rw [c5]; decide) (by rw [c5]; rfl) (by decide) ?_
            refine lv_aload_n X.x X.b dX9_told_80 rfl (lv_at hl 0 rfl) ?_
            obtain ⟨y7, e6, hf⟩ := wBd_s hf
            refine ro_callvI (As := []) (g1 := g0) (x := y7) X h (kX9_comes l hS hi hv e6) mv_X9_comes lk_X9_78 ⟨rfl, rfl⟩ ⟨(Nat.le_of_ble_eq_true rfl), (Nat.le_of_ble_eq_true rfl)⟩ (rC_19 X h (hS 19) hi hv) rfl hl rfl (Nat.le_of_ble_eq_true rfl) ⟨Nat.zero_le _, Nat.zero_le _⟩ dX9_told_81 (fun H locs h => ?_)
            cases (Option.some.inj hf).trans JR
            exact ro_iret X h dX9_told_84
          · have hf := wF c5 hf
            by_cases c8 : a1 = (5 : Int32)
            · have hf := wT c8 hf
              refine lv_tableIn (off := 84) (tgt := 85) X.x X.b dX9_told_1 (by rw [c8]; decide) (by rw [c8]; decide) (by rw [c8]; rfl) (by decide) ?_
              refine lv_aload_n X.x X.b dX9_told_85 rfl (lv_at hl 0 rfl) ?_
              refine gC_19_2 X h (hS 19) hi hv lk_X9_27 dX9_told_86 ?_
              cases (Option.some.inj hf).trans JR
              exact ro_iret X h dX9_told_89
            · have hf := wF c8 hf
              by_cases c9 : a1 = (6 : Int32)
              · have hf := wT c9 hf
                refine lv_tableIn (off := 89) (tgt := 90) X.x X.b dX9_told_1 (by rw [c9]; decide) (by rw [c9]; decide) (by rw [c9]; rfl) (by decide) ?_
                refine lv_aload_n X.x X.b dX9_told_90 rfl (lv_at hl 0 rfl) ?_
                refine gC_19_9 X h (hS 19) hi hv lk_X9_55 dX9_told_91 ?_
                cases (Option.some.inj hf).trans JR
                exact ro_iret X h dX9_told_94
              · have hf := wF c9 hf
                by_cases c10 : a1 = (7 : Int32)
                · have hf := wT c10 hf
                  refine lv_tableIn (off := 94) (tgt := 95) X.x X.b dX9_told_1 (by rw [c10]; decide) (by rw [c10]; decide) (by rw [c10]; rfl) (by decide) ?_
                  refine lv_aload_n X.x X.b dX9_told_95 rfl (lv_at hl 0 rfl) ?_
                  obtain ⟨y12, e11, hf⟩ := wBd_s hf
                  refine ro_callvI (As := []) (g1 := g0) (x := y12) X h (kX9_lateTicks l hS hi hv e11) mv_X9_lateTicks lk_X9_82 ⟨rfl, rfl⟩ ⟨(Nat.le_of_ble_eq_true rfl), (Nat.le_of_ble_eq_true rfl)⟩ (rC_19 X h (hS 19) hi hv) rfl hl rfl (Nat.le_of_ble_eq_true rfl) ⟨Nat.zero_le _, Nat.zero_le _⟩ dX9_told_96 (fun H locs h => ?_)
                  cases (Option.some.inj hf).trans JR
                  exact ro_iret X h dX9_told_99
                · have hf := wF c10 hf
                  by_cases c13 : a1 = (8 : Int32)
                  · have hf := wT c13 hf
                    refine lv_tableIn (off := 99) (tgt := 100) X.x X.b dX9_told_1 (by rw [c13]; decide) (by rw [c13]; decide) (by rw [c13]; rfl) (by decide) ?_
                    refine lv_aload_n X.x X.b dX9_told_100 rfl (lv_at hl 0 rfl) ?_
                    refine gC_19_10 X h (hS 19) hi hv lk_X9_58 dX9_told_101 ?_
                    cases (Option.some.inj hf).trans JR
                    exact ro_iret X h dX9_told_104
                  · have hf := wF c13 hf
                    by_cases c14 : a1 = (9 : Int32)
                    · have hf := wT c14 hf
                      refine lv_tableIn (off := 104) (tgt := 105) X.x X.b dX9_told_1 (by rw [c14]; decide) (by rw [c14]; decide) (by rw [c14]; rfl) (by decide) ?_
                      refine lv_aload_n X.x X.b dX9_told_105 rfl (lv_at hl 0 rfl) ?_
                      refine gC_19_5 X h (hS 19) hi hv lk_X9_33 dX9_told_106 ?_
                      cases (Option.some.inj hf).trans JR
                      exact ro_iret X h dX9_told_109
                    · have hf := wF c14 hf
                      by_cases c15 : a1 = (10 : Int32)
                      · have hf := wT c15 hf
                        refine lv_tableIn (off := 109) (tgt := 110) X.x X.b dX9_told_1 (by rw [c15]; decide) (by rw [c15]; decide) (by rw [c15]; rfl) (by decide) ?_
                        refine lv_aload_n X.x X.b dX9_told_110 rfl (lv_at hl 0 rfl) ?_
                        obtain ⟨y17, e16, hf⟩ := wBd_s hf
                        refine ro_callvI (As := []) (g1 := g0) (x := y17) X h (kX9_limit l hS hi hv e16) mv_X9_limit lk_X9_85 ⟨rfl, rfl⟩ ⟨(Nat.le_of_ble_eq_true rfl), (Nat.le_of_ble_eq_true rfl)⟩ (rC_19 X h (hS 19) hi hv) rfl hl rfl (Nat.le_of_ble_eq_true rfl) ⟨Nat.zero_le _, Nat.zero_le _⟩ dX9_told_111 (fun H locs h => ?_)
                        cases (Option.some.inj hf).trans JR
                        exact ro_iret X h dX9_told_114
                      · have hf := wF c15 hf
                        refine lv_tableOut (tgt := 115) X.x X.b dX9_told_1 (by have q0 := lv_neT c1 (a := 0) rfl; have q1 := lv_neT c2 (a := 1) rfl; have q2 := lv_neT c3 (a := 2) rfl; have q3 := lv_neT c4 (a := 3) rfl; have q4 := lv_neT c5 (a := 4) rfl; have q5 := lv_neT c8 (a := 5) rfl; have q6 := lv_neT c9 (a := 6) rfl; have q7 := lv_neT c10 (a := 7) rfl; have q8 := lv_neT c13 (a := 8) rfl; have q9 := lv_neT c14 (a := 9) rfl; have q10 := lv_neT c15 (a := 10) rfl; omega) (by decide) ?_
                        refine lv_bipush (v := (-2)) X.x X.b dX9_told_115 (by decide) ?_
                        cases (Option.some.inj hf).trans JR
                        exact ro_iret X h dX9_told_117
end WK
