theorem dX0_add_0 : decode cX0_add 0 = .ok (.aload_n 0, 1) := by decide +kernel
theorem dX0_add_1 : decode cX0_add 1 = .ok (.getfield 21, 3) := by decide +kernel
theorem dX0_add_4 : decode cX0_add 4 = .ok (.bipush 40, 2) := by decide +kernel
theorem dX0_add_6 : decode cX0_add 6 = .ok (.if_icmp .lt 6, 3) := by decide +kernel
theorem dX0_add_9 : decode cX0_add 9 = .ok (.bipush (-4), 2) := by decide +kernel
theorem dX0_add_11 : decode cX0_add 11 = .ok (.ireturn, 1) := by decide +kernel
theorem dX0_add_12 : decode cX0_add 12 = .ok (.aload_n 0, 1) := by decide +kernel
theorem dX0_add_13 : decode cX0_add 13 = .ok (.getfield 11, 3) := by decide +kernel
theorem dX0_add_16 : decode cX0_add 16 = .ok (.aload_n 0, 1) := by decide +kernel
theorem dX0_add_17 : decode cX0_add 17 = .ok (.getfield 21, 3) := by decide +kernel
theorem dX0_add_20 : decode cX0_add 20 = .ok (.iload_n 1, 1) := by decide +kernel
theorem dX0_add_21 : decode cX0_add 21 = .ok (.iastore, 1) := by decide +kernel
theorem dX0_add_22 : decode cX0_add 22 = .ok (.aload_n 0, 1) := by decide +kernel
theorem dX0_add_23 : decode cX0_add 23 = .ok (.getfield 15, 3) := by decide +kernel
theorem dX0_add_26 : decode cX0_add 26 = .ok (.aload_n 0, 1) := by decide +kernel
theorem dX0_add_27 : decode cX0_add 27 = .ok (.getfield 21, 3) := by decide +kernel
theorem dX0_add_30 : decode cX0_add 30 = .ok (.iload_n 2, 1) := by decide +kernel
theorem dX0_add_31 : decode cX0_add 31 = .ok (.iastore, 1) := by decide +kernel
theorem dX0_add_32 : decode cX0_add 32 = .ok (.aload_n 0, 1) := by decide +kernel
theorem dX0_add_33 : decode cX0_add 33 = .ok (.getfield 18, 3) := by decide +kernel
theorem dX0_add_36 : decode cX0_add 36 = .ok (.aload_n 0, 1) := by decide +kernel
theorem dX0_add_37 : decode cX0_add 37 = .ok (.getfield 21, 3) := by decide +kernel
theorem dX0_add_40 : decode cX0_add 40 = .ok (.iload_n 3, 1) := by decide +kernel
theorem dX0_add_41 : decode cX0_add 41 = .ok (.iastore, 1) := by decide +kernel
theorem dX0_add_42 : decode cX0_add 42 = .ok (.aload_n 0, 1) := by decide +kernel
theorem dX0_add_43 : decode cX0_add 43 = .ok (.dup, 1) := by decide +kernel
theorem dX0_add_44 : decode cX0_add 44 = .ok (.getfield 21, 3) := by decide +kernel
theorem dX0_add_47 : decode cX0_add 47 = .ok (.dup_x1, 1) := by decide +kernel
theorem dX0_add_48 : decode cX0_add 48 = .ok (.iconst 1, 1) := by decide +kernel
theorem dX0_add_49 : decode cX0_add 49 = .ok (.iadd, 1) := by decide +kernel
theorem dX0_add_50 : decode cX0_add 50 = .ok (.putfield 21, 3) := by decide +kernel
theorem dX0_add_53 : decode cX0_add 53 = .ok (.ireturn, 1) := by decide +kernel
theorem dX0_thought_0 : decode cX0_thought 0 = .ok (.aload_n 0, 1) := by decide +kernel
theorem dX0_thought_1 : decode cX0_thought 1 = .ok (.getfield 21, 3) := by decide +kernel
theorem dX0_thought_4 : decode cX0_thought 4 = .ok (.iconst 1, 1) := by decide +kernel
theorem dX0_thought_5 : decode cX0_thought 5 = .ok (.isub, 1) := by decide +kernel
theorem dX0_thought_6 : decode cX0_thought 6 = .ok (.istore 4, 2) := by decide +kernel
theorem dX0_thought_8 : decode cX0_thought 8 = .ok (.iload 4, 2) := by decide +kernel
theorem dX0_thought_10 : decode cX0_thought 10 = .ok (.ifCond .lt 39, 3) := by decide +kernel
theorem dX0_thought_13 : decode cX0_thought 13 = .ok (.aload_n 0, 1) := by decide +kernel
theorem dX0_thought_14 : decode cX0_thought 14 = .ok (.getfield 11, 3) := by decide +kernel
theorem dX0_thought_17 : decode cX0_thought 17 = .ok (.iload 4, 2) := by decide +kernel
theorem dX0_thought_19 : decode cX0_thought 19 = .ok (.iaload, 1) := by decide +kernel
theorem dX0_thought_20 : decode cX0_thought 20 = .ok (.iload_n 1, 1) := by decide +kernel
theorem dX0_thought_21 : decode cX0_thought 21 = .ok (.if_icmp .ne 22, 3) := by decide +kernel
theorem dX0_thought_24 : decode cX0_thought 24 = .ok (.aload_n 0, 1) := by decide +kernel
theorem dX0_thought_25 : decode cX0_thought 25 = .ok (.getfield 18, 3) := by decide +kernel
theorem dX0_thought_28 : decode cX0_thought 28 = .ok (.iload 4, 2) := by decide +kernel
theorem dX0_thought_30 : decode cX0_thought 30 = .ok (.iaload, 1) := by decide +kernel
theorem dX0_thought_31 : decode cX0_thought 31 = .ok (.iload_n 2, 1) := by decide +kernel
theorem dX0_thought_32 : decode cX0_thought 32 = .ok (.if_icmp .gt 11, 3) := by decide +kernel
theorem dX0_thought_35 : decode cX0_thought 35 = .ok (.aload_n 0, 1) := by decide +kernel
theorem dX0_thought_36 : decode cX0_thought 36 = .ok (.getfield 15, 3) := by decide +kernel
theorem dX0_thought_39 : decode cX0_thought 39 = .ok (.iload 4, 2) := by decide +kernel
theorem dX0_thought_41 : decode cX0_thought 41 = .ok (.iaload, 1) := by decide +kernel
theorem dX0_thought_42 : decode cX0_thought 42 = .ok (.ireturn, 1) := by decide +kernel
theorem dX0_thought_43 : decode cX0_thought 43 = .ok (.iinc 4 (-1), 3) := by decide +kernel
theorem dX0_thought_46 : decode cX0_thought 46 = .ok (.goto (-38), 3) := by decide +kernel
theorem dX0_thought_49 : decode cX0_thought 49 = .ok (.iload_n 3, 1) := by decide +kernel
theorem dX0_thought_50 : decode cX0_thought 50 = .ok (.ireturn, 1) := by decide +kernel
theorem dX1_begin_0 : decode cX1_begin 0 = .ok (.aload_n 0, 1) := by decide +kernel
theorem dX1_begin_1 : decode cX1_begin 1 = .ok (.iload_n 1, 1) := by decide +kernel
theorem dX1_begin_2 : decode cX1_begin 2 = .ok (.putfield 9, 3) := by decide +kernel
theorem dX1_begin_5 : decode cX1_begin 5 = .ok (.aload_n 0, 1) := by decide +kernel
theorem dX1_begin_6 : decode cX1_begin 6 = .ok (.iload_n 2, 1) := by decide +kernel
theorem dX1_begin_7 : decode cX1_begin 7 = .ok (.putfield 15, 3) := by decide +kernel
theorem dX1_begin_10 : decode cX1_begin 10 = .ok (.aload_n 0, 1) := by decide +kernel
theorem dX1_begin_11 : decode cX1_begin 11 = .ok (.iload_n 3, 1) := by decide +kernel
theorem dX1_begin_12 : decode cX1_begin 12 = .ok (.putfield 18, 3) := by decide +kernel
theorem dX1_begin_15 : decode cX1_begin 15 = .ok (.aload_n 0, 1) := by decide +kernel
theorem dX1_begin_16 : decode cX1_begin 16 = .ok (.iload 4, 2) := by decide +kernel
theorem dX1_begin_18 : decode cX1_begin 18 = .ok (.putfield 21, 3) := by decide +kernel
theorem dX1_begin_21 : decode cX1_begin 21 = .ok (.aload_n 0, 1) := by decide +kernel
theorem dX1_begin_22 : decode cX1_begin 22 = .ok (.iconst (-1), 1) := by decide +kernel
theorem dX1_begin_23 : decode cX1_begin 23 = .ok (.putfield 24, 3) := by decide +kernel
theorem dX1_begin_26 : decode cX1_begin 26 = .ok (.return_, 1) := by decide +kernel
theorem dX1_become_0 : decode cX1_become 0 = .ok (.aload_n 0, 1) := by decide +kernel
theorem dX1_become_1 : decode cX1_become 1 = .ok (.aload_n 1, 1) := by decide +kernel
theorem dX1_become_2 : decode cX1_become 2 = .ok (.getfield 9, 3) := by decide +kernel
theorem dX1_become_5 : decode cX1_become 5 = .ok (.putfield 9, 3) := by decide +kernel
theorem dX1_become_8 : decode cX1_become 8 = .ok (.aload_n 0, 1) := by decide +kernel
theorem dX1_become_9 : decode cX1_become 9 = .ok (.aload_n 1, 1) := by decide +kernel
theorem dX1_become_10 : decode cX1_become 10 = .ok (.getfield 15, 3) := by decide +kernel
theorem dX1_become_13 : decode cX1_become 13 = .ok (.putfield 15, 3) := by decide +kernel
theorem dX1_become_16 : decode cX1_become 16 = .ok (.aload_n 0, 1) := by decide +kernel
theorem dX1_become_17 : decode cX1_become 17 = .ok (.aload_n 1, 1) := by decide +kernel
theorem dX1_become_18 : decode cX1_become 18 = .ok (.getfield 18, 3) := by decide +kernel
theorem dX1_become_21 : decode cX1_become 21 = .ok (.putfield 18, 3) := by decide +kernel
theorem dX1_become_24 : decode cX1_become 24 = .ok (.aload_n 0, 1) := by decide +kernel
theorem dX1_become_25 : decode cX1_become 25 = .ok (.aload_n 1, 1) := by decide +kernel
theorem dX1_become_26 : decode cX1_become 26 = .ok (.getfield 21, 3) := by decide +kernel
theorem dX1_become_29 : decode cX1_become 29 = .ok (.putfield 21, 3) := by decide +kernel
theorem dX1_become_32 : decode cX1_become 32 = .ok (.aload_n 0, 1) := by decide +kernel
theorem dX1_become_33 : decode cX1_become 33 = .ok (.aload_n 1, 1) := by decide +kernel
theorem dX1_become_34 : decode cX1_become 34 = .ok (.getfield 27, 3) := by decide +kernel
theorem dX1_become_37 : decode cX1_become 37 = .ok (.putfield 27, 3) := by decide +kernel
theorem dX1_become_40 : decode cX1_become 40 = .ok (.aload_n 0, 1) := by decide +kernel
theorem dX1_become_41 : decode cX1_become 41 = .ok (.aload_n 1, 1) := by decide +kernel
theorem dX1_become_42 : decode cX1_become 42 = .ok (.getfield 24, 3) := by decide +kernel
theorem dX1_become_45 : decode cX1_become 45 = .ok (.putfield 24, 3) := by decide +kernel
theorem dX1_become_48 : decode cX1_become 48 = .ok (.return_, 1) := by decide +kernel
theorem dX1_told_0 : decode cX1_told 0 = .ok (.iload_n 1, 1) := by decide +kernel
theorem dX1_told_1 : decode cX1_told 1 = .ok (.tableswitch 60 0 4 #[35, 40, 45, 50, 55], 35) := by decide +kernel
theorem dX1_told_36 : decode cX1_told 36 = .ok (.aload_n 0, 1) := by decide +kernel
theorem dX1_told_37 : decode cX1_told 37 = .ok (.getfield 9, 3) := by decide +kernel
theorem dX1_told_40 : decode cX1_told 40 = .ok (.ireturn, 1) := by decide +kernel
theorem dX1_told_41 : decode cX1_told 41 = .ok (.aload_n 0, 1) := by decide +kernel
theorem dX1_told_42 : decode cX1_told 42 = .ok (.getfield 15, 3) := by decide +kernel
theorem dX1_told_45 : decode cX1_told 45 = .ok (.ireturn, 1) := by decide +kernel
theorem dX1_told_46 : decode cX1_told 46 = .ok (.aload_n 0, 1) := by decide +kernel
theorem dX1_told_47 : decode cX1_told 47 = .ok (.getfield 18, 3) := by decide +kernel
theorem dX1_told_50 : decode cX1_told 50 = .ok (.ireturn, 1) := by decide +kernel
theorem dX1_told_51 : decode cX1_told 51 = .ok (.aload_n 0, 1) := by decide +kernel
theorem dX1_told_52 : decode cX1_told 52 = .ok (.getfield 27, 3) := by decide +kernel
theorem dX1_told_55 : decode cX1_told 55 = .ok (.ireturn, 1) := by decide +kernel
theorem dX1_told_56 : decode cX1_told 56 = .ok (.aload_n 0, 1) := by decide +kernel
theorem dX1_told_57 : decode cX1_told 57 = .ok (.getfield 24, 3) := by decide +kernel
theorem dX1_told_60 : decode cX1_told 60 = .ok (.ireturn, 1) := by decide +kernel
theorem dX1_told_61 : decode cX1_told 61 = .ok (.bipush (-2), 2) := by decide +kernel
theorem dX1_told_63 : decode cX1_told 63 = .ok (.ireturn, 1) := by decide +kernel
theorem dX2_keep_0 : decode cX2_keep 0 = .ok (.aload_n 0, 1) := by decide +kernel
theorem dX2_keep_1 : decode cX2_keep 1 = .ok (.iload_n 1, 1) := by decide +kernel
theorem dX2_keep_2 : decode cX2_keep 2 = .ok (.putfield 7, 3) := by decide +kernel
theorem dX2_keep_5 : decode cX2_keep 5 = .ok (.aload_n 0, 1) := by decide +kernel
theorem dX2_keep_6 : decode cX2_keep 6 = .ok (.iload_n 2, 1) := by decide +kernel
theorem dX2_keep_7 : decode cX2_keep 7 = .ok (.putfield 13, 3) := by decide +kernel
theorem dX2_keep_10 : decode cX2_keep 10 = .ok (.aload_n 0, 1) := by decide +kernel
theorem dX2_keep_11 : decode cX2_keep 11 = .ok (.iload_n 3, 1) := by decide +kernel
theorem dX2_keep_12 : decode cX2_keep 12 = .ok (.putfield 16, 3) := by decide +kernel
theorem dX2_keep_15 : decode cX2_keep 15 = .ok (.aload_n 0, 1) := by decide +kernel
theorem dX2_keep_16 : decode cX2_keep 16 = .ok (.iload 4, 2) := by decide +kernel
theorem dX2_keep_18 : decode cX2_keep 18 = .ok (.putfield 19, 3) := by decide +kernel
theorem dX2_keep_21 : decode cX2_keep 21 = .ok (.return_, 1) := by decide +kernel
theorem dX2_holds_0 : decode cX2_holds 0 = .ok (.iload_n 1, 1) := by decide +kernel
theorem dX2_holds_1 : decode cX2_holds 1 = .ok (.ifCond .lt 25, 3) := by decide +kernel
theorem dX2_holds_4 : decode cX2_holds 4 = .ok (.iload_n 1, 1) := by decide +kernel
theorem dX2_holds_5 : decode cX2_holds 5 = .ok (.bipush 12, 2) := by decide +kernel
theorem dX2_holds_7 : decode cX2_holds 7 = .ok (.if_icmp .ge 19, 3) := by decide +kernel
theorem dX2_holds_10 : decode cX2_holds 10 = .ok (.aload_n 0, 1) := by decide +kernel
theorem dX2_holds_11 : decode cX2_holds 11 = .ok (.getfield 7, 3) := by decide +kernel
theorem dX2_holds_14 : decode cX2_holds 14 = .ok (.iload_n 1, 1) := by decide +kernel
theorem dX2_holds_15 : decode cX2_holds 15 = .ok (.ishr, 1) := by decide +kernel
theorem dX2_holds_16 : decode cX2_holds 16 = .ok (.iconst 1, 1) := by decide +kernel
theorem dX2_holds_17 : decode cX2_holds 17 = .ok (.iand, 1) := by decide +kernel
theorem dX2_holds_18 : decode cX2_holds 18 = .ok (.iconst 1, 1) := by decide +kernel
theorem dX2_holds_19 : decode cX2_holds 19 = .ok (.if_icmp .ne 7, 3) := by decide +kernel
theorem dX2_holds_22 : decode cX2_holds 22 = .ok (.iconst 1, 1) := by decide +kernel
theorem dX2_holds_23 : decode cX2_holds 23 = .ok (.goto 4, 3) := by decide +kernel
theorem dX2_holds_26 : decode cX2_holds 26 = .ok (.iconst 0, 1) := by decide +kernel
theorem dX2_holds_27 : decode cX2_holds 27 = .ok (.ireturn, 1) := by decide +kernel
theorem dX2_wishOf_0 : decode cX2_wishOf 0 = .ok (.iload_n 1, 1) := by decide +kernel
theorem dX2_wishOf_1 : decode cX2_wishOf 1 = .ok (.aload_n 0, 1) := by decide +kernel
theorem dX2_wishOf_2 : decode cX2_wishOf 2 = .ok (.getfield 13, 3) := by decide +kernel
theorem dX2_wishOf_5 : decode cX2_wishOf 5 = .ok (.if_icmp .ne 10, 3) := by decide +kernel
theorem dX2_wishOf_8 : decode cX2_wishOf 8 = .ok (.aload_n 0, 1) := by decide +kernel
theorem dX2_wishOf_9 : decode cX2_wishOf 9 = .ok (.getfield 16, 3) := by decide +kernel
theorem dX2_wishOf_12 : decode cX2_wishOf 12 = .ok (.goto 7, 3) := by decide +kernel
theorem dX2_wishOf_15 : decode cX2_wishOf 15 = .ok (.aload_n 0, 1) := by decide +kernel
theorem dX2_wishOf_16 : decode cX2_wishOf 16 = .ok (.getfield 19, 3) := by decide +kernel
theorem dX2_wishOf_19 : decode cX2_wishOf 19 = .ok (.ireturn, 1) := by decide +kernel
theorem dX3_isKind_0 : decode cX3_isKind 0 = .ok (.iload_n 0, 1) := by decide +kernel
theorem dX3_isKind_1 : decode cX3_isKind 1 = .ok (.ifCond .lt 13, 3) := by decide +kernel
theorem dX3_isKind_4 : decode cX3_isKind 4 = .ok (.iload_n 0, 1) := by decide +kernel
theorem dX3_isKind_5 : decode cX3_isKind 5 = .ok (.bipush 6, 2) := by decide +kernel
theorem dX3_isKind_7 : decode cX3_isKind 7 = .ok (.if_icmp .ge 7, 3) := by decide +kernel
theorem dX3_isKind_10 : decode cX3_isKind 10 = .ok (.iconst 1, 1) := by decide +kernel
theorem dX3_isKind_11 : decode cX3_isKind 11 = .ok (.goto 4, 3) := by decide +kernel
theorem dX3_isKind_14 : decode cX3_isKind 14 = .ok (.iconst 0, 1) := by decide +kernel
theorem dX3_isKind_15 : decode cX3_isKind 15 = .ok (.ireturn, 1) := by decide +kernel
theorem dX3_size_0 : decode cX3_size 0 = .ok (.getstatic 9, 3) := by decide +kernel
theorem dX3_size_3 : decode cX3_size 3 = .ok (.iload_n 0, 1) := by decide +kernel
theorem dX3_size_4 : decode cX3_size 4 = .ok (.iaload, 1) := by decide +kernel
theorem dX3_size_5 : decode cX3_size 5 = .ok (.ireturn, 1) := by decide +kernel
theorem dX3_roll_0 : decode cX3_roll 0 = .ok (.getstatic 13, 3) := by decide +kernel
theorem dX3_roll_3 : decode cX3_roll 3 = .ok (.iload_n 0, 1) := by decide +kernel
theorem dX3_roll_4 : decode cX3_roll 4 = .ok (.iaload, 1) := by decide +kernel
theorem dX3_roll_5 : decode cX3_roll 5 = .ok (.ireturn, 1) := by decide +kernel
theorem dX3_lasts_0 : decode cX3_lasts 0 = .ok (.getstatic 16, 3) := by decide +kernel
theorem dX3_lasts_3 : decode cX3_lasts 3 = .ok (.iload_n 0, 1) := by decide +kernel
theorem dX3_lasts_4 : decode cX3_lasts 4 = .ok (.bipush 8, 2) := by decide +kernel
theorem dX3_lasts_6 : decode cX3_lasts 6 = .ok (.imul, 1) := by decide +kernel
theorem dX3_lasts_7 : decode cX3_lasts 7 = .ok (.iload_n 1, 1) := by decide +kernel
theorem dX3_lasts_8 : decode cX3_lasts 8 = .ok (.iadd, 1) := by decide +kernel
theorem dX3_lasts_9 : decode cX3_lasts 9 = .ok (.iaload, 1) := by decide +kernel
theorem dX3_lasts_10 : decode cX3_lasts 10 = .ok (.ireturn, 1) := by decide +kernel
theorem dX3_behind_0 : decode cX3_behind 0 = .ok (.getstatic 19, 3) := by decide +kernel
theorem dX3_behind_3 : decode cX3_behind 3 = .ok (.iload_n 0, 1) := by decide +kernel
theorem dX3_behind_4 : decode cX3_behind 4 = .ok (.iaload, 1) := by decide +kernel
theorem dX3_behind_5 : decode cX3_behind 5 = .ok (.ireturn, 1) := by decide +kernel
theorem dX3_truckFor_0 : decode cX3_truckFor 0 = .ok (.getstatic 22, 3) := by decide +kernel
theorem dX3_truckFor_3 : decode cX3_truckFor 3 = .ok (.iload_n 0, 1) := by decide +kernel
theorem dX3_truckFor_4 : decode cX3_truckFor 4 = .ok (.iaload, 1) := by decide +kernel
theorem dX3_truckFor_5 : decode cX3_truckFor 5 = .ok (.ireturn, 1) := by decide +kernel
theorem dX3_isA_0 : decode cX3_isA 0 = .ok (.iload_n 0, 1) := by decide +kernel
theorem dX3_isA_1 : decode cX3_isA 1 = .ok (.istore_n 2, 1) := by decide +kernel
theorem dX3_isA_2 : decode cX3_isA 2 = .ok (.iconst 0, 1) := by decide +kernel
theorem dX3_isA_3 : decode cX3_isA 3 = .ok (.istore_n 3, 1) := by decide +kernel
theorem dX3_isA_4 : decode cX3_isA 4 = .ok (.iload_n 3, 1) := by decide +kernel
theorem dX3_isA_5 : decode cX3_isA 5 = .ok (.bipush 6, 2) := by decide +kernel
theorem dX3_isA_7 : decode cX3_isA 7 = .ok (.if_icmp .ge 26, 3) := by decide +kernel
theorem dX3_isA_10 : decode cX3_isA 10 = .ok (.iload_n 2, 1) := by decide +kernel
theorem dX3_isA_11 : decode cX3_isA 11 = .ok (.ifCond .lt 22, 3) := by decide +kernel
theorem dX3_isA_14 : decode cX3_isA 14 = .ok (.iload_n 2, 1) := by decide +kernel
theorem dX3_isA_15 : decode cX3_isA 15 = .ok (.iload_n 1, 1) := by decide +kernel
theorem dX3_isA_16 : decode cX3_isA 16 = .ok (.if_icmp .ne 5, 3) := by decide +kernel
theorem dX3_isA_19 : decode cX3_isA 19 = .ok (.iconst 1, 1) := by decide +kernel
theorem dX3_isA_20 : decode cX3_isA 20 = .ok (.ireturn, 1) := by decide +kernel
theorem dX3_isA_21 : decode cX3_isA 21 = .ok (.getstatic 25, 3) := by decide +kernel
theorem dX3_isA_24 : decode cX3_isA 24 = .ok (.iload_n 2, 1) := by decide +kernel
theorem dX3_isA_25 : decode cX3_isA 25 = .ok (.iaload, 1) := by decide +kernel
theorem dX3_isA_26 : decode cX3_isA 26 = .ok (.istore_n 2, 1) := by decide +kernel
theorem dX3_isA_27 : decode cX3_isA 27 = .ok (.iinc 3 1, 3) := by decide +kernel
theorem dX3_isA_30 : decode cX3_isA 30 = .ok (.goto (-26), 3) := by decide +kernel
theorem dX3_isA_33 : decode cX3_isA 33 = .ok (.iconst 0, 1) := by decide +kernel
theorem dX3_isA_34 : decode cX3_isA 34 = .ok (.ireturn, 1) := by decide +kernel
theorem dX3_wayToUnload_0 : decode cX3_wayToUnload 0 = .ok (.iload_n 0, 1) := by decide +kernel
theorem dX3_wayToUnload_1 : decode cX3_wayToUnload 1 = .ok (.iconst 0, 1) := by decide +kernel
theorem dX3_wayToUnload_2 : decode cX3_wayToUnload 2 = .ok (.invokestatic 28, 3) := by decide +kernel
theorem dX3_wayToUnload_5 : decode cX3_wayToUnload 5 = .ok (.iload_n 0, 1) := by decide +kernel
theorem dX3_wayToUnload_6 : decode cX3_wayToUnload 6 = .ok (.iconst 1, 1) := by decide +kernel
theorem dX3_wayToUnload_7 : decode cX3_wayToUnload 7 = .ok (.invokestatic 28, 3) := by decide +kernel
theorem dX3_wayToUnload_10 : decode cX3_wayToUnload 10 = .ok (.iadd, 1) := by decide +kernel
theorem dX3_wayToUnload_11 : decode cX3_wayToUnload 11 = .ok (.ireturn, 1) := by decide +kernel
theorem dX3_wayToLoad_0 : decode cX3_wayToLoad 0 = .ok (.iload_n 0, 1) := by decide +kernel
theorem dX3_wayToLoad_1 : decode cX3_wayToLoad 1 = .ok (.iconst 2, 1) := by decide +kernel
theorem dX3_wayToLoad_2 : decode cX3_wayToLoad 2 = .ok (.invokestatic 28, 3) := by decide +kernel
theorem dX3_wayToLoad_5 : decode cX3_wayToLoad 5 = .ok (.iload_n 0, 1) := by decide +kernel
theorem dX3_wayToLoad_6 : decode cX3_wayToLoad 6 = .ok (.iconst 4, 1) := by decide +kernel
theorem dX3_wayToLoad_7 : decode cX3_wayToLoad 7 = .ok (.invokestatic 28, 3) := by decide +kernel
theorem dX3_wayToLoad_10 : decode cX3_wayToLoad 10 = .ok (.iadd, 1) := by decide +kernel
theorem dX3_wayToLoad_11 : decode cX3_wayToLoad 11 = .ok (.istore_n 1, 1) := by decide +kernel
theorem dX3_wayToLoad_12 : decode cX3_wayToLoad 12 = .ok (.iload_n 0, 1) := by decide +kernel
theorem dX3_wayToLoad_13 : decode cX3_wayToLoad 13 = .ok (.invokestatic 32, 3) := by decide +kernel
theorem dX3_wayToLoad_16 : decode cX3_wayToLoad 16 = .ok (.iload_n 0, 1) := by decide +kernel
theorem dX3_wayToLoad_17 : decode cX3_wayToLoad 17 = .ok (.iconst 3, 1) := by decide +kernel
theorem dX3_wayToLoad_18 : decode cX3_wayToLoad 18 = .ok (.invokestatic 28, 3) := by decide +kernel
theorem dX3_wayToLoad_21 : decode cX3_wayToLoad 21 = .ok (.iload_n 1, 1) := by decide +kernel
theorem dX3_wayToLoad_22 : decode cX3_wayToLoad 22 = .ok (.invokestatic 36, 3) := by decide +kernel
theorem dX3_wayToLoad_25 : decode cX3_wayToLoad 25 = .ok (.iadd, 1) := by decide +kernel
theorem dX3_wayToLoad_26 : decode cX3_wayToLoad 26 = .ok (.iload_n 0, 1) := by decide +kernel
theorem dX3_wayToLoad_27 : decode cX3_wayToLoad 27 = .ok (.iconst 5, 1) := by decide +kernel
theorem dX3_wayToLoad_28 : decode cX3_wayToLoad 28 = .ok (.invokestatic 28, 3) := by decide +kernel
theorem dX3_wayToLoad_31 : decode cX3_wayToLoad 31 = .ok (.iadd, 1) := by decide +kernel
theorem dX3_wayToLoad_32 : decode cX3_wayToLoad 32 = .ok (.ireturn, 1) := by decide +kernel
theorem dX3_wayThrough_0 : decode cX3_wayThrough 0 = .ok (.iload_n 0, 1) := by decide +kernel
theorem dX3_wayThrough_1 : decode cX3_wayThrough 1 = .ok (.invokestatic 41, 3) := by decide +kernel
theorem dX3_wayThrough_4 : decode cX3_wayThrough 4 = .ok (.iload_n 1, 1) := by decide +kernel
theorem dX3_wayThrough_5 : decode cX3_wayThrough 5 = .ok (.ifCond .eq 12, 3) := by decide +kernel
theorem dX3_wayThrough_8 : decode cX3_wayThrough 8 = .ok (.iload_n 0, 1) := by decide +kernel
theorem dX3_wayThrough_9 : decode cX3_wayThrough 9 = .ok (.bipush 6, 2) := by decide +kernel
theorem dX3_wayThrough_11 : decode cX3_wayThrough 11 = .ok (.invokestatic 28, 3) := by decide +kernel
theorem dX3_wayThrough_14 : decode cX3_wayThrough 14 = .ok (.goto 4, 3) := by decide +kernel
theorem dX3_wayThrough_17 : decode cX3_wayThrough 17 = .ok (.iconst 0, 1) := by decide +kernel
theorem dX3_wayThrough_18 : decode cX3_wayThrough 18 = .ok (.iadd, 1) := by decide +kernel
theorem dX3_wayThrough_19 : decode cX3_wayThrough 19 = .ok (.iload_n 0, 1) := by decide +kernel
theorem dX3_wayThrough_20 : decode cX3_wayThrough 20 = .ok (.bipush 7, 2) := by decide +kernel
theorem dX3_wayThrough_22 : decode cX3_wayThrough 22 = .ok (.invokestatic 28, 3) := by decide +kernel
theorem dX3_wayThrough_25 : decode cX3_wayThrough 25 = .ok (.iadd, 1) := by decide +kernel
theorem dX3_wayThrough_26 : decode cX3_wayThrough 26 = .ok (.ireturn, 1) := by decide +kernel
theorem dX7_renew_0 : decode cX7_renew 0 = .ok (.aload_n 0, 1) := by decide +kernel
theorem dX7_renew_1 : decode cX7_renew 1 = .ok (.iload_n 1, 1) := by decide +kernel
theorem dX7_renew_2 : decode cX7_renew 2 = .ok (.putfield 9, 3) := by decide +kernel
theorem dX7_renew_5 : decode cX7_renew 5 = .ok (.aload_n 0, 1) := by decide +kernel
theorem dX7_renew_6 : decode cX7_renew 6 = .ok (.iload_n 1, 1) := by decide +kernel
theorem dX7_renew_7 : decode cX7_renew 7 = .ok (.iconst (-1), 1) := by decide +kernel
theorem dX7_renew_8 : decode cX7_renew 8 = .ok (.if_icmp .ne 7, 3) := by decide +kernel
theorem dX7_renew_11 : decode cX7_renew 11 = .ok (.iconst 0, 1) := by decide +kernel
theorem dX7_renew_12 : decode cX7_renew 12 = .ok (.goto 4, 3) := by decide +kernel
theorem dX7_renew_15 : decode cX7_renew 15 = .ok (.iload_n 2, 1) := by decide +kernel
theorem dX7_renew_16 : decode cX7_renew 16 = .ok (.putfield 17, 3) := by decide +kernel
theorem dX7_renew_19 : decode cX7_renew 19 = .ok (.iconst 0, 1) := by decide +kernel
theorem dX7_renew_20 : decode cX7_renew 20 = .ok (.istore_n 3, 1) := by decide +kernel
theorem dX7_renew_21 : decode cX7_renew 21 = .ok (.iload_n 3, 1) := by decide +kernel
theorem dX7_renew_22 : decode cX7_renew 22 = .ok (.bipush 40, 2) := by decide +kernel
theorem dX7_renew_24 : decode cX7_renew 24 = .ok (.if_icmp .ge 16, 3) := by decide +kernel
theorem dX7_renew_27 : decode cX7_renew 27 = .ok (.aload_n 0, 1) := by decide +kernel
theorem dX7_renew_28 : decode cX7_renew 28 = .ok (.getfield 13, 3) := by decide +kernel
theorem dX7_renew_31 : decode cX7_renew 31 = .ok (.iload_n 3, 1) := by decide +kernel
theorem dX7_renew_32 : decode cX7_renew 32 = .ok (.iconst 0, 1) := by decide +kernel
theorem dX7_renew_33 : decode cX7_renew 33 = .ok (.iastore, 1) := by decide +kernel
theorem dX7_renew_34 : decode cX7_renew 34 = .ok (.iinc 3 1, 3) := by decide +kernel
theorem dX7_renew_37 : decode cX7_renew 37 = .ok (.goto (-16), 3) := by decide +kernel
theorem dX7_renew_40 : decode cX7_renew 40 = .ok (.return_, 1) := by decide +kernel
theorem dX7_isMissing_0 : decode cX7_isMissing 0 = .ok (.aload_n 0, 1) := by decide +kernel
theorem dX7_isMissing_1 : decode cX7_isMissing 1 = .ok (.getfield 9, 3) := by decide +kernel
theorem dX7_isMissing_4 : decode cX7_isMissing 4 = .ok (.iconst (-1), 1) := by decide +kernel
theorem dX7_isMissing_5 : decode cX7_isMissing 5 = .ok (.if_icmp .ne 7, 3) := by decide +kernel
theorem dX7_isMissing_8 : decode cX7_isMissing 8 = .ok (.iconst 1, 1) := by decide +kernel
theorem dX7_isMissing_9 : decode cX7_isMissing 9 = .ok (.goto 4, 3) := by decide +kernel
theorem dX7_isMissing_12 : decode cX7_isMissing 12 = .ok (.iconst 0, 1) := by decide +kernel
theorem dX7_isMissing_13 : decode cX7_isMissing 13 = .ok (.ireturn, 1) := by decide +kernel
theorem dX7_has_0 : decode cX7_has 0 = .ok (.iload_n 1, 1) := by decide +kernel
theorem dX7_has_1 : decode cX7_has 1 = .ok (.ifCond .lt 15, 3) := by decide +kernel
theorem dX7_has_4 : decode cX7_has 4 = .ok (.iload_n 1, 1) := by decide +kernel
theorem dX7_has_5 : decode cX7_has 5 = .ok (.aload_n 0, 1) := by decide +kernel
theorem dX7_has_6 : decode cX7_has 6 = .ok (.getfield 17, 3) := by decide +kernel
theorem dX7_has_9 : decode cX7_has 9 = .ok (.if_icmp .ge 7, 3) := by decide +kernel
theorem dX7_has_12 : decode cX7_has 12 = .ok (.iconst 1, 1) := by decide +kernel
theorem dX7_has_13 : decode cX7_has 13 = .ok (.goto 4, 3) := by decide +kernel
theorem dX7_has_16 : decode cX7_has 16 = .ok (.iconst 0, 1) := by decide +kernel
theorem dX7_has_17 : decode cX7_has 17 = .ok (.ireturn, 1) := by decide +kernel
theorem dX7_spans_0 : decode cX7_spans 0 = .ok (.iload_n 1, 1) := by decide +kernel
theorem dX7_spans_1 : decode cX7_spans 1 = .ok (.ifCond .lt 29, 3) := by decide +kernel
theorem dX7_spans_4 : decode cX7_spans 4 = .ok (.iload_n 2, 1) := by decide +kernel
theorem dX7_spans_5 : decode cX7_spans 5 = .ok (.ifCond .lt 25, 3) := by decide +kernel
theorem dX7_spans_8 : decode cX7_spans 8 = .ok (.iload_n 2, 1) := by decide +kernel
theorem dX7_spans_9 : decode cX7_spans 9 = .ok (.aload_n 0, 1) := by decide +kernel
theorem dX7_spans_10 : decode cX7_spans 10 = .ok (.getfield 17, 3) := by decide +kernel
theorem dX7_spans_13 : decode cX7_spans 13 = .ok (.if_icmp .gt 17, 3) := by decide +kernel
theorem dX7_spans_16 : decode cX7_spans 16 = .ok (.iload_n 1, 1) := by decide +kernel
theorem dX7_spans_17 : decode cX7_spans 17 = .ok (.aload_n 0, 1) := by decide +kernel
theorem dX7_spans_18 : decode cX7_spans 18 = .ok (.getfield 17, 3) := by decide +kernel
theorem dX7_spans_21 : decode cX7_spans 21 = .ok (.iload_n 2, 1) := by decide +kernel
theorem dX7_spans_22 : decode cX7_spans 22 = .ok (.isub, 1) := by decide +kernel
theorem dX7_spans_23 : decode cX7_spans 23 = .ok (.if_icmp .gt 7, 3) := by decide +kernel
theorem dX7_spans_26 : decode cX7_spans 26 = .ok (.iconst 1, 1) := by decide +kernel
theorem dX7_spans_27 : decode cX7_spans 27 = .ok (.goto 4, 3) := by decide +kernel
theorem dX7_spans_30 : decode cX7_spans 30 = .ok (.iconst 0, 1) := by decide +kernel
theorem dX7_spans_31 : decode cX7_spans 31 = .ok (.ireturn, 1) := by decide +kernel
theorem dX7_put_0 : decode cX7_put 0 = .ok (.aload_n 0, 1) := by decide +kernel
theorem dX7_put_1 : decode cX7_put 1 = .ok (.getfield 9, 3) := by decide +kernel
theorem dX7_put_4 : decode cX7_put 4 = .ok (.ifCond .ne 14, 3) := by decide +kernel
theorem dX7_put_7 : decode cX7_put 7 = .ok (.aload_n 0, 1) := by decide +kernel
theorem dX7_put_8 : decode cX7_put 8 = .ok (.getfield 13, 3) := by decide +kernel
theorem dX7_put_11 : decode cX7_put 11 = .ok (.iload_n 1, 1) := by decide +kernel
theorem dX7_put_12 : decode cX7_put 12 = .ok (.iload_n 2, 1) := by decide +kernel
theorem dX7_put_13 : decode cX7_put 13 = .ok (.i2b, 1) := by decide +kernel
theorem dX7_put_14 : decode cX7_put 14 = .ok (.iastore, 1) := by decide +kernel
theorem dX7_put_15 : decode cX7_put 15 = .ok (.goto 29, 3) := by decide +kernel
theorem dX7_put_18 : decode cX7_put 18 = .ok (.aload_n 0, 1) := by decide +kernel
theorem dX7_put_19 : decode cX7_put 19 = .ok (.getfield 9, 3) := by decide +kernel
theorem dX7_put_22 : decode cX7_put 22 = .ok (.iconst 1, 1) := by decide +kernel
theorem dX7_put_23 : decode cX7_put 23 = .ok (.if_icmp .ne 14, 3) := by decide +kernel
theorem dX7_put_26 : decode cX7_put 26 = .ok (.aload_n 0, 1) := by decide +kernel
theorem dX7_put_27 : decode cX7_put 27 = .ok (.getfield 13, 3) := by decide +kernel
theorem dX7_put_30 : decode cX7_put 30 = .ok (.iload_n 1, 1) := by decide +kernel
theorem dX7_put_31 : decode cX7_put 31 = .ok (.iload_n 2, 1) := by decide +kernel
theorem dX7_put_32 : decode cX7_put 32 = .ok (.i2s, 1) := by decide +kernel
theorem dX7_put_33 : decode cX7_put 33 = .ok (.iastore, 1) := by decide +kernel
theorem dX7_put_34 : decode cX7_put 34 = .ok (.goto 10, 3) := by decide +kernel
theorem dX7_put_37 : decode cX7_put 37 = .ok (.aload_n 0, 1) := by decide +kernel
theorem dX7_put_38 : decode cX7_put 38 = .ok (.getfield 13, 3) := by decide +kernel
theorem dX7_put_41 : decode cX7_put 41 = .ok (.iload_n 1, 1) := by decide +kernel
theorem dX7_put_42 : decode cX7_put 42 = .ok (.iload_n 2, 1) := by decide +kernel
theorem dX7_put_43 : decode cX7_put 43 = .ok (.iastore, 1) := by decide +kernel
theorem dX7_put_44 : decode cX7_put 44 = .ok (.return_, 1) := by decide +kernel
section WK
variable {p : Program} {l : Launch} {e : Env} {s : State} {m : MethodId} {args : Array Value} {below : List Frame} {meth : Method} {c : Code}
set_option maxHeartbeats 4000000 in
set_option maxRecDepth 20000 in
theorem kX0_add (l : Launch) {k : En} {S : Nat → Prop} (hS : ∀ t, S t) {a1 : Int32} {a2 : Int32} {a3 : Int32} {res : Mm × Int32} {g : Mm} (hf : fX0_add g a1 a2 a3 = some res) : Mt l yX0_add cX0_add 4 (some .int) (RmN 0 0) YC S k [.ref (k.1 + adC 24 0 0), .int a1, .int a2, .int a3] g (some (.int res.2)) res.1 := by
  refine Mt.of (by decide) (Nat.le_of_ble_eq_true rfl) ?_
  intro p e s m args below meth c ls X _ h hl
  have X : Cx YC S k p s m args meth c cX0_add 4 (some .int) RX0 := X
  have hl : lv_has ls 4 [(0, .ref (k.1 + adC 24 0 0)), (1, .int a1), (2, .int a2), (3, .int a3)] := hl
  have JR : res = res := rfl
  unfold fX0_add at hf
  refine lv_aload_n X.x X.b dX0_add_0 rfl (lv_at hl 0 rfl) ?_
  refine gC_24_0 X h (hS 24) Nat.one_pos Nat.one_pos lk_X0_21 dX0_add_1 ?_
  refine lv_bipush (v := 40) X.x X.b dX0_add_4 (by decide) ?_
  refine lv_icmp_lt (tgt := 12) X.x X.b dX0_add_6 (by decide) (fun c1 => ?_) (fun c1 => ?_)
  · have hf := wT c1 hf
    refine lv_aload_n X.x X.b dX0_add_12 rfl (lv_at hl 0 rfl) ?_
    refine gC_24_1 X h (hS 24) Nat.one_pos Nat.one_pos lk_X0_11 dX0_add_13 ?_
    refine lv_aload_n X.x X.b dX0_add_16 rfl (lv_at hl 0 rfl) ?_
    refine gC_24_0 X h (hS 24) Nat.one_pos Nat.one_pos lk_X0_21 dX0_add_17 ?_
    refine lv_iload_n X.x X.b dX0_add_20 rfl (lv_at hl 1 rfl) ?_
    obtain ⟨b2, hf⟩ := wGi_s hf
    obtain ⟨g3, e4, hf⟩ := wLe_s hf
    refine bC_25 X h (hS 25) Nat.one_pos Nat.one_pos e4 b2 dX0_add_21 (fun H locs h => ?_)
    refine lv_aload_n X.x X.b dX0_add_22 rfl (lv_at hl 0 rfl) ?_
    refine gC_24_2 X h (hS 24) Nat.one_pos Nat.one_pos lk_X0_15 dX0_add_23 ?_
    refine lv_aload_n X.x X.b dX0_add_26 rfl (lv_at hl 0 rfl) ?_
    refine gC_24_0 X h (hS 24) Nat.one_pos Nat.one_pos lk_X0_21 dX0_add_27 ?_
    refine lv_iload_n X.x X.b dX0_add_30 rfl (lv_at hl 2 rfl) ?_
    obtain ⟨b5, hf⟩ := wGi_s hf
    obtain ⟨g6, e7, hf⟩ := wLe_s hf
    refine bC_26 X h (hS 26) Nat.one_pos Nat.one_pos e7 b5 dX0_add_31 (fun H locs h => ?_)
    refine lv_aload_n X.x X.b dX0_add_32 rfl (lv_at hl 0 rfl) ?_
    refine gC_24_3 X h (hS 24) Nat.one_pos Nat.one_pos lk_X0_18 dX0_add_33 ?_
    refine lv_aload_n X.x X.b dX0_add_36 rfl (lv_at hl 0 rfl) ?_
    refine gC_24_0 X h (hS 24) Nat.one_pos Nat.one_pos lk_X0_21 dX0_add_37 ?_
    refine lv_iload_n X.x X.b dX0_add_40 rfl (lv_at hl 3 rfl) ?_
    obtain ⟨b8, hf⟩ := wGi_s hf
    obtain ⟨g9, e10, hf⟩ := wLe_s hf
    refine bC_27 X h (hS 27) Nat.one_pos Nat.one_pos e10 b8 dX0_add_41 (fun H locs h => ?_)
    refine lv_aload_n X.x X.b dX0_add_42 rfl (lv_at hl 0 rfl) ?_
    refine lv_dup X.x X.b dX0_add_43 rfl ?_
    refine gC_24_0 X h (hS 24) Nat.one_pos Nat.one_pos lk_X0_21 dX0_add_44 ?_
    refine lv_dup_x1 X.x X.b dX0_add_47 rfl rfl ?_
    refine lv_iconst (v := 1) X.x X.b dX0_add_48 (by decide) ?_
    refine lv_iadd X.x X.b dX0_add_49 ?_
    obtain ⟨g11, e12, hf⟩ := wLe_s hf
    refine pC_24_0 X h (hS 24) Nat.one_pos Nat.one_pos lk_X0_21 e12 dX0_add_50 (fun H locs h => ?_)
    cases (Option.some.inj hf).trans JR
    exact ro_iret X h dX0_add_53
  · have hf := wF c1 hf
    refine lv_bipush (v := (-4)) X.x X.b dX0_add_9 (by decide) ?_
    cases (Option.some.inj hf).trans JR
    exact ro_iret X h dX0_add_11
set_option maxHeartbeats 4000000 in
set_option maxRecDepth 20000 in
theorem wX0_thought_b43 {k : En} {S : Nat → Prop} (hS : ∀ t, S t) {g0 : Mm} {a1 : Int32} {a2 : Int32} {a3 : Int32} {res : Int32} (X : Cx YC S k p s m args meth c cX0_thought 5 (some .int) RX0) {x4 : Int32} {H : Heap} {locs : List Loc} {ls : Array Slot} (h : Hx YC S k s g0 H locs) (hl : lv_has ls 5 [(0, .ref (k.1 + adC 24 0 0)), (1, .int a1), (2, .int a2), (3, .int a3), (4, .int x4)]) {r : (Int32) ⊕ (Int32)} (hf : fX0_thought_b43 g0 a1 a2 a3 x4 = some r) (J1 : ∀ (x4 : Int32), r = .inl x4 → ∀ (H : Heap) (locs : List Loc) (ls : Array Slot), Hx YC S k s g0 H locs → lv_has ls 5 [(0, .ref (k.1 + adC 24 0 0)), (1, .int a1), (2, .int a2), (3, .int a3), (4, .int x4)] → W p l e (RmN 0 0) s m args below meth c H locs 0 0 (Fin YC S k args s below (some (.int res)) g0) (F0 m 8 ls [])) (JR : ∀ t1, r = .inr t1 → t1 = res) :
    W p l e (RmN 0 0) s m args below meth c H locs 0 0 (Fin YC S k args s below (some (.int res)) g0) (F0 m 43 ls []) := by
  unfold fX0_thought_b43 at hf
  obtain ⟨y8, e9, hf⟩ := wLe_s hf
  refine lv_iinc (v := y8) (lv' := [(4, .int y8), (0, .ref (k.1 + adC 24 0 0)), (1, .int a1), (2, .int a2), (3, .int a3)]) X.x X.b dX0_thought_43 hl (k := 4) rfl (by rw [e9]; rfl) (by decide) rfl (fun ls hl => ?_)
  refine lv_goto (tgt := 8) X.x X.b dX0_thought_46 (by decide) ?_
  exact J1 _ (Option.some.inj hf).symm _ _ _ h (lv_sub hl [1, 2, 3, 4, 0] rfl)
set_option maxHeartbeats 4000000 in
set_option maxRecDepth 20000 in
theorem wX0_thought_L8 {k : En} {S : Nat → Prop} (hS : ∀ t, S t) {g0 : Mm} {a1 : Int32} {a2 : Int32} {a3 : Int32} {res : Int32} (X : Cx YC S k p s m args meth c cX0_thought 5 (some .int) RX0) {r : Int32} (JR : r = res) :
    ∀ (fu : Nat) (x4 : Int32) (H : Heap) (locs : List Loc) (ls : Array Slot), Hx YC S k s g0 H locs → lv_has ls 5 [(0, .ref (k.1 + adC 24 0 0)), (1, .int a1), (2, .int a2), (3, .int a3), (4, .int x4)] → wLp (fun q => fX0_thought_B8 g0 a1 a2 a3 q) fu x4 = some r → W p l e (RmN 0 0) s m args below meth c H locs 0 0 (Fin YC S k args s below (some (.int res)) g0) (F0 m 8 ls []) := by
  intro fu
  induction fu with
  | zero => intro x4 H locs ls h hl hf; exact (wLp_0 hf).elim
  | succ fu ih1 =>
    intro x4 H locs ls h hl hf
    obtain ⟨r1, hf, hr⟩ := wLp_s hf
    have J1n : ∀ (x4 : Int32), r1 = .inl x4 → ∀ (H : Heap) (locs : List Loc) (ls : Array Slot), Hx YC S k s g0 H locs → lv_has ls 5 [(0, .ref (k.1 + adC 24 0 0)), (1, .int a1), (2, .int a2), (3, .int a3), (4, .int x4)] → W p l e (RmN 0 0) s m args below meth c H locs 0 0 (Fin YC S k args s below (some (.int res)) g0) (F0 m 8 ls []) := fun x4 q H locs ls h hl => by subst q; exact ih1 _ _ _ _ h hl hr
    have JRn : ∀ t1, r1 = .inr t1 → t1 = res := fun t1 q => by subst q; obtain rfl := Option.some.inj hr; exact JR
    have J1 := J1n
    have JR := JRn
    clear J1n JRn
    have hf : fX0_thought_B8 g0 a1 a2 a3 x4 = some r1 := hf
    unfold fX0_thought_B8 at hf
    refine lv_iload X.x X.b dX0_thought_8 (lv_at hl 4 rfl) ?_
    refine lv_if_lt (tgt := 49) X.x X.b dX0_thought_10 (by decide) (fun c3 => ?_) (fun c3 => ?_)
    · have hf := wT c3 hf
      obtain ⟨t4, hf, e5⟩ := wEx_s hf
      have JR := JR t4 e5
      refine lv_iload_n X.x X.b dX0_thought_49 rfl (lv_at hl 3 rfl) ?_
      cases (Option.some.inj hf).trans JR
      exact ro_iret X h dX0_thought_50
    · have hf := wF c3 hf
      refine lv_aload_n X.x X.b dX0_thought_13 rfl (lv_at hl 0 rfl) ?_
      refine gC_24_1 X h (hS 24) Nat.one_pos Nat.one_pos lk_X0_11 dX0_thought_14 ?_
      refine lv_iload X.x X.b dX0_thought_17 (lv_at hl 4 rfl) ?_
      obtain ⟨b6, hf⟩ := wGi_s hf
      refine aC_25 X h (hS 25) Nat.one_pos Nat.one_pos b6 dX0_thought_19 ?_
      refine lv_iload_n X.x X.b dX0_thought_20 rfl (lv_at hl 1 rfl) ?_
      refine lv_icmp_ne (tgt := 43) X.x X.b dX0_thought_21 (by decide) (fun c7 => ?_) (fun c7 => ?_)
      · have hf := wF c7 hf
        exact wX0_thought_b43 hS X h (lv_sub hl [0, 1, 2, 3, 4] rfl) hf J1 JR
      · have hf := wT c7 hf
        refine lv_aload_n X.x X.b dX0_thought_24 rfl (lv_at hl 0 rfl) ?_
        refine gC_24_3 X h (hS 24) Nat.one_pos Nat.one_pos lk_X0_18 dX0_thought_25 ?_
        refine lv_iload X.x X.b dX0_thought_28 (lv_at hl 4 rfl) ?_
        obtain ⟨b10, hf⟩ := wGi_s hf
        refine aC_27 X h (hS 27) Nat.one_pos Nat.one_pos b10 dX0_thought_30 ?_
        refine lv_iload_n X.x X.b dX0_thought_31 rfl (lv_at hl 2 rfl) ?_
        refine lv_icmp_gt (tgt := 43) X.x X.b dX0_thought_32 (by decide) (fun c11 => ?_) (fun c11 => ?_)
        · have hf := wT c11 hf
          exact wX0_thought_b43 hS X h (lv_sub hl [0, 1, 2, 3, 4] rfl) hf J1 JR
        · have hf := wF c11 hf
          obtain ⟨t12, hf, e13⟩ := wEx_s hf
          have JR := JR t12 e13
          refine lv_aload_n X.x X.b dX0_thought_35 rfl (lv_at hl 0 rfl) ?_
          refine gC_24_2 X h (hS 24) Nat.one_pos Nat.one_pos lk_X0_15 dX0_thought_36 ?_
          refine lv_iload X.x X.b dX0_thought_39 (lv_at hl 4 rfl) ?_
          obtain ⟨b14, hf⟩ := wGi_s hf
          refine aC_26 X h (hS 26) Nat.one_pos Nat.one_pos b14 dX0_thought_41 ?_
          cases (Option.some.inj hf).trans JR
          exact ro_iret X h dX0_thought_42
set_option maxHeartbeats 4000000 in
set_option maxRecDepth 20000 in
theorem kX0_thought (l : Launch) {k : En} {S : Nat → Prop} (hS : ∀ t, S t) {g0 : Mm} {a1 : Int32} {a2 : Int32} {a3 : Int32} {res : Int32} (hf : fX0_thought g0 a1 a2 a3 = some res) : Mt l yX0_thought cX0_thought 5 (some .int) (RmN 0 0) YC S k [.ref (k.1 + adC 24 0 0), .int a1, .int a2, .int a3] g0 (some (.int res)) g0 := by
  refine Mt.of (by decide) (Nat.le_of_ble_eq_true rfl) ?_
  intro p e s m args below meth c ls X _ h hl
  have X : Cx YC S k p s m args meth c cX0_thought 5 (some .int) RX0 := X
  have hl : lv_has ls 5 [(0, .ref (k.1 + adC 24 0 0)), (1, .int a1), (2, .int a2), (3, .int a3)] := hl
  have JR : res = res := rfl
  unfold fX0_thought at hf
  refine lv_aload_n X.x X.b dX0_thought_0 rfl (lv_at hl 0 rfl) ?_
  refine gC_24_0 X h (hS 24) Nat.one_pos Nat.one_pos lk_X0_21 dX0_thought_1 ?_
  refine lv_iconst (v := 1) X.x X.b dX0_thought_4 (by decide) ?_
  refine lv_isub X.x X.b dX0_thought_5 ?_
  obtain ⟨y1, e2, hf⟩ := wLe_s hf
  refine lv_nmi e2 ?_
  refine lv_istore (lv' := [(4, .int y1), (0, .ref (k.1 + adC 24 0 0)), (1, .int a1), (2, .int a2), (3, .int a3)]) X.x X.b dX0_thought_6 hl (by decide) rfl (fun ls hl => ?_)
  exact wX0_thought_L8 hS X JR _ _ _ _ _ h (lv_sub hl [1, 2, 3, 4, 0] rfl) hf
set_option maxHeartbeats 4000000 in
set_option maxRecDepth 20000 in
theorem kX1_begin (l : Launch) {k : En} {S : Nat → Prop} (hS : ∀ t, S t) {i : Nat} {v : Nat} {a1 : Int32} {a2 : Int32} {a3 : Int32} {a4 : Int32} (hi : i < 2) (hv : v < 16) {res : Mm} {g : Mm} (hf : fX1_begin g i v a1 a2 a3 a4 = some res) : Mt l yX1_begin cX1_begin 5 none (RmN 0 0) YC S k [.ref (k.1 + adC 22 i v), .int a1, .int a2, .int a3, .int a4] g none res := by
  refine Mt.of (by decide) (Nat.le_of_ble_eq_true rfl) ?_
  intro p e s m args below meth c ls X _ h hl
  have X : Cx YC S k p s m args meth c cX1_begin 5 none RX1 := X
  have hl : lv_has ls 5 [(0, .ref (k.1 + adC 22 i v)), (1, .int a1), (2, .int a2), (3, .int a3), (4, .int a4)] := hl
  have JR : res = res := rfl
  unfold fX1_begin at hf
  refine lv_aload_n X.x X.b dX1_begin_0 rfl (lv_at hl 0 rfl) ?_
  refine lv_iload_n X.x X.b dX1_begin_1 rfl (lv_at hl 1 rfl) ?_
  obtain ⟨g1, e2, hf⟩ := wLe_s hf
  refine pC_22_0 X h (hS 22) hi hv lk_X1_9 e2 dX1_begin_2 (fun H locs h => ?_)
  refine lv_aload_n X.x X.b dX1_begin_5 rfl (lv_at hl 0 rfl) ?_
  refine lv_iload_n X.x X.b dX1_begin_6 rfl (lv_at hl 2 rfl) ?_
  obtain ⟨g3, e4, hf⟩ := wLe_s hf
  refine pC_22_1 X h (hS 22) hi hv lk_X1_15 e4 dX1_begin_7 (fun H locs h => ?_)
  refine lv_aload_n X.x X.b dX1_begin_10 rfl (lv_at hl 0 rfl) ?_
  refine lv_iload_n X.x X.b dX1_begin_11 rfl (lv_at hl 3 rfl) ?_
  obtain ⟨g5, e6, hf⟩ := wLe_s hf
  refine pC_22_2 X h (hS 22) hi hv lk_X1_18 e6 dX1_begin_12 (fun H locs h => ?_)
  refine lv_aload_n X.x X.b dX1_begin_15 rfl (lv_at hl 0 rfl) ?_
  refine lv_iload X.x X.b dX1_begin_16 (lv_at hl 4 rfl) ?_
  obtain ⟨g7, e8, hf⟩ := wLe_s hf
  refine pC_22_3 X h (hS 22) hi hv lk_X1_21 e8 dX1_begin_18 (fun H locs h => ?_)
  refine lv_aload_n X.x X.b dX1_begin_21 rfl (lv_at hl 0 rfl) ?_
  refine lv_iconst (v := (-1)) X.x X.b dX1_begin_22 (by decide) ?_
  obtain ⟨g9, e10, hf⟩ := wLe_s hf
  refine pC_22_5 X h (hS 22) hi hv lk_X1_24 e10 dX1_begin_23 (fun H locs h => ?_)
  cases (Option.some.inj hf).trans JR
  exact ro_vret X h dX1_begin_26
set_option maxHeartbeats 4000000 in
set_option maxRecDepth 20000 in
theorem kX1_become (l : Launch) {k : En} {S : Nat → Prop} (hS : ∀ t, S t) {i : Nat} {v : Nat} {i1 : Nat} {v1 : Nat} (hi : i < 2) (hv : v < 16) (hi1 : i1 < 2) (hv1 : v1 < 16) {res : Mm} {g : Mm} (hf : fX1_become g i v i1 v1 = some res) : Mt l yX1_become cX1_become 2 none (RmN 0 0) YC S k [.ref (k.1 + adC 22 i v), .ref (k.1 + adC 22 i1 v1)] g none res := by
  refine Mt.of (by decide) (Nat.le_of_ble_eq_true rfl) ?_
  intro p e s m args below meth c ls X _ h hl
  have X : Cx YC S k p s m args meth c cX1_become 2 none RX1 := X
  have hl : lv_has ls 2 [(0, .ref (k.1 + adC 22 i v)), (1, .ref (k.1 + adC 22 i1 v1))] := hl
  have JR : res = res := rfl
  unfold fX1_become at hf
  refine lv_aload_n X.x X.b dX1_become_0 rfl (lv_at hl 0 rfl) ?_
  refine lv_aload_n X.x X.b dX1_become_1 rfl (lv_at hl 1 rfl) ?_
  refine gC_22_0 X h (hS 22) hi1 hv1 lk_X1_9 dX1_become_2 ?_
  obtain ⟨g1, e2, hf⟩ := wLe_s hf
  refine pC_22_0 X h (hS 22) hi hv lk_X1_9 e2 dX1_become_5 (fun H locs h => ?_)
  refine lv_aload_n X.x X.b dX1_become_8 rfl (lv_at hl 0 rfl) ?_
  refine lv_aload_n X.x X.b dX1_become_9 rfl (lv_at hl 1 rfl) ?_
  refine gC_22_1 X h (hS 22) hi1 hv1 lk_X1_15 dX1_become_10 ?_
  obtain ⟨g3, e4, hf⟩ := wLe_s hf
  refine pC_22_1 X h (hS 22) hi hv lk_X1_15 e4 dX1_become_13 (fun H locs h => ?_)
  refine lv_aload_n X.x X.b dX1_become_16 rfl (lv_at hl 0 rfl) ?_
  refine lv_aload_n X.x X.b dX1_become_17 rfl (lv_at hl 1 rfl) ?_
  refine gC_22_2 X h (hS 22) hi1 hv1 lk_X1_18 dX1_become_18 ?_
  obtain ⟨g5, e6, hf⟩ := wLe_s hf
  refine pC_22_2 X h (hS 22) hi hv lk_X1_18 e6 dX1_become_21 (fun H locs h => ?_)
  refine lv_aload_n X.x X.b dX1_become_24 rfl (lv_at hl 0 rfl) ?_
  refine lv_aload_n X.x X.b dX1_become_25 rfl (lv_at hl 1 rfl) ?_
  refine gC_22_3 X h (hS 22) hi1 hv1 lk_X1_21 dX1_become_26 ?_
  obtain ⟨g7, e8, hf⟩ := wLe_s hf
  refine pC_22_3 X h (hS 22) hi hv lk_X1_21 e8 dX1_become_29 (fun H locs h => ?_)
  refine lv_aload_n X.x X.b dX1_become_32 rfl (lv_at hl 0 rfl) ?_
  refine lv_aload_n X.x X.b dX1_become_33 rfl (lv_at hl 1 rfl) ?_
  refine gC_22_4 X h (hS 22) hi1 hv1 lk_X1_27 dX1_become_34 ?_
  obtain ⟨g9, e10, hf⟩ := wLe_s hf
  refine pC_22_4 X h (hS 22) hi hv lk_X1_27 e10 dX1_become_37 (fun H locs h => ?_)
  refine lv_aload_n X.x X.b dX1_become_40 rfl (lv_at hl 0 rfl) ?_
  refine lv_aload_n X.x X.b dX1_become_41 rfl (lv_at hl 1 rfl) ?_
  refine gC_22_5 X h (hS 22) hi1 hv1 lk_X1_24 dX1_become_42 ?_
  obtain ⟨g11, e12, hf⟩ := wLe_s hf
  refine pC_22_5 X h (hS 22) hi hv lk_X1_24 e12 dX1_become_45 (fun H locs h => ?_)
  cases (Option.some.inj hf).trans JR
  exact ro_vret X h dX1_become_48
set_option maxHeartbeats 4000000 in
set_option maxRecDepth 20000 in
theorem kX1_told (l : Launch) {k : En} {S : Nat → Prop} (hS : ∀ t, S t) {g0 : Mm} {i : Nat} {v : Nat} {a1 : Int32} (hi : i < 2) (hv : v < 16) {res : Int32} (hf : fX1_told g0 i v a1 = some res) : Mt l yX1_told cX1_told 2 (some .int) (RmN 0 0) YC S k [.ref (k.1 + adC 22 i v), .int a1] g0 (some (.int res)) g0 := by
  refine Mt.of (by decide) (Nat.le_of_ble_eq_true rfl) ?_
  intro p e s m args below meth c ls X _ h hl
  have X : Cx YC S k p s m args meth c cX1_told 2 (some .int) RX1 := X
  have hl : lv_has ls 2 [(0, .ref (k.1 + adC 22 i v)), (1, .int a1)] := hl
  have JR : res = res := rfl
  unfold fX1_told at hf
  refine lv_iload_n X.x X.b dX1_told_0 rfl (lv_at hl 1 rfl) ?_
  by_cases c1 : a1 = (0 : Int32)
  · have hf := wT c1 hf
    refine lv_tableIn (off := 35) (tgt := 36) X.x X.b dX1_told_1 (by rw [c1]; decide) (by rw [c1]; decide) (by rw [c1]; rfl) (by decide) ?_
    refine lv_aload_n X.x X.b dX1_told_36 rfl (lv_at hl 0 rfl) ?_
    refine gC_22_0 X h (hS 22) hi hv lk_X1_9 dX1_told_37 ?_
    cases (Option.some.inj hf).trans JR
    exact ro_iret X h dX1_told_40
  · have hf := wF c1 hf
    by_cases c2 : a1 = (1 : Int32)
    · have hf := wT c2 hf
      refine lv_tableIn (off := 40) (tgt := 41) X.x X.b dX1_told_1 (by rw [c2]; decide) (by rw [c2]; decide) (by rw [c2]; rfl) (by decide) ?_
      refine lv_aload_n X.x X.b dX1_told_41 rfl (lv_at hl 0 rfl) ?_
      refine gC_22_1 X h (hS 22) hi hv lk_X1_15 dX1_told_42 ?_
      cases (Option.some.inj hf).trans JR
      exact ro_iret X h dX1_told_45
    · have hf := wF c2 hf
      by_cases c3 : a1 = (2 : Int32)
      · have hf := wT c3 hf
        refine lv_tableIn (off := 45) (tgt := 46) X.x X.b dX1_told_1 (by rw [c3]; decide) (by rw [c3]; decide) (by rw [c3]; rfl) (by decide) ?_
        refine lv_aload_n X.x X.b dX1_told_46 rfl (lv_at hl 0 rfl) ?_
        refine gC_22_2 X h (hS 22) hi hv lk_X1_18 dX1_told_47 ?_
        cases (Option.some.inj hf).trans JR
        exact ro_iret X h dX1_told_50
      · have hf := wF c3 hf
        by_cases c4 : a1 = (3 : Int32)
        · have hf := wT c4 hf
          refine lv_tableIn (off := 50) (tgt := 51) X.x X.b dX1_told_1 (by rw [c4]; decide) (by rw [c4]; decide) (by rw [c4]; rfl) (by decide) ?_
          refine lv_aload_n X.x X.b dX1_told_51 rfl (lv_at hl 0 rfl) ?_
          refine gC_22_4 X h (hS 22) hi hv lk_X1_27 dX1_told_52 ?_
          cases (Option.some.inj hf).trans JR
          exact ro_iret X h dX1_told_55
        · have hf := wF c4 hf
          by_cases c5 : a1 = (4 : Int32)
          · have hf := wT c5 hf
            refine lv_tableIn (off := 55) (tgt := 56) X.x X.b dX1_told_1 (by rw [c5]; decide) (by rw [c5]; decide) (by rw [c5]; rfl) (by decide) ?_
            refine lv_aload_n X.x X.b dX1_told_56 rfl (lv_at hl 0 rfl) ?_
            refine gC_22_5 X h (hS 22) hi hv lk_X1_24 dX1_told_57 ?_
            cases (Option.some.inj hf).trans JR
            exact ro_iret X h dX1_told_60
          · have hf := wF c5 hf
            refine lv_tableOut (tgt := 61) X.x X.b dX1_told_1 (by have q0 := lv_neT c1 (a := 0) rfl; have q1 := lv_neT c2 (a := 1) rfl; have q2 := lv_neT c3 (a := 2) rfl; have q3 := lv_neT c4 (a := 3) rfl; have q4 := lv_neT c5 (a := 4) rfl; omega) (by decide) ?_
            refine lv_bipush (v := (-2)) X.x X.b dX1_told_61 (by decide) ?_
            cases (Option.some.inj hf).trans JR
            exact ro_iret X h dX1_told_63
set_option maxHeartbeats 4000000 in
set_option maxRecDepth 20000 in
theorem kX2_keep (l : Launch) {k : En} {S : Nat → Prop} (hS : ∀ t, S t) {a1 : Int32} {a2 : Int32} {a3 : Int32} {a4 : Int32} {res : Mm} {g : Mm} (hf : fX2_keep g a1 a2 a3 a4 = some res) : Mt l yX2_keep cX2_keep 5 none (RmN 0 0) YC S k [.ref (k.1 + adC 23 0 0), .int a1, .int a2, .int a3, .int a4] g none res := by
  refine Mt.of (by decide) (Nat.le_of_ble_eq_true rfl) ?_
  intro p e s m args below meth c ls X _ h hl
  have X : Cx YC S k p s m args meth c cX2_keep 5 none RX2 := X
  have hl : lv_has ls 5 [(0, .ref (k.1 + adC 23 0 0)), (1, .int a1), (2, .int a2), (3, .int a3), (4, .int a4)] := hl
  have JR : res = res := rfl
  unfold fX2_keep at hf
  refine lv_aload_n X.x X.b dX2_keep_0 rfl (lv_at hl 0 rfl) ?_
  refine lv_iload_n X.x X.b dX2_keep_1 rfl (lv_at hl 1 rfl) ?_
  obtain ⟨g1, e2, hf⟩ := wLe_s hf
  refine pC_23_0 X h (hS 23) Nat.one_pos Nat.one_pos lk_X2_7 e2 dX2_keep_2 (fun H locs h => ?_)
  refine lv_aload_n X.x X.b dX2_keep_5 rfl (lv_at hl 0 rfl) ?_
  refine lv_iload_n X.x X.b dX2_keep_6 rfl (lv_at hl 2 rfl) ?_
  obtain ⟨g3, e4, hf⟩ := wLe_s hf
  refine pC_23_1 X h (hS 23) Nat.one_pos Nat.one_pos lk_X2_13 e4 dX2_keep_7 (fun H locs h => ?_)
  refine lv_aload_n X.x X.b dX2_keep_10 rfl (lv_at hl 0 rfl) ?_
  refine lv_iload_n X.x X.b dX2_keep_11 rfl (lv_at hl 3 rfl) ?_
  obtain ⟨g5, e6, hf⟩ := wLe_s hf
  refine pC_23_2 X h (hS 23) Nat.one_pos Nat.one_pos lk_X2_16 e6 dX2_keep_12 (fun H locs h => ?_)
  refine lv_aload_n X.x X.b dX2_keep_15 rfl (lv_at hl 0 rfl) ?_
  refine lv_iload X.x X.b dX2_keep_16 (lv_at hl 4 rfl) ?_
  obtain ⟨g7, e8, hf⟩ := wLe_s hf
  refine pC_23_3 X h (hS 23) Nat.one_pos Nat.one_pos lk_X2_19 e8 dX2_keep_18 (fun H locs h => ?_)
  cases (Option.some.inj hf).trans JR
  exact ro_vret X h dX2_keep_21
set_option maxHeartbeats 4000000 in
set_option maxRecDepth 20000 in
theorem kX2_holds (l : Launch) {k : En} {S : Nat → Prop} (hS : ∀ t, S t) {g0 : Mm} {a1 : Int32} {res : Int32} (hf : fX2_holds g0 a1 = some res) : Mt l yX2_holds cX2_holds 2 (some .boolean) (RmN 0 0) YC S k [.ref (k.1 + adC 23 0 0), .int a1] g0 (some (.int res)) g0 := by
  refine Mt.of (by decide) (Nat.le_of_ble_eq_true rfl) ?_
  intro p e s m args below meth c ls X _ h hl
  have X : Cx YC S k p s m args meth c cX2_holds 2 (some .boolean) RX2 := X
  have hl : lv_has ls 2 [(0, .ref (k.1 + adC 23 0 0)), (1, .int a1)] := hl
  have JR : res = res := rfl
  unfold fX2_holds at hf
  refine lv_iload_n X.x X.b dX2_holds_0 rfl (lv_at hl 1 rfl) ?_
  refine lv_if_lt (tgt := 26) X.x X.b dX2_holds_1 (by decide) (fun c1 => ?_) (fun c1 => ?_)
  · have hf := wT c1 hf
    refine lv_iconst (v := 0) X.x X.b dX2_holds_26 (by decide) ?_
    cases (Option.some.inj hf).trans JR
    exact ro_zret X h (Or.inl rfl) dX2_holds_27
  · have hf := wF c1 hf
    refine lv_iload_n X.x X.b dX2_holds_4 rfl (lv_at hl 1 rfl) ?_
    refine lv_bipush (v := 12) X.x X.b dX2_holds_5 (by decide) ?_
    refine lv_icmp_ge (tgt := 26) X.x X.b dX2_holds_7 (by decide) (fun c2 => ?_) (fun c2 => ?_)
    · have hf := wT c2 hf
      refine lv_iconst (v := 0) X.x X.b dX2_holds_26 (by decide) ?_
      cases (Option.some.inj hf).trans JR
      exact ro_zret X h (Or.inl rfl) dX2_holds_27
    · have hf := wF c2 hf
      refine lv_aload_n X.x X.b dX2_holds_10 rfl (lv_at hl 0 rfl) ?_
      refine gC_23_0 X h (hS 23) Nat.one_pos Nat.one_pos lk_X2_7 dX2_holds_11 ?_
      refine lv_iload_n X.x X.b dX2_holds_14 rfl (lv_at hl 1 rfl) ?_
      refine lv_ishr X.x X.b dX2_holds_15 ?_
      refine lv_iconst (v := 1) X.x X.b dX2_holds_16 (by decide) ?_
      refine lv_iand X.x X.b dX2_holds_17 ?_
      refine lv_iconst (v := 1) X.x X.b dX2_holds_18 (by decide) ?_
      refine lv_icmp_ne (tgt := 26) X.x X.b dX2_holds_19 (by decide) (fun c3 => ?_) (fun c3 => ?_)
      · have hf := wF c3 hf
        refine lv_iconst (v := 0) X.x X.b dX2_holds_26 (by decide) ?_
        cases (Option.some.inj hf).trans JR
        exact ro_zret X h (Or.inl rfl) dX2_holds_27
      · have hf := wT c3 hf
        refine lv_iconst (v := 1) X.x X.b dX2_holds_22 (by decide) ?_
        refine lv_goto (tgt := 27) X.x X.b dX2_holds_23 (by decide) ?_
        cases (Option.some.inj hf).trans JR
        exact ro_zret X h (Or.inr rfl) dX2_holds_27
set_option maxHeartbeats 4000000 in
set_option maxRecDepth 20000 in
theorem kX2_wishOf (l : Launch) {k : En} {S : Nat → Prop} (hS : ∀ t, S t) {g0 : Mm} {a1 : Int32} {res : Int32} (hf : fX2_wishOf g0 a1 = some res) : Mt l yX2_wishOf cX2_wishOf 2 (some .int) (RmN 0 0) YC S k [.ref (k.1 + adC 23 0 0), .int a1] g0 (some (.int res)) g0 := by
  refine Mt.of (by decide) (Nat.le_of_ble_eq_true rfl) ?_
  intro p e s m args below meth c ls X _ h hl
  have X : Cx YC S k p s m args meth c cX2_wishOf 2 (some .int) RX2 := X
  have hl : lv_has ls 2 [(0, .ref (k.1 + adC 23 0 0)), (1, .int a1)] := hl
  have JR : res = res := rfl
  unfold fX2_wishOf at hf
  refine lv_iload_n X.x X.b dX2_wishOf_0 rfl (lv_at hl 1 rfl) ?_
  refine lv_aload_n X.x X.b dX2_wishOf_1 rfl (lv_at hl 0 rfl) ?_
  refine gC_23_1 X h (hS 23) Nat.one_pos Nat.one_pos lk_X2_13 dX2_wishOf_2 ?_
  refine lv_icmp_ne (tgt := 15) X.x X.b dX2_wishOf_5 (by decide) (fun c1 => ?_) (fun c1 => ?_)
  · have hf := wF c1 hf
    refine lv_aload_n X.x X.b dX2_wishOf_15 rfl (lv_at hl 0 rfl) ?_
    refine gC_23_3 X h (hS 23) Nat.one_pos Nat.one_pos lk_X2_19 dX2_wishOf_16 ?_
    cases (Option.some.inj hf).trans JR
    exact ro_iret X h dX2_wishOf_19
  · have hf := wT c1 hf
    refine lv_aload_n X.x X.b dX2_wishOf_8 rfl (lv_at hl 0 rfl) ?_
    refine gC_23_2 X h (hS 23) Nat.one_pos Nat.one_pos lk_X2_16 dX2_wishOf_9 ?_
    refine lv_goto (tgt := 19) X.x X.b dX2_wishOf_12 (by decide) ?_
    cases (Option.some.inj hf).trans JR
    exact ro_iret X h dX2_wishOf_19
set_option maxHeartbeats 4000000 in
set_option maxRecDepth 20000 in
theorem kX3_isKind (l : Launch) {k : En} {S : Nat → Prop} (hS : ∀ t, S t) {g0 : Mm} {a0 : Int32} {res : Int32} (hf : fX3_isKind g0 a0 = some res) : Mt l yX3_isKind cX3_isKind 1 (some .boolean) (RmN 0 0) YC S k [.int a0] g0 (some (.int res)) g0 := by
  refine Mt.of (by decide) (Nat.le_of_ble_eq_true rfl) ?_
  intro p e s m args below meth c ls X _ h hl
  have X : Cx YC S k p s m args meth c cX3_isKind 1 (some .boolean) RX3 := X
  have hl : lv_has ls 1 [(0, .int a0)] := hl
  have JR : res = res := rfl
  unfold fX3_isKind at hf
  refine lv_iload_n X.x X.b dX3_isKind_0 rfl (lv_at hl 0 rfl) ?_
  refine lv_if_lt (tgt := 14) X.x X.b dX3_isKind_1 (by decide) (fun c1 => ?_) (fun c1 => ?_)
  · have hf := wT c1 hf
    refine lv_iconst (v := 0) X.x X.b dX3_isKind_14 (by decide) ?_
    cases (Option.some.inj hf).trans JR
    exact ro_zret X h (Or.inl rfl) dX3_isKind_15
  · have hf := wF c1 hf
    refine lv_iload_n X.x X.b dX3_isKind_4 rfl (lv_at hl 0 rfl) ?_
    refine lv_bipush (v := 6) X.x X.b dX3_isKind_5 (by decide) ?_
    refine lv_icmp_ge (tgt := 14) X.x X.b dX3_isKind_7 (by decide) (fun c2 => ?_) (fun c2 => ?_)
    · have hf := wT c2 hf
      refine lv_iconst (v := 0) X.x X.b dX3_isKind_14 (by decide) ?_
      cases (Option.some.inj hf).trans JR
      exact ro_zret X h (Or.inl rfl) dX3_isKind_15
    · have hf := wF c2 hf
      refine lv_iconst (v := 1) X.x X.b dX3_isKind_10 (by decide) ?_
      refine lv_goto (tgt := 15) X.x X.b dX3_isKind_11 (by decide) ?_
      cases (Option.some.inj hf).trans JR
      exact ro_zret X h (Or.inr rfl) dX3_isKind_15
set_option maxHeartbeats 4000000 in
set_option maxRecDepth 20000 in
theorem kX3_size (l : Launch) {k : En} {S : Nat → Prop} (hS : ∀ t, S t) {g0 : Mm} {a0 : Int32} {res : Int32} (hf : fX3_size g0 a0 = some res) : Mt l yX3_size cX3_size 1 (some .int) (RmN 0 0) YC S k [.int a0] g0 (some (.int res)) g0 := by
  refine Mt.of (by decide) (Nat.le_of_ble_eq_true rfl) ?_
  intro p e s m args below meth c ls X _ h hl
  have X : Cx YC S k p s m args meth c cX3_size 1 (some .int) RX3 := X
  have hl : lv_has ls 1 [(0, .int a0)] := hl
  have JR : res = res := rfl
  unfold fX3_size at hf
  refine ro_gets X h 3 rfl lk_X3_9 dX3_size_0 ?_
  refine lv_iload_n X.x X.b dX3_size_3 rfl (lv_at hl 0 rfl) ?_
  obtain ⟨b1, hf⟩ := wGi_s hf
  refine ro_tld X h 3 rfl (n := 6) rfl b1 dX3_size_4 ?_
  cases (Option.some.inj hf).trans JR
  exact ro_iret X h dX3_size_5
set_option maxHeartbeats 4000000 in
set_option maxRecDepth 20000 in
theorem kX3_roll (l : Launch) {k : En} {S : Nat → Prop} (hS : ∀ t, S t) {g0 : Mm} {a0 : Int32} {res : Int32} (hf : fX3_roll g0 a0 = some res) : Mt l yX3_roll cX3_roll 1 (some .int) (RmN 0 0) YC S k [.int a0] g0 (some (.int res)) g0 := by
  refine Mt.of (by decide) (Nat.le_of_ble_eq_true rfl) ?_
  intro p e s m args below meth c ls X _ h hl
  have X : Cx YC S k p s m args meth c cX3_roll 1 (some .int) RX3 := X
  have hl : lv_has ls 1 [(0, .int a0)] := hl
  have JR : res = res := rfl
  unfold fX3_roll at hf
  refine ro_gets X h 4 rfl lk_X3_13 dX3_roll_0 ?_
  refine lv_iload_n X.x X.b dX3_roll_3 rfl (lv_at hl 0 rfl) ?_
  obtain ⟨b1, hf⟩ := wGi_s hf
  refine ro_tld X h 4 rfl (n := 6) rfl b1 dX3_roll_4 ?_
  cases (Option.some.inj hf).trans JR
  exact ro_iret X h dX3_roll_5
set_option maxHeartbeats 4000000 in
set_option maxRecDepth 20000 in
theorem kX3_lasts (l : Launch) {k : En} {S : Nat → Prop} (hS : ∀ t, S t) {g0 : Mm} {a0 : Int32} {a1 : Int32} {res : Int32} (hf : fX3_lasts g0 a0 a1 = some res) : Mt l yX3_lasts cX3_lasts 2 (some .int) (RmN 0 0) YC S k [.int a0, .int a1] g0 (some (.int res)) g0 := by
  refine Mt.of (by decide) (Nat.le_of_ble_eq_true rfl) ?_
  intro p e s m args below meth c ls X _ h hl
  have X : Cx YC S k p s m args meth c cX3_lasts 2 (some .int) RX3 := X
  have hl : lv_has ls 2 [(0, .int a0), (1, .int a1)] := hl
  have JR : res = res := rfl
  unfold fX3_lasts at hf
  refine ro_gets X h 5 rfl lk_X3_16 dX3_lasts_0 ?_
  refine lv_iload_n X.x X.b dX3_lasts_3 rfl (lv_at hl 0 rfl) ?_
  refine lv_bipush (v := 8) X.x X.b dX3_lasts_4 (by decide) ?_
  refine lv_imul X.x X.b dX3_lasts_6 ?_
  refine lv_iload_n X.x X.b dX3_lasts_7 rfl (lv_at hl 1 rfl) ?_
  refine lv_iadd X.x X.b dX3_lasts_8 ?_
  obtain ⟨b1, hf⟩ := wGi_s hf
  refine ro_tld X h 5 rfl (n := 48) rfl b1 dX3_lasts_9 ?_
  cases (Option.some.inj hf).trans JR
  exact ro_iret X h dX3_lasts_10
set_option maxHeartbeats 4000000 in
set_option maxRecDepth 20000 in
theorem kX3_behind (l : Launch) {k : En} {S : Nat → Prop} (hS : ∀ t, S t) {g0 : Mm} {a0 : Int32} {res : Int32} (hf : fX3_behind g0 a0 = some res) : Mt l yX3_behind cX3_behind 1 (some .int) (RmN 0 0) YC S k [.int a0] g0 (some (.int res)) g0 := by
  refine Mt.of (by decide) (Nat.le_of_ble_eq_true rfl) ?_
  intro p e s m args below meth c ls X _ h hl
  have X : Cx YC S k p s m args meth c cX3_behind 1 (some .int) RX3 := X
  have hl : lv_has ls 1 [(0, .int a0)] := hl
  have JR : res = res := rfl
  unfold fX3_behind at hf
  refine ro_gets X h 6 rfl lk_X3_19 dX3_behind_0 ?_
  refine lv_iload_n X.x X.b dX3_behind_3 rfl (lv_at hl 0 rfl) ?_
  obtain ⟨b1, hf⟩ := wGi_s hf
  refine ro_tld X h 6 rfl (n := 8) rfl b1 dX3_behind_4 ?_
  cases (Option.some.inj hf).trans JR
  exact ro_iret X h dX3_behind_5
set_option maxHeartbeats 4000000 in
set_option maxRecDepth 20000 in
theorem kX3_truckFor (l : Launch) {k : En} {S : Nat → Prop} (hS : ∀ t, S t) {g0 : Mm} {a0 : Int32} {res : Int32} (hf : fX3_truckFor g0 a0 = some res) : Mt l yX3_truckFor cX3_truckFor 1 (some .int) (RmN 0 0) YC S k [.int a0] g0 (some (.int res)) g0 := by
  refine Mt.of (by decide) (Nat.le_of_ble_eq_true rfl) ?_
  intro p e s m args below meth c ls X _ h hl
  have X : Cx YC S k p s m args meth c cX3_truckFor 1 (some .int) RX3 := X
  have hl : lv_has ls 1 [(0, .int a0)] := hl
  have JR : res = res := rfl
  unfold fX3_truckFor at hf
  refine ro_gets X h 7 rfl lk_X3_22 dX3_truckFor_0 ?_
  refine lv_iload_n X.x X.b dX3_truckFor_3 rfl (lv_at hl 0 rfl) ?_
  obtain ⟨b1, hf⟩ := wGi_s hf
  refine ro_tld X h 7 rfl (n := 8) rfl b1 dX3_truckFor_4 ?_
  cases (Option.some.inj hf).trans JR
  exact ro_iret X h dX3_truckFor_5
set_option maxHeartbeats 4000000 in
set_option maxRecDepth 20000 in
theorem wX3_isA_L4 {k : En} {S : Nat → Prop} (hS : ∀ t, S t) {g0 : Mm} {a0 : Int32} {a1 : Int32} {res : Int32} (X : Cx YC S k p s m args meth c cX3_isA 4 (some .boolean) RX3) {r : Int32} (JR : r = res) :
    ∀ (fu : Nat) (x2 : Int32) (x3 : Int32) (H : Heap) (locs : List Loc) (ls : Array Slot), Hx YC S k s g0 H locs → lv_has ls 4 [(1, .int a1), (2, .int x2), (3, .int x3)] → wLp (fun q => fX3_isA_B4 g0 a0 a1 q.1 q.2) fu (x2, x3) = some r → W p l e (RmN 0 0) s m args below meth c H locs 0 0 (Fin YC S k args s below (some (.int res)) g0) (F0 m 4 ls []) := by
  intro fu
  induction fu with
  | zero => intro x2 x3 H locs ls h hl hf; exact (wLp_0 hf).elim
  | succ fu ih1 =>
    intro x2 x3 H locs ls h hl hf
    obtain ⟨r1, hf, hr⟩ := wLp_s hf
    have J1n : ∀ (x2 : Int32) (x3 : Int32), r1 = .inl (x2, x3) → ∀ (H : Heap) (locs : List Loc) (ls : Array Slot), Hx YC S k s g0 H locs → lv_has ls 4 [(1, .int a1), (2, .int x2), (3, .int x3)] → W p l e (RmN 0 0) s m args below meth c H locs 0 0 (Fin YC S k args s below (some (.int res)) g0) (F0 m 4 ls []) := fun x2 x3 q H locs ls h hl => by subst q; exact ih1 _ _ _ _ _ h hl hr
    have JRn : ∀ t1, r1 = .inr t1 → t1 = res := fun t1 q => by subst q; obtain rfl := Option.some.inj hr; exact JR
    have J1 := J1n
    have JR := JRn
    clear J1n JRn
    have hf : fX3_isA_B4 g0 a0 a1 x2 x3 = some r1 := hf
    unfold fX3_isA_B4 at hf
    refine lv_iload_n X.x X.b dX3_isA_4 rfl (lv_at hl 2 rfl) ?_
    refine lv_bipush (v := 6) X.x X.b dX3_isA_5 (by decide) ?_
    refine lv_icmp_ge (tgt := 33) X.x X.b dX3_isA_7 (by decide) (fun c3 => ?_) (fun c3 => ?_)
    · have hf := wT c3 hf
      obtain ⟨t4, hf, e5⟩ := wEx_s hf
      have JR := JR t4 e5
      refine lv_iconst (v := 0) X.x X.b dX3_isA_33 (by decide) ?_
      cases (Option.some.inj hf).trans JR
      exact ro_zret X h (Or.inl rfl) dX3_isA_34
    · have hf := wF c3 hf
      refine lv_iload_n X.x X.b dX3_isA_10 rfl (lv_at hl 1 rfl) ?_
      refine lv_if_lt (tgt := 33) X.x X.b dX3_isA_11 (by decide) (fun c6 => ?_) (fun c6 => ?_)
      · have hf := wT c6 hf
        obtain ⟨t7, hf, e8⟩ := wEx_s hf
        have JR := JR t7 e8
        refine lv_iconst (v := 0) X.x X.b dX3_isA_33 (by decide) ?_
        cases (Option.some.inj hf).trans JR
        exact ro_zret X h (Or.inl rfl) dX3_isA_34
      · have hf := wF c6 hf
        refine lv_iload_n X.x X.b dX3_isA_14 rfl (lv_at hl 1 rfl) ?_
        refine lv_iload_n X.x X.b dX3_isA_15 rfl (lv_at hl 0 rfl) ?_
        refine lv_icmp_ne (tgt := 21) X.x X.b dX3_isA_16 (by decide) (fun c9 => ?_) (fun c9 => ?_)
        · have hf := wF c9 hf
          refine ro_gets X h 2 rfl lk_X3_25 dX3_isA_21 ?_
          refine lv_iload_n X.x X.b dX3_isA_24 rfl (lv_at hl 1 rfl) ?_
          obtain ⟨b10, hf⟩ := wGi_s hf
          refine ro_tld X h 2 rfl (n := 6) rfl b10 dX3_isA_25 ?_
          obtain ⟨y11, e12, hf⟩ := wLe_s hf
          refine lv_nmi e12 ?_
          refine lv_istore_n (lv' := [(2, .int y11), (1, .int a1), (3, .int x3)]) X.x X.b dX3_isA_26 rfl hl (by decide) rfl (fun ls hl => ?_)
          obtain ⟨y13, e14, hf⟩ := wLe_s hf
          refine lv_iinc (v := y13) (lv' := [(3, .int y13), (2, .int y11), (1, .int a1)]) X.x X.b dX3_isA_27 hl (k := 2) rfl (by rw [e14]; rfl) (by decide) rfl (fun ls hl => ?_)
          refine lv_goto (tgt := 4) X.x X.b dX3_isA_30 (by decide) ?_
          exact J1 _ _ (Option.some.inj hf).symm _ _ _ h (lv_sub hl [2, 1, 0] rfl)
        · have hf := wT c9 hf
          obtain ⟨t15, hf, e16⟩ := wEx_s hf
          have JR := JR t15 e16
          refine lv_iconst (v := 1) X.x X.b dX3_isA_19 (by decide) ?_
          cases (Option.some.inj hf).trans JR
          exact ro_zret X h (Or.inr rfl) dX3_isA_20
set_option maxHeartbeats 4000000 in
set_option maxRecDepth 20000 in
theorem kX3_isA (l : Launch) {k : En} {S : Nat → Prop} (hS : ∀ t, S t) {g0 : Mm} {a0 : Int32} {a1 : Int32} {res : Int32} (hf : fX3_isA g0 a0 a1 = some res) : Mt l yX3_isA cX3_isA 4 (some .boolean) (RmN 0 0) YC S k [.int a0, .int a1] g0 (some (.int res)) g0 := by
  refine Mt.of (by decide) (Nat.le_of_ble_eq_true rfl) ?_
  intro p e s m args below meth c ls X _ h hl
  have X : Cx YC S k p s m args meth c cX3_isA 4 (some .boolean) RX3 := X
  have hl : lv_has ls 4 [(0, .int a0), (1, .int a1)] := hl
  have JR : res = res := rfl
  unfold fX3_isA at hf
  refine lv_iload_n X.x X.b dX3_isA_0 rfl (lv_at hl 0 rfl) ?_
  refine lv_istore_n (lv' := [(2, .int a0), (0, .int a0), (1, .int a1)]) X.x X.b dX3_isA_1 rfl hl (by decide) rfl (fun ls hl => ?_)
  refine lv_iconst (v := 0) X.x X.b dX3_isA_2 (by decide) ?_
  obtain ⟨y1, e2, hf⟩ := wLe_s hf
  refine lv_nmi e2 ?_
  refine lv_istore_n (lv' := [(3, .int y1), (2, .int a0), (0, .int a0), (1, .int a1)]) X.x X.b dX3_isA_3 rfl hl (by decide) rfl (fun ls hl => ?_)
  exact wX3_isA_L4 hS X JR _ _ _ _ _ _ h (lv_sub hl [3, 1, 0] rfl) hf
set_option maxHeartbeats 4000000 in
set_option maxRecDepth 20000 in
theorem kX3_wayToUnload (l : Launch) {k : En} {S : Nat → Prop} (hS : ∀ t, S t) {g0 : Mm} {a0 : Int32} {res : Int32} (hf : fX3_wayToUnload g0 a0 = some res) : Mt l yX3_wayToUnload cX3_wayToUnload 1 (some .int) (RmN 1 21) YC S k [.int a0] g0 (some (.int res)) g0 := by
  refine Mt.of (by decide) (Nat.le_of_ble_eq_true rfl) ?_
  intro p e s m args below meth c ls X _ h hl
  have X : Cx YC S k p s m args meth c cX3_wayToUnload 1 (some .int) RX3 := X
  have hl : lv_has ls 1 [(0, .int a0)] := hl
  have JR : res = res := rfl
  unfold fX3_wayToUnload at hf
  refine lv_iload_n X.x X.b dX3_wayToUnload_0 rfl (lv_at hl 0 rfl) ?_
  refine lv_iconst (v := 0) X.x X.b dX3_wayToUnload_1 (by decide) ?_
  obtain ⟨y2, e1, hf⟩ := wBd_s hf
  refine ro_callsI (As := [.int a0, .int (0 : Int32)]) (g1 := g0) (x := y2) X h (kX3_lasts l hS e1) mv_X3_lasts lk_X3_28 ⟨rfl, rfl⟩ ⟨(Nat.le_of_ble_eq_true rfl), (Nat.le_of_ble_eq_true rfl)⟩ rfl hl rfl (Nat.le_of_ble_eq_true rfl) ⟨Nat.zero_le _, Nat.zero_le _⟩ dX3_wayToUnload_2 (fun H locs h => ?_)
  refine lv_iload_n X.x X.b dX3_wayToUnload_5 rfl (lv_at hl 0 rfl) ?_
  refine lv_iconst (v := 1) X.x X.b dX3_wayToUnload_6 (by decide) ?_
  obtain ⟨y4, e3, hf⟩ := wBd_s hf
  refine ro_callsI (As := [.int a0, .int (1 : Int32)]) (g1 := g0) (x := y4) X h (kX3_lasts l hS e3) mv_X3_lasts lk_X3_28 ⟨rfl, rfl⟩ ⟨(Nat.le_of_ble_eq_true rfl), (Nat.le_of_ble_eq_true rfl)⟩ rfl hl rfl (Nat.le_of_ble_eq_true rfl) ⟨Nat.zero_le _, Nat.zero_le _⟩ dX3_wayToUnload_7 (fun H locs h => ?_)
  refine lv_iadd X.x X.b dX3_wayToUnload_10 ?_
  cases (Option.some.inj hf).trans JR
  exact ro_iret X h dX3_wayToUnload_11
set_option maxHeartbeats 4000000 in
set_option maxRecDepth 20000 in
theorem kX3_wayToLoad (l : Launch) {k : En} {S : Nat → Prop} (hS : ∀ t, S t) {g0 : Mm} {a0 : Int32} {res : Int32} (hf : fX3_wayToLoad g0 a0 = some res) : Mt l yX3_wayToLoad cX3_wayToLoad 2 (some .int) (RmN 2 41) YC S k [.int a0] g0 (some (.int res)) g0 := by
  refine Mt.of (by decide) (Nat.le_of_ble_eq_true rfl) ?_
  intro p e s m args below meth c ls X _ h hl
  have X : Cx YC S k p s m args meth c cX3_wayToLoad 2 (some .int) RX3 := X
  have hl : lv_has ls 2 [(0, .int a0)] := hl
  have JR : res = res := rfl
  unfold fX3_wayToLoad at hf
  refine lv_iload_n X.x X.b dX3_wayToLoad_0 rfl (lv_at hl 0 rfl) ?_
  refine lv_iconst (v := 2) X.x X.b dX3_wayToLoad_1 (by decide) ?_
  obtain ⟨y2, e1, hf⟩ := wBd_s hf
  refine ro_callsI (As := [.int a0, .int (2 : Int32)]) (g1 := g0) (x := y2) X h (kX3_lasts l hS e1) mv_X3_lasts lk_X3_28 ⟨rfl, rfl⟩ ⟨(Nat.le_of_ble_eq_true rfl), (Nat.le_of_ble_eq_true rfl)⟩ rfl hl rfl (Nat.le_of_ble_eq_true rfl) ⟨Nat.zero_le _, Nat.zero_le _⟩ dX3_wayToLoad_2 (fun H locs h => ?_)
  refine lv_iload_n X.x X.b dX3_wayToLoad_5 rfl (lv_at hl 0 rfl) ?_
  refine lv_iconst (v := 4) X.x X.b dX3_wayToLoad_6 (by decide) ?_
  obtain ⟨y4, e3, hf⟩ := wBd_s hf
  refine ro_callsI (As := [.int a0, .int (4 : Int32)]) (g1 := g0) (x := y4) X h (kX3_lasts l hS e3) mv_X3_lasts lk_X3_28 ⟨rfl, rfl⟩ ⟨(Nat.le_of_ble_eq_true rfl), (Nat.le_of_ble_eq_true rfl)⟩ rfl hl rfl (Nat.le_of_ble_eq_true rfl) ⟨Nat.zero_le _, Nat.zero_le _⟩ dX3_wayToLoad_7 (fun H locs h => ?_)
  refine lv_iadd X.x X.b dX3_wayToLoad_10 ?_
  obtain ⟨y5, e6, hf⟩ := wLe_s hf
  refine lv_nmi e6 ?_
  refine lv_istore_n (lv' := [(1, .int y5), (0, .int a0)]) X.x X.b dX3_wayToLoad_11 rfl hl (by decide) rfl (fun ls hl => ?_)
  refine lv_iload_n X.x X.b dX3_wayToLoad_12 rfl (lv_at hl 1 rfl) ?_
  obtain ⟨y8, e7, hf⟩ := wBd_s hf
  refine ro_callsI (As := [.int a0]) (g1 := g0) (x := y8) X h (kX3_wayToUnload l hS e7) mv_X3_wayToUnload lk_X3_32 ⟨rfl, rfl⟩ ⟨(Nat.le_of_ble_eq_true rfl), (Nat.le_of_ble_eq_true rfl)⟩ rfl hl rfl (Nat.le_of_ble_eq_true rfl) ⟨Nat.zero_le _, Nat.zero_le _⟩ dX3_wayToLoad_13 (fun H locs h => ?_)
  refine lv_iload_n X.x X.b dX3_wayToLoad_16 rfl (lv_at hl 1 rfl) ?_
  refine lv_iconst (v := 3) X.x X.b dX3_wayToLoad_17 (by decide) ?_
  obtain ⟨y10, e9, hf⟩ := wBd_s hf
  refine ro_callsI (As := [.int a0, .int (3 : Int32)]) (g1 := g0) (x := y10) X h (kX3_lasts l hS e9) mv_X3_lasts lk_X3_28 ⟨rfl, rfl⟩ ⟨(Nat.le_of_ble_eq_true rfl), (Nat.le_of_ble_eq_true rfl)⟩ rfl hl rfl (Nat.le_of_ble_eq_true rfl) ⟨Nat.zero_le _, Nat.zero_le _⟩ dX3_wayToLoad_18 (fun H locs h => ?_)
  refine lv_iload_n X.x X.b dX3_wayToLoad_21 rfl (lv_at hl 0 rfl) ?_
  refine ro_max X hl lk_X3_36 mx_f (Nat.le_of_ble_eq_true rfl) (Nat.le_of_ble_eq_true rfl) ⟨Nat.zero_le _, Nat.zero_le _⟩ dX3_wayToLoad_22 ?_
  refine lv_iadd X.x X.b dX3_wayToLoad_25 ?_
  refine lv_iload_n X.x X.b dX3_wayToLoad_26 rfl (lv_at hl 1 rfl) ?_
  refine lv_iconst (v := 5) X.x X.b dX3_wayToLoad_27 (by decide) ?_
  obtain ⟨y12, e11, hf⟩ := wBd_s hf
  refine ro_callsI (As := [.int a0, .int (5 : Int32)]) (g1 := g0) (x := y12) X h (kX3_lasts l hS e11) mv_X3_lasts lk_X3_28 ⟨rfl, rfl⟩ ⟨(Nat.le_of_ble_eq_true rfl), (Nat.le_of_ble_eq_true rfl)⟩ rfl hl rfl (Nat.le_of_ble_eq_true rfl) ⟨Nat.zero_le _, Nat.zero_le _⟩ dX3_wayToLoad_28 (fun H locs h => ?_)
  refine lv_iadd X.x X.b dX3_wayToLoad_31 ?_
  cases (Option.some.inj hf).trans JR
  exact ro_iret X h dX3_wayToLoad_32
set_option maxHeartbeats 4000000 in
set_option maxRecDepth 20000 in
theorem wX3_wayThrough_b18 {k : En} {S : Nat → Prop} (hS : ∀ t, S t) {g0 : Mm} {a0 : Int32} {a1 : Int32} {res : Int32} (X : Cx YC S k p s m args meth c cX3_wayThrough 2 (some .int) RX3) {z0 : Int32} {z1 : Int32} {H : Heap} {locs : List Loc} {ls : Array Slot} (h : Hx YC S k s g0 H locs) (hl : lv_has ls 2 [(0, .int a0)]) {r : Int32} (hf : fX3_wayThrough_b18 g0 a0 a1 z0 z1 = some r) (JR : r = res) :
    W p l e (RmN 3 62) s m args below meth c H locs 0 0 (Fin YC S k args s below (some (.int res)) g0) (F0 m 18 ls [.int z1, .int z0]) := by
  unfold fX3_wayThrough_b18 at hf
  refine lv_iadd X.x X.b dX3_wayThrough_18 ?_
  refine lv_iload_n X.x X.b dX3_wayThrough_19 rfl (lv_at hl 0 rfl) ?_
  refine lv_bipush (v := 7) X.x X.b dX3_wayThrough_20 (by decide) ?_
  obtain ⟨y5, e4, hf⟩ := wBd_s hf
  refine ro_callsI (As := [.int a0, .int (7 : Int32)]) (g1 := g0) (x := y5) X h (kX3_lasts l hS e4) mv_X3_lasts lk_X3_28 ⟨rfl, rfl⟩ ⟨(Nat.le_of_ble_eq_true rfl), (Nat.le_of_ble_eq_true rfl)⟩ rfl hl rfl (Nat.le_of_ble_eq_true rfl) ⟨Nat.zero_le _, Nat.zero_le _⟩ dX3_wayThrough_22 (fun H locs h => ?_)
  refine lv_iadd X.x X.b dX3_wayThrough_25 ?_
  cases (Option.some.inj hf).trans JR
  exact ro_iret X h dX3_wayThrough_26
set_option maxHeartbeats 4000000 in
set_option maxRecDepth 20000 in
theorem kX3_wayThrough (l : Launch) {k : En} {S : Nat → Prop} (hS : ∀ t, S t) {g0 : Mm} {a0 : Int32} {a1 : Int32} {res : Int32} (hf : fX3_wayThrough g0 a0 a1 = some res) : Mt l yX3_wayThrough cX3_wayThrough 2 (some .int) (RmN 3 62) YC S k [.int a0, .int a1] g0 (some (.int res)) g0 := by
  refine Mt.of (by decide) (Nat.le_of_ble_eq_true rfl) ?_
  intro p e s m args below meth c ls X _ h hl
  have X : Cx YC S k p s m args meth c cX3_wayThrough 2 (some .int) RX3 := X
  have hl : lv_has ls 2 [(0, .int a0), (1, .int a1)] := hl
  have JR : res = res := rfl
  unfold fX3_wayThrough at hf
  refine lv_iload_n X.x X.b dX3_wayThrough_0 rfl (lv_at hl 0 rfl) ?_
  obtain ⟨y2, e1, hf⟩ := wBd_s hf
  refine ro_callsI (As := [.int a0]) (g1 := g0) (x := y2) X h (kX3_wayToLoad l hS e1) mv_X3_wayToLoad lk_X3_41 ⟨rfl, rfl⟩ ⟨(Nat.le_of_ble_eq_true rfl), (Nat.le_of_ble_eq_true rfl)⟩ rfl hl rfl (Nat.le_of_ble_eq_true rfl) ⟨Nat.zero_le _, Nat.zero_le _⟩ dX3_wayThrough_1 (fun H locs h => ?_)
  refine lv_iload_n X.x X.b dX3_wayThrough_4 rfl (lv_at hl 1 rfl) ?_
  refine lv_if_eq (tgt := 17) X.x X.b dX3_wayThrough_5 (by decide) (fun c3 => ?_) (fun c3 => ?_)
  · have hf := wT c3 hf
    refine lv_iconst (v := 0) X.x X.b dX3_wayThrough_17 (by decide) ?_
    exact wX3_wayThrough_b18 hS X h (lv_sub hl [0] rfl) hf JR
  · have hf := wF c3 hf
    refine lv_iload_n X.x X.b dX3_wayThrough_8 rfl (lv_at hl 0 rfl) ?_
    refine lv_bipush (v := 6) X.x X.b dX3_wayThrough_9 (by decide) ?_
    obtain ⟨y7, e6, hf⟩ := wBd_s hf
    refine ro_callsI (As := [.int a0, .int (6 : Int32)]) (g1 := g0) (x := y7) X h (kX3_lasts l hS e6) mv_X3_lasts lk_X3_28 ⟨rfl, rfl⟩ ⟨(Nat.le_of_ble_eq_true rfl), (Nat.le_of_ble_eq_true rfl)⟩ rfl hl rfl (Nat.le_of_ble_eq_true rfl) ⟨Nat.zero_le _, Nat.zero_le _⟩ dX3_wayThrough_11 (fun H locs h => ?_)
    refine lv_goto (tgt := 18) X.x X.b dX3_wayThrough_14 (by decide) ?_
    exact wX3_wayThrough_b18 hS X h (lv_sub hl [0] rfl) hf JR
set_option maxHeartbeats 4000000 in
set_option maxRecDepth 20000 in
theorem wX7_renew_L21 {k : En} {S : Nat → Prop} (hS : ∀ t, S t) {i : Nat} {a1 : Int32} {a2 : Int32} (hi : i < 4) {res : Mm} (X : Cx YC S k p s m args meth c cX7_renew 4 none RX7) {r : Mm} (JR : r = res) :
    ∀ (fu : Nat) (g : Mm) (x3 : Int32) (H : Heap) (locs : List Loc) (ls : Array Slot), Hx YC S k s g H locs → lv_has ls 4 [(0, .ref (k.1 + adC 29 i 0)), (3, .int x3)] → wLp (fun q => fX7_renew_B21 q.1 i a1 a2 q.2) fu (g, x3) = some r → W p l e (RmN 0 0) s m args below meth c H locs 0 0 (Fin YC S k args s below none res) (F0 m 21 ls []) := by
  intro fu
  induction fu with
  | zero => intro g x3 H locs ls h hl hf; exact (wLp_0 hf).elim
  | succ fu ih1 =>
    intro g x3 H locs ls h hl hf
    obtain ⟨r1, hf, hr⟩ := wLp_s hf
    have J1n : ∀ (g : Mm) (x3 : Int32), r1 = .inl (g, x3) → ∀ (H : Heap) (locs : List Loc) (ls : Array Slot), Hx YC S k s g H locs → lv_has ls 4 [(0, .ref (k.1 + adC 29 i 0)), (3, .int x3)] → W p l e (RmN 0 0) s m args below meth c H locs 0 0 (Fin YC S k args s below none res) (F0 m 21 ls []) := fun g x3 q H locs ls h hl => by subst q; exact ih1 _ _ _ _ _ h hl hr
    have JRn : ∀ t1, r1 = .inr t1 → t1 = res := fun t1 q => by subst q; obtain rfl := Option.some.inj hr; exact JR
    have J1 := J1n
    have JR := JRn
    clear J1n JRn
    have hf : fX7_renew_B21 g i a1 a2 x3 = some r1 := hf
    unfold fX7_renew_B21 at hf
    refine lv_iload_n X.x X.b dX7_renew_21 rfl (lv_at hl 1 rfl) ?_
    refine lv_bipush (v := 40) X.x X.b dX7_renew_22 (by decide) ?_
    refine lv_icmp_ge (tgt := 40) X.x X.b dX7_renew_24 (by decide) (fun c8 => ?_) (fun c8 => ?_)
    · have hf := wT c8 hf
      obtain ⟨t9, hf, e10⟩ := wEx_s hf
      have JR := JR t9 e10
      cases (Option.some.inj hf).trans JR
      exact ro_vret X h dX7_renew_40
    · have hf := wF c8 hf
      refine lv_aload_n X.x X.b dX7_renew_27 rfl (lv_at hl 0 rfl) ?_
      refine gC_29_2 X h (hS 29) hi Nat.one_pos lk_X7_13 dX7_renew_28 ?_
      refine lv_iload_n X.x X.b dX7_renew_31 rfl (lv_at hl 1 rfl) ?_
      refine lv_iconst (v := 0) X.x X.b dX7_renew_32 (by decide) ?_
      obtain ⟨b11, hf⟩ := wGi_s hf
      obtain ⟨g12, e13, hf⟩ := wLe_s hf
      refine bC_30 X h (hS 30) hi Nat.one_pos e13 b11 dX7_renew_33 (fun H locs h => ?_)
      obtain ⟨y14, e15, hf⟩ := wLe_s hf
      refine lv_iinc (v := y14) (lv' := [(3, .int y14), (0, .ref (k.1 + adC 29 i 0))]) X.x X.b dX7_renew_34 hl (k := 1) rfl (by rw [e15]; rfl) (by decide) rfl (fun ls hl => ?_)
      refine lv_goto (tgt := 21) X.x X.b dX7_renew_37 (by decide) ?_
      exact J1 _ _ (Option.some.inj hf).symm _ _ _ h (lv_sub hl [1, 0] rfl)
set_option maxHeartbeats 4000000 in
set_option maxRecDepth 20000 in
theorem wX7_renew_b16 {k : En} {S : Nat → Prop} (hS : ∀ t, S t) {i : Nat} {a1 : Int32} {a2 : Int32} (hi : i < 4) {res : Mm} (X : Cx YC S k p s m args meth c cX7_renew 4 none RX7) {g : Mm} {z1 : Int32} {H : Heap} {locs : List Loc} {ls : Array Slot} (h : Hx YC S k s g H locs) (hl : lv_has ls 4 [(0, .ref (k.1 + adC 29 i 0))]) {r : Mm} (hf : fX7_renew_b16 g i a1 a2 z1 = some r) (JR : r = res) :
    W p l e (RmN 0 0) s m args below meth c H locs 0 0 (Fin YC S k args s below none res) (F0 m 16 ls [.int z1, .ref (k.1 + adC 29 i 0)]) := by
  unfold fX7_renew_b16 at hf
  obtain ⟨g4, e5, hf⟩ := wLe_s hf
  refine pC_29_1 X h (hS 29) hi Nat.one_pos lk_X7_17 e5 dX7_renew_16 (fun H locs h => ?_)
  refine lv_iconst (v := 0) X.x X.b dX7_renew_19 (by decide) ?_
  obtain ⟨y6, e7, hf⟩ := wLe_s hf
  refine lv_nmi e7 ?_
  refine lv_istore_n (lv' := [(3, .int y6), (0, .ref (k.1 + adC 29 i 0))]) X.x X.b dX7_renew_20 rfl hl (by decide) rfl (fun ls hl => ?_)
  exact wX7_renew_L21 hS hi X JR _ _ _ _ _ _ h (lv_sub hl [1, 0] rfl) hf
set_option maxHeartbeats 4000000 in
set_option maxRecDepth 20000 in
theorem kX7_renew (l : Launch) {k : En} {S : Nat → Prop} (hS : ∀ t, S t) {i : Nat} {a1 : Int32} {a2 : Int32} (hi : i < 4) {res : Mm} {g : Mm} (hf : fX7_renew g i a1 a2 = some res) : Mt l yX7_renew cX7_renew 4 none (RmN 0 0) YC S k [.ref (k.1 + adC 29 i 0), .int a1, .int a2] g none res := by
  refine Mt.of (by decide) (Nat.le_of_ble_eq_true rfl) ?_
  intro p e s m args below meth c ls X _ h hl
  have X : Cx YC S k p s m args meth c cX7_renew 4 none RX7 := X
  have hl : lv_has ls 4 [(0, .ref (k.1 + adC 29 i 0)), (1, .int a1), (2, .int a2)] := hl
  have JR : res = res := rfl
  unfold fX7_renew at hf
  refine lv_aload_n X.x X.b dX7_renew_0 rfl (lv_at hl 0 rfl) ?_
  refine lv_iload_n X.x X.b dX7_renew_1 rfl (lv_at hl 1 rfl) ?_
  obtain ⟨g1, e2, hf⟩ := wLe_s hf
  refine pC_29_0 X h (hS 29) hi Nat.one_pos lk_X7_9 e2 dX7_renew_2 (fun H locs h => ?_)
  refine lv_aload_n X.x X.b dX7_renew_5 rfl (lv_at hl 0 rfl) ?_
  refine lv_iload_n X.x X.b dX7_renew_6 rfl (lv_at hl 1 rfl) ?_
  refine lv_iconst (v := (-1)) X.x X.b dX7_renew_7 (by decide) ?_
  refine lv_icmp_ne (tgt := 15) X.x X.b dX7_renew_8 (by decide) (fun c3 => ?_) (fun c3 => ?_)
  · have hf := wF c3 hf
    refine lv_iload_n X.x X.b dX7_renew_15 rfl (lv_at hl 2 rfl) ?_
    exact wX7_renew_b16 hS hi X h (lv_sub hl [0] rfl) hf JR
  · have hf := wT c3 hf
    refine lv_iconst (v := 0) X.x X.b dX7_renew_11 (by decide) ?_
    refine lv_goto (tgt := 16) X.x X.b dX7_renew_12 (by decide) ?_
    exact wX7_renew_b16 hS hi X h (lv_sub hl [0] rfl) hf JR
set_option maxHeartbeats 4000000 in
set_option maxRecDepth 20000 in
theorem kX7_isMissing (l : Launch) {k : En} {S : Nat → Prop} (hS : ∀ t, S t) {g0 : Mm} {i : Nat} (hi : i < 4) {res : Int32} (hf : fX7_isMissing g0 i = some res) : Mt l yX7_isMissing cX7_isMissing 1 (some .boolean) (RmN 0 0) YC S k [.ref (k.1 + adC 29 i 0)] g0 (some (.int res)) g0 := by
  refine Mt.of (by decide) (Nat.le_of_ble_eq_true rfl) ?_
  intro p e s m args below meth c ls X _ h hl
  have X : Cx YC S k p s m args meth c cX7_isMissing 1 (some .boolean) RX7 := X
  have hl : lv_has ls 1 [(0, .ref (k.1 + adC 29 i 0))] := hl
  have JR : res = res := rfl
  unfold fX7_isMissing at hf
  refine lv_aload_n X.x X.b dX7_isMissing_0 rfl (lv_at hl 0 rfl) ?_
  refine gC_29_0 X h (hS 29) hi Nat.one_pos lk_X7_9 dX7_isMissing_1 ?_
  refine lv_iconst (v := (-1)) X.x X.b dX7_isMissing_4 (by decide) ?_
  refine lv_icmp_ne (tgt := 12) X.x X.b dX7_isMissing_5 (by decide) (fun c1 => ?_) (fun c1 => ?_)
  · have hf := wF c1 hf
    refine lv_iconst (v := 0) X.x X.b dX7_isMissing_12 (by decide) ?_
    cases (Option.some.inj hf).trans JR
    exact ro_zret X h (Or.inl rfl) dX7_isMissing_13
  · have hf := wT c1 hf
    refine lv_iconst (v := 1) X.x X.b dX7_isMissing_8 (by decide) ?_
    refine lv_goto (tgt := 13) X.x X.b dX7_isMissing_9 (by decide) ?_
    cases (Option.some.inj hf).trans JR
    exact ro_zret X h (Or.inr rfl) dX7_isMissing_13
set_option maxHeartbeats 4000000 in
set_option maxRecDepth 20000 in
theorem kX7_has (l : Launch) {k : En} {S : Nat → Prop} (hS : ∀ t, S t) {g0 : Mm} {i : Nat} {a1 : Int32} (hi : i < 4) {res : Int32} (hf : fX7_has g0 i a1 = some res) : Mt l yX7_has cX7_has 2 (some .boolean) (RmN 0 0) YC S k [.ref (k.1 + adC 29 i 0), .int a1] g0 (some (.int res)) g0 := by
  refine Mt.of (by decide) (Nat.le_of_ble_eq_true rfl) ?_
  intro p e s m args below meth c ls X _ h hl
  have X : Cx YC S k p s m args meth c cX7_has 2 (some .boolean) RX7 := X
  have hl : lv_has ls 2 [(0, .ref (k.1 + adC 29 i 0)), (1, .int a1)] := hl
  have JR : res = res := rfl
  unfold fX7_has at hf
  refine lv_iload_n X.x X.b dX7_has_0 rfl (lv_at hl 1 rfl) ?_
  refine lv_if_lt (tgt := 16) X.x X.b dX7_has_1 (by decide) (fun c1 => ?_) (fun c1 => ?_)
  · have hf := wT c1 hf
    refine lv_iconst (v := 0) X.x X.b dX7_has_16 (by decide) ?_
    cases (Option.some.inj hf).trans JR
    exact ro_zret X h (Or.inl rfl) dX7_has_17
  · have hf := wF c1 hf
    refine lv_iload_n X.x X.b dX7_has_4 rfl (lv_at hl 1 rfl) ?_
    refine lv_aload_n X.x X.b dX7_has_5 rfl (lv_at hl 0 rfl) ?_
    refine gC_29_1 X h (hS 29) hi Nat.one_pos lk_X7_17 dX7_has_6 ?_
    refine lv_icmp_ge (tgt := 16) X.x X.b dX7_has_9 (by decide) (fun c2 => ?_) (fun c2 => ?_)
    · have hf := wT c2 hf
      refine lv_iconst (v := 0) X.x X.b dX7_has_16 (by decide) ?_
      cases (Option.some.inj hf).trans JR
      exact ro_zret X h (Or.inl rfl) dX7_has_17
    · have hf := wF c2 hf
      refine lv_iconst (v := 1) X.x X.b dX7_has_12 (by decide) ?_
      refine lv_goto (tgt := 17) X.x X.b dX7_has_13 (by decide) ?_
      cases (Option.some.inj hf).trans JR
      exact ro_zret X h (Or.inr rfl) dX7_has_17
set_option maxHeartbeats 4000000 in
set_option maxRecDepth 20000 in
theorem kX7_spans (l : Launch) {k : En} {S : Nat → Prop} (hS : ∀ t, S t) {g0 : Mm} {i : Nat} {a1 : Int32} {a2 : Int32} (hi : i < 4) {res : Int32} (hf : fX7_spans g0 i a1 a2 = some res) : Mt l yX7_spans cX7_spans 3 (some .boolean) (RmN 0 0) YC S k [.ref (k.1 + adC 29 i 0), .int a1, .int a2] g0 (some (.int res)) g0 := by
  refine Mt.of (by decide) (Nat.le_of_ble_eq_true rfl) ?_
  intro p e s m args below meth c ls X _ h hl
  have X : Cx YC S k p s m args meth c cX7_spans 3 (some .boolean) RX7 := X
  have hl : lv_has ls 3 [(0, .ref (k.1 + adC 29 i 0)), (1, .int a1), (2, .int a2)] := hl
  have JR : res = res := rfl
  unfold fX7_spans at hf
  refine lv_iload_n X.x X.b dX7_spans_0 rfl (lv_at hl 1 rfl) ?_
  refine lv_if_lt (tgt := 30) X.x X.b dX7_spans_1 (by decide) (fun c1 => ?_) (fun c1 => ?_)
  · have hf := wT c1 hf
    refine lv_iconst (v := 0) X.x X.b dX7_spans_30 (by decide) ?_
    cases (Option.some.inj hf).trans JR
    exact ro_zret X h (Or.inl rfl) dX7_spans_31
  · have hf := wF c1 hf
    refine lv_iload_n X.x X.b dX7_spans_4 rfl (lv_at hl 2 rfl) ?_
    refine lv_if_lt (tgt := 30) X.x X.b dX7_spans_5 (by decide) (fun c2 => ?_) (fun c2 => ?_)
    · have hf := wT c2 hf
      refine lv_iconst (v := 0) X.x X.b dX7_spans_30 (by decide) ?_
      cases (Option.some.inj hf).trans JR
      exact ro_zret X h (Or.inl rfl) dX7_spans_31
    · have hf := wF c2 hf
      refine lv_iload_n X.x X.b dX7_spans_8 rfl (lv_at hl 2 rfl) ?_
      refine lv_aload_n X.x X.b dX7_spans_9 rfl (lv_at hl 0 rfl) ?_
      refine gC_29_1 X h (hS 29) hi Nat.one_pos lk_X7_17 dX7_spans_10 ?_
      refine lv_icmp_gt (tgt := 30) X.x X.b dX7_spans_13 (by decide) (fun c3 => ?_) (fun c3 => ?_)
      · have hf := wT c3 hf
        refine lv_iconst (v := 0) X.x X.b dX7_spans_30 (by decide) ?_
        cases (Option.some.inj hf).trans JR
        exact ro_zret X h (Or.inl rfl) dX7_spans_31
      · have hf := wF c3 hf
        refine lv_iload_n X.x X.b dX7_spans_16 rfl (lv_at hl 1 rfl) ?_
        refine lv_aload_n X.x X.b dX7_spans_17 rfl (lv_at hl 0 rfl) ?_
        refine gC_29_1 X h (hS 29) hi Nat.one_pos lk_X7_17 dX7_spans_18 ?_
        refine lv_iload_n X.x X.b dX7_spans_21 rfl (lv_at hl 2 rfl) ?_
        refine lv_isub X.x X.b dX7_spans_22 ?_
        refine lv_icmp_gt (tgt := 30) X.x X.b dX7_spans_23 (by decide) (fun c4 => ?_) (fun c4 => ?_)
        · have hf := wT c4 hf
          refine lv_iconst (v := 0) X.x X.b dX7_spans_30 (by decide) ?_
          cases (Option.some.inj hf).trans JR
          exact ro_zret X h (Or.inl rfl) dX7_spans_31
        · have hf := wF c4 hf
          refine lv_iconst (v := 1) X.x X.b dX7_spans_26 (by decide) ?_
          refine lv_goto (tgt := 31) X.x X.b dX7_spans_27 (by decide) ?_
          cases (Option.some.inj hf).trans JR
          exact ro_zret X h (Or.inr rfl) dX7_spans_31
set_option maxHeartbeats 4000000 in
set_option maxRecDepth 20000 in
theorem kX7_put (l : Launch) {k : En} {S : Nat → Prop} (hS : ∀ t, S t) {i : Nat} {a1 : Int32} {a2 : Int32} (hi : i < 4) {res : Mm} {g : Mm} (hf : fX7_put g i a1 a2 = some res) : Mt l yX7_put cX7_put 3 none (RmN 0 0) YC S k [.ref (k.1 + adC 29 i 0), .int a1, .int a2] g none res := by
  refine Mt.of (by decide) (Nat.le_of_ble_eq_true rfl) ?_
  intro p e s m args below meth c ls X _ h hl
  have X : Cx YC S k p s m args meth c cX7_put 3 none RX7 := X
  have hl : lv_has ls 3 [(0, .ref (k.1 + adC 29 i 0)), (1, .int a1), (2, .int a2)] := hl
  have JR : res = res := rfl
  unfold fX7_put at hf
  refine lv_aload_n X.x X.b dX7_put_0 rfl (lv_at hl 0 rfl) ?_
  refine gC_29_0 X h (hS 29) hi Nat.one_pos lk_X7_9 dX7_put_1 ?_
  refine lv_if_ne (tgt := 18) X.x X.b dX7_put_4 (by decide) (fun c1 => ?_) (fun c1 => ?_)
  · have hf := wF c1 hf
    refine lv_aload_n X.x X.b dX7_put_18 rfl (lv_at hl 0 rfl) ?_
    refine gC_29_0 X h (hS 29) hi Nat.one_pos lk_X7_9 dX7_put_19 ?_
    refine lv_iconst (v := 1) X.x X.b dX7_put_22 (by decide) ?_
    refine lv_icmp_ne (tgt := 37) X.x X.b dX7_put_23 (by decide) (fun c2 => ?_) (fun c2 => ?_)
    · have hf := wF c2 hf
      refine lv_aload_n X.x X.b dX7_put_37 rfl (lv_at hl 0 rfl) ?_
      refine gC_29_2 X h (hS 29) hi Nat.one_pos lk_X7_13 dX7_put_38 ?_
      refine lv_iload_n X.x X.b dX7_put_41 rfl (lv_at hl 1 rfl) ?_
      refine lv_iload_n X.x X.b dX7_put_42 rfl (lv_at hl 2 rfl) ?_
      obtain ⟨b3, hf⟩ := wGi_s hf
      obtain ⟨g4, e5, hf⟩ := wLe_s hf
      refine bC_30 X h (hS 30) hi Nat.one_pos e5 b3 dX7_put_43 (fun H locs h => ?_)
      cases (Option.some.inj hf).trans JR
      exact ro_vret X h dX7_put_44
    · have hf := wT c2 hf
      refine lv_aload_n X.x X.b dX7_put_26 rfl (lv_at hl 0 rfl) ?_
      refine gC_29_2 X h (hS 29) hi Nat.one_pos lk_X7_13 dX7_put_27 ?_
      refine lv_iload_n X.x X.b dX7_put_30 rfl (lv_at hl 1 rfl) ?_
      refine lv_iload_n X.x X.b dX7_put_31 rfl (lv_at hl 2 rfl) ?_
      refine lv_i2s X.x X.b dX7_put_32 rfl ?_
      obtain ⟨b6, hf⟩ := wGi_s hf
      obtain ⟨g7, e8, hf⟩ := wLe_s hf
      refine bC_30 X h (hS 30) hi Nat.one_pos e8 b6 dX7_put_33 (fun H locs h => ?_)
      refine lv_goto (tgt := 44) X.x X.b dX7_put_34 (by decide) ?_
      cases (Option.some.inj hf).trans JR
      exact ro_vret X h dX7_put_44
  · have hf := wT c1 hf
    refine lv_aload_n X.x X.b dX7_put_7 rfl (lv_at hl 0 rfl) ?_
    refine gC_29_2 X h (hS 29) hi Nat.one_pos lk_X7_13 dX7_put_8 ?_
    refine lv_iload_n X.x X.b dX7_put_11 rfl (lv_at hl 1 rfl) ?_
    refine lv_iload_n X.x X.b dX7_put_12 rfl (lv_at hl 2 rfl) ?_
    refine lv_i2b X.x X.b dX7_put_13 rfl ?_
    obtain ⟨b9, hf⟩ := wGi_s hf
    obtain ⟨g10, e11, hf⟩ := wLe_s hf
    refine bC_30 X h (hS 30) hi Nat.one_pos e11 b9 dX7_put_14 (fun H locs h => ?_)
    refine lv_goto (tgt := 44) X.x X.b dX7_put_15 (by decide) ?_
    cases (Option.some.inj hf).trans JR
    exact ro_vret X h dX7_put_44
end WK
