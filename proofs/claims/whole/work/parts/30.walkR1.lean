theorem dX11_in_0 : decode cX11_in 0 = .ok (.iload_n 0, 1) := by decide +kernel
theorem dX11_in_1 : decode cX11_in 1 = .ok (.iload_n 1, 1) := by decide +kernel
theorem dX11_in_2 : decode cX11_in 2 = .ok (.if_icmp .lt 12, 3) := by decide +kernel
theorem dX11_in_5 : decode cX11_in 5 = .ok (.iload_n 0, 1) := by decide +kernel
theorem dX11_in_6 : decode cX11_in 6 = .ok (.iload_n 2, 1) := by decide +kernel
theorem dX11_in_7 : decode cX11_in 7 = .ok (.if_icmp .gt 7, 3) := by decide +kernel
theorem dX11_in_10 : decode cX11_in 10 = .ok (.iconst 1, 1) := by decide +kernel
theorem dX11_in_11 : decode cX11_in 11 = .ok (.goto 4, 3) := by decide +kernel
theorem dX11_in_14 : decode cX11_in 14 = .ok (.iconst 0, 1) := by decide +kernel
theorem dX11_in_15 : decode cX11_in 15 = .ok (.ireturn, 1) := by decide +kernel
theorem dX11_isVisit_0 : decode cX11_isVisit 0 = .ok (.iload_n 1, 1) := by decide +kernel
theorem dX11_isVisit_1 : decode cX11_isVisit 1 = .ok (.iconst 0, 1) := by decide +kernel
theorem dX11_isVisit_2 : decode cX11_isVisit 2 = .ok (.aload_n 0, 1) := by decide +kernel
theorem dX11_isVisit_3 : decode cX11_isVisit 3 = .ok (.getfield 96, 3) := by decide +kernel
theorem dX11_isVisit_6 : decode cX11_isVisit 6 = .ok (.iconst 1, 1) := by decide +kernel
theorem dX11_isVisit_7 : decode cX11_isVisit 7 = .ok (.isub, 1) := by decide +kernel
theorem dX11_isVisit_8 : decode cX11_isVisit 8 = .ok (.invokestatic 99, 3) := by decide +kernel
theorem dX11_isVisit_11 : decode cX11_isVisit 11 = .ok (.ireturn, 1) := by decide +kernel
theorem dX11_isStand_0 : decode cX11_isStand 0 = .ok (.iload_n 1, 1) := by decide +kernel
theorem dX11_isStand_1 : decode cX11_isStand 1 = .ok (.iconst 0, 1) := by decide +kernel
theorem dX11_isStand_2 : decode cX11_isStand 2 = .ok (.aload_n 0, 1) := by decide +kernel
theorem dX11_isStand_3 : decode cX11_isStand 3 = .ok (.getfield 103, 3) := by decide +kernel
theorem dX11_isStand_6 : decode cX11_isStand 6 = .ok (.iconst 1, 1) := by decide +kernel
theorem dX11_isStand_7 : decode cX11_isStand 7 = .ok (.isub, 1) := by decide +kernel
theorem dX11_isStand_8 : decode cX11_isStand 8 = .ok (.invokestatic 99, 3) := by decide +kernel
theorem dX11_isStand_11 : decode cX11_isStand 11 = .ok (.ireturn, 1) := by decide +kernel
theorem dX11_of_0 : decode cX11_of 0 = .ok (.aload_n 0, 1) := by decide +kernel
theorem dX11_of_1 : decode cX11_of 1 = .ok (.getfield 7, 3) := by decide +kernel
theorem dX11_of_4 : decode cX11_of 4 = .ok (.bipush 30, 2) := by decide +kernel
theorem dX11_of_6 : decode cX11_of 6 = .ok (.iload_n 1, 1) := by decide +kernel
theorem dX11_of_7 : decode cX11_of 7 = .ok (.imul, 1) := by decide +kernel
theorem dX11_of_8 : decode cX11_of 8 = .ok (.iload_n 2, 1) := by decide +kernel
theorem dX11_of_9 : decode cX11_of 9 = .ok (.iadd, 1) := by decide +kernel
theorem dX11_of_10 : decode cX11_of 10 = .ok (.iaload, 1) := by decide +kernel
theorem dX11_of_11 : decode cX11_of 11 = .ok (.ireturn, 1) := by decide +kernel
theorem dX11_ticksOf_0 : decode cX11_ticksOf 0 = .ok (.aload_n 0, 1) := by decide +kernel
theorem dX11_ticksOf_1 : decode cX11_ticksOf 1 = .ok (.getfield 50, 3) := by decide +kernel
theorem dX11_ticksOf_4 : decode cX11_ticksOf 4 = .ok (.bipush 8, 2) := by decide +kernel
theorem dX11_ticksOf_6 : decode cX11_ticksOf 6 = .ok (.aload_n 0, 1) := by decide +kernel
theorem dX11_ticksOf_7 : decode cX11_ticksOf 7 = .ok (.iload_n 1, 1) := by decide +kernel
theorem dX11_ticksOf_8 : decode cX11_ticksOf 8 = .ok (.iconst 0, 1) := by decide +kernel
theorem dX11_ticksOf_9 : decode cX11_ticksOf 9 = .ok (.invokevirtual 106, 3) := by decide +kernel
theorem dX11_ticksOf_12 : decode cX11_ticksOf 12 = .ok (.imul, 1) := by decide +kernel
theorem dX11_ticksOf_13 : decode cX11_ticksOf 13 = .ok (.iload_n 2, 1) := by decide +kernel
theorem dX11_ticksOf_14 : decode cX11_ticksOf 14 = .ok (.iadd, 1) := by decide +kernel
theorem dX11_ticksOf_15 : decode cX11_ticksOf 15 = .ok (.iaload, 1) := by decide +kernel
theorem dX11_ticksOf_16 : decode cX11_ticksOf 16 = .ok (.ireturn, 1) := by decide +kernel
theorem dX11_come_0 : decode cX11_come 0 = .ok (.aload_n 0, 1) := by decide +kernel
theorem dX11_come_1 : decode cX11_come 1 = .ok (.iload_n 1, 1) := by decide +kernel
theorem dX11_come_2 : decode cX11_come 2 = .ok (.iconst 1, 1) := by decide +kernel
theorem dX11_come_3 : decode cX11_come 3 = .ok (.invokevirtual 106, 3) := by decide +kernel
theorem dX11_come_6 : decode cX11_come 6 = .ok (.aload_n 0, 1) := by decide +kernel
theorem dX11_come_7 : decode cX11_come 7 = .ok (.iload_n 1, 1) := by decide +kernel
theorem dX11_come_8 : decode cX11_come 8 = .ok (.iconst 5, 1) := by decide +kernel
theorem dX11_come_9 : decode cX11_come 9 = .ok (.invokevirtual 106, 3) := by decide +kernel
theorem dX11_come_12 : decode cX11_come 12 = .ok (.iadd, 1) := by decide +kernel
theorem dX11_come_13 : decode cX11_come 13 = .ok (.ireturn, 1) := by decide +kernel
theorem dX11_limit_0 : decode cX11_limit 0 = .ok (.aload_n 0, 1) := by decide +kernel
theorem dX11_limit_1 : decode cX11_limit 1 = .ok (.iload_n 1, 1) := by decide +kernel
theorem dX11_limit_2 : decode cX11_limit 2 = .ok (.invokevirtual 110, 3) := by decide +kernel
theorem dX11_limit_5 : decode cX11_limit 5 = .ok (.aload_n 0, 1) := by decide +kernel
theorem dX11_limit_6 : decode cX11_limit 6 = .ok (.iload_n 1, 1) := by decide +kernel
theorem dX11_limit_7 : decode cX11_limit 7 = .ok (.iconst 3, 1) := by decide +kernel
theorem dX11_limit_8 : decode cX11_limit 8 = .ok (.invokevirtual 106, 3) := by decide +kernel
theorem dX11_limit_11 : decode cX11_limit 11 = .ok (.iadd, 1) := by decide +kernel
theorem dX11_limit_12 : decode cX11_limit 12 = .ok (.ireturn, 1) := by decide +kernel
theorem dX11_isDone_0 : decode cX11_isDone 0 = .ok (.aload_n 0, 1) := by decide +kernel
theorem dX11_isDone_1 : decode cX11_isDone 1 = .ok (.iload_n 1, 1) := by decide +kernel
theorem dX11_isDone_2 : decode cX11_isDone 2 = .ok (.bipush 9, 2) := by decide +kernel
theorem dX11_isDone_4 : decode cX11_isDone 4 = .ok (.invokevirtual 106, 3) := by decide +kernel
theorem dX11_isDone_7 : decode cX11_isDone 7 = .ok (.iload_n 2, 1) := by decide +kernel
theorem dX11_isDone_8 : decode cX11_isDone 8 = .ok (.ishr, 1) := by decide +kernel
theorem dX11_isDone_9 : decode cX11_isDone 9 = .ok (.iconst 1, 1) := by decide +kernel
theorem dX11_isDone_10 : decode cX11_isDone 10 = .ok (.iand, 1) := by decide +kernel
theorem dX11_isDone_11 : decode cX11_isDone 11 = .ok (.iconst 1, 1) := by decide +kernel
theorem dX11_isDone_12 : decode cX11_isDone 12 = .ok (.if_icmp .ne 7, 3) := by decide +kernel
theorem dX11_isDone_15 : decode cX11_isDone 15 = .ok (.iconst 1, 1) := by decide +kernel
theorem dX11_isDone_16 : decode cX11_isDone 16 = .ok (.goto 4, 3) := by decide +kernel
theorem dX11_isDone_19 : decode cX11_isDone 19 = .ok (.iconst 0, 1) := by decide +kernel
theorem dX11_isDone_20 : decode cX11_isDone 20 = .ok (.ireturn, 1) := by decide +kernel
theorem dX11_stand_0 : decode cX11_stand 0 = .ok (.iload_n 1, 1) := by decide +kernel
theorem dX11_stand_1 : decode cX11_stand 1 = .ok (.iconst 1, 1) := by decide +kernel
theorem dX11_stand_2 : decode cX11_stand 2 = .ok (.iconst 3, 1) := by decide +kernel
theorem dX11_stand_3 : decode cX11_stand 3 = .ok (.invokestatic 99, 3) := by decide +kernel
theorem dX11_stand_6 : decode cX11_stand 6 = .ok (.ifCond .ne 6, 3) := by decide +kernel
theorem dX11_stand_9 : decode cX11_stand 9 = .ok (.bipush (-2), 2) := by decide +kernel
theorem dX11_stand_11 : decode cX11_stand 11 = .ok (.ireturn, 1) := by decide +kernel
theorem dX11_stand_12 : decode cX11_stand 12 = .ok (.aload_n 0, 1) := by decide +kernel
theorem dX11_stand_13 : decode cX11_stand 13 = .ok (.getfield 103, 3) := by decide +kernel
theorem dX11_stand_16 : decode cX11_stand 16 = .ok (.bipush 6, 2) := by decide +kernel
theorem dX11_stand_18 : decode cX11_stand 18 = .ok (.if_icmp .ne 6, 3) := by decide +kernel
theorem dX11_stand_21 : decode cX11_stand 21 = .ok (.bipush (-4), 2) := by decide +kernel
theorem dX11_stand_23 : decode cX11_stand 23 = .ok (.ireturn, 1) := by decide +kernel
theorem dX11_stand_24 : decode cX11_stand 24 = .ok (.aload_n 0, 1) := by decide +kernel
theorem dX11_stand_25 : decode cX11_stand 25 = .ok (.getfield 7, 3) := by decide +kernel
theorem dX11_stand_28 : decode cX11_stand 28 = .ok (.sipush 490, 3) := by decide +kernel
theorem dX11_stand_31 : decode cX11_stand 31 = .ok (.aload_n 0, 1) := by decide +kernel
theorem dX11_stand_32 : decode cX11_stand 32 = .ok (.getfield 103, 3) := by decide +kernel
theorem dX11_stand_35 : decode cX11_stand 35 = .ok (.iadd, 1) := by decide +kernel
theorem dX11_stand_36 : decode cX11_stand 36 = .ok (.iload_n 1, 1) := by decide +kernel
theorem dX11_stand_37 : decode cX11_stand 37 = .ok (.iastore, 1) := by decide +kernel
theorem dX11_stand_38 : decode cX11_stand 38 = .ok (.aload_n 0, 1) := by decide +kernel
theorem dX11_stand_39 : decode cX11_stand 39 = .ok (.dup, 1) := by decide +kernel
theorem dX11_stand_40 : decode cX11_stand 40 = .ok (.getfield 103, 3) := by decide +kernel
theorem dX11_stand_43 : decode cX11_stand 43 = .ok (.iconst 1, 1) := by decide +kernel
theorem dX11_stand_44 : decode cX11_stand 44 = .ok (.iadd, 1) := by decide +kernel
theorem dX11_stand_45 : decode cX11_stand 45 = .ok (.putfield 103, 3) := by decide +kernel
theorem dX11_stand_48 : decode cX11_stand 48 = .ok (.aload_n 0, 1) := by decide +kernel
theorem dX11_stand_49 : decode cX11_stand 49 = .ok (.getfield 103, 3) := by decide +kernel
theorem dX11_stand_52 : decode cX11_stand 52 = .ok (.iconst 1, 1) := by decide +kernel
theorem dX11_stand_53 : decode cX11_stand 53 = .ok (.isub, 1) := by decide +kernel
theorem dX11_stand_54 : decode cX11_stand 54 = .ok (.ireturn, 1) := by decide +kernel
theorem dX11_set_0 : decode cX11_set 0 = .ok (.iload_n 1, 1) := by decide +kernel
theorem dX11_set_1 : decode cX11_set 1 = .ok (.iconst 0, 1) := by decide +kernel
theorem dX11_set_2 : decode cX11_set 2 = .ok (.iconst 4, 1) := by decide +kernel
theorem dX11_set_3 : decode cX11_set 3 = .ok (.invokestatic 99, 3) := by decide +kernel
theorem dX11_set_6 : decode cX11_set 6 = .ok (.ifCond .ne 9, 3) := by decide +kernel
theorem dX11_set_9 : decode cX11_set 9 = .ok (.iload_n 1, 1) := by decide +kernel
theorem dX11_set_10 : decode cX11_set 10 = .ok (.bipush 7, 2) := by decide +kernel
theorem dX11_set_12 : decode cX11_set 12 = .ok (.if_icmp .ne 13, 3) := by decide +kernel
theorem dX11_set_15 : decode cX11_set 15 = .ok (.iload_n 2, 1) := by decide +kernel
theorem dX11_set_16 : decode cX11_set 16 = .ok (.iconst 0, 1) := by decide +kernel
theorem dX11_set_17 : decode cX11_set 17 = .ok (.bipush 9, 2) := by decide +kernel
theorem dX11_set_19 : decode cX11_set 19 = .ok (.invokestatic 99, 3) := by decide +kernel
theorem dX11_set_22 : decode cX11_set 22 = .ok (.goto 43, 3) := by decide +kernel
theorem dX11_set_25 : decode cX11_set 25 = .ok (.iload_n 1, 1) := by decide +kernel
theorem dX11_set_26 : decode cX11_set 26 = .ok (.iconst 5, 1) := by decide +kernel
theorem dX11_set_27 : decode cX11_set 27 = .ok (.if_icmp .eq 9, 3) := by decide +kernel
theorem dX11_set_30 : decode cX11_set 30 = .ok (.iload_n 1, 1) := by decide +kernel
theorem dX11_set_31 : decode cX11_set 31 = .ok (.bipush 6, 2) := by decide +kernel
theorem dX11_set_33 : decode cX11_set 33 = .ok (.if_icmp .ne 12, 3) := by decide +kernel
theorem dX11_set_36 : decode cX11_set 36 = .ok (.iload_n 2, 1) := by decide +kernel
theorem dX11_set_37 : decode cX11_set 37 = .ok (.iconst 0, 1) := by decide +kernel
theorem dX11_set_38 : decode cX11_set 38 = .ok (.iconst 1, 1) := by decide +kernel
theorem dX11_set_39 : decode cX11_set 39 = .ok (.invokestatic 99, 3) := by decide +kernel
theorem dX11_set_42 : decode cX11_set 42 = .ok (.goto 23, 3) := by decide +kernel
theorem dX11_set_45 : decode cX11_set 45 = .ok (.iload_n 1, 1) := by decide +kernel
theorem dX11_set_46 : decode cX11_set 46 = .ok (.bipush 8, 2) := by decide +kernel
theorem dX11_set_48 : decode cX11_set 48 = .ok (.if_icmp .ne 16, 3) := by decide +kernel
theorem dX11_set_51 : decode cX11_set 51 = .ok (.iload_n 2, 1) := by decide +kernel
theorem dX11_set_52 : decode cX11_set 52 = .ok (.iconst 1, 1) := by decide +kernel
theorem dX11_set_53 : decode cX11_set 53 = .ok (.iconst 2, 1) := by decide +kernel
theorem dX11_set_54 : decode cX11_set 54 = .ok (.invokestatic 99, 3) := by decide +kernel
theorem dX11_set_57 : decode cX11_set 57 = .ok (.ifCond .eq 7, 3) := by decide +kernel
theorem dX11_set_60 : decode cX11_set 60 = .ok (.iconst 1, 1) := by decide +kernel
theorem dX11_set_61 : decode cX11_set 61 = .ok (.goto 4, 3) := by decide +kernel
theorem dX11_set_64 : decode cX11_set 64 = .ok (.iconst 0, 1) := by decide +kernel
theorem dX11_set_65 : decode cX11_set 65 = .ok (.istore_n 3, 1) := by decide +kernel
theorem dX11_set_66 : decode cX11_set 66 = .ok (.iload_n 3, 1) := by decide +kernel
theorem dX11_set_67 : decode cX11_set 67 = .ok (.ifCond .ne 6, 3) := by decide +kernel
theorem dX11_set_70 : decode cX11_set 70 = .ok (.bipush (-2), 2) := by decide +kernel
theorem dX11_set_72 : decode cX11_set 72 = .ok (.ireturn, 1) := by decide +kernel
theorem dX11_set_73 : decode cX11_set 73 = .ok (.iload_n 1, 1) := by decide +kernel
theorem dX11_set_74 : decode cX11_set 74 = .ok (.iconst 4, 1) := by decide +kernel
theorem dX11_set_75 : decode cX11_set 75 = .ok (.if_icmp .gt 20, 3) := by decide +kernel
theorem dX11_set_78 : decode cX11_set 78 = .ok (.iload_n 2, 1) := by decide +kernel
theorem dX11_set_79 : decode cX11_set 79 = .ok (.aload_n 0, 1) := by decide +kernel
theorem dX11_set_80 : decode cX11_set 80 = .ok (.getfield 7, 3) := by decide +kernel
theorem dX11_set_83 : decode cX11_set 83 = .ok (.sipush 475, 3) := by decide +kernel
theorem dX11_set_86 : decode cX11_set 86 = .ok (.iload_n 1, 1) := by decide +kernel
theorem dX11_set_87 : decode cX11_set 87 = .ok (.iadd, 1) := by decide +kernel
theorem dX11_set_88 : decode cX11_set 88 = .ok (.iaload, 1) := by decide +kernel
theorem dX11_set_89 : decode cX11_set 89 = .ok (.if_icmp .ge 6, 3) := by decide +kernel
theorem dX11_set_92 : decode cX11_set 92 = .ok (.bipush (-3), 2) := by decide +kernel
theorem dX11_set_94 : decode cX11_set 94 = .ok (.ireturn, 1) := by decide +kernel
theorem dX11_set_95 : decode cX11_set 95 = .ok (.iload_n 1, 1) := by decide +kernel
theorem dX11_set_96 : decode cX11_set 96 = .ok (.iconst 4, 1) := by decide +kernel
theorem dX11_set_97 : decode cX11_set 97 = .ok (.if_icmp .gt 11, 3) := by decide +kernel
theorem dX11_set_100 : decode cX11_set 100 = .ok (.sipush 470, 3) := by decide +kernel
theorem dX11_set_103 : decode cX11_set 103 = .ok (.iload_n 1, 1) := by decide +kernel
theorem dX11_set_104 : decode cX11_set 104 = .ok (.iadd, 1) := by decide +kernel
theorem dX11_set_105 : decode cX11_set 105 = .ok (.goto 41, 3) := by decide +kernel
theorem dX11_set_108 : decode cX11_set 108 = .ok (.iload_n 1, 1) := by decide +kernel
theorem dX11_set_109 : decode cX11_set 109 = .ok (.iconst 5, 1) := by decide +kernel
theorem dX11_set_110 : decode cX11_set 110 = .ok (.if_icmp .ne 9, 3) := by decide +kernel
theorem dX11_set_113 : decode cX11_set 113 = .ok (.sipush 481, 3) := by decide +kernel
theorem dX11_set_116 : decode cX11_set 116 = .ok (.goto 30, 3) := by decide +kernel
theorem dX11_set_119 : decode cX11_set 119 = .ok (.iload_n 1, 1) := by decide +kernel
theorem dX11_set_120 : decode cX11_set 120 = .ok (.bipush 6, 2) := by decide +kernel
theorem dX11_set_122 : decode cX11_set 122 = .ok (.if_icmp .ne 9, 3) := by decide +kernel
theorem dX11_set_125 : decode cX11_set 125 = .ok (.sipush 482, 3) := by decide +kernel
theorem dX11_set_128 : decode cX11_set 128 = .ok (.goto 18, 3) := by decide +kernel
theorem dX11_set_131 : decode cX11_set 131 = .ok (.iload_n 1, 1) := by decide +kernel
theorem dX11_set_132 : decode cX11_set 132 = .ok (.bipush 7, 2) := by decide +kernel
theorem dX11_set_134 : decode cX11_set 134 = .ok (.if_icmp .ne 9, 3) := by decide +kernel
theorem dX11_set_137 : decode cX11_set 137 = .ok (.sipush 483, 3) := by decide +kernel
theorem dX11_set_140 : decode cX11_set 140 = .ok (.goto 6, 3) := by decide +kernel
theorem dX11_set_143 : decode cX11_set 143 = .ok (.sipush 484, 3) := by decide +kernel
theorem dX11_set_146 : decode cX11_set 146 = .ok (.istore 4, 2) := by decide +kernel
theorem dX11_set_148 : decode cX11_set 148 = .ok (.aload_n 0, 1) := by decide +kernel
theorem dX11_set_149 : decode cX11_set 149 = .ok (.getfield 7, 3) := by decide +kernel
theorem dX11_set_152 : decode cX11_set 152 = .ok (.iload 4, 2) := by decide +kernel
theorem dX11_set_154 : decode cX11_set 154 = .ok (.iaload, 1) := by decide +kernel
theorem dX11_set_155 : decode cX11_set 155 = .ok (.istore 5, 2) := by decide +kernel
theorem dX11_set_157 : decode cX11_set 157 = .ok (.aload_n 0, 1) := by decide +kernel
theorem dX11_set_158 : decode cX11_set 158 = .ok (.getfield 7, 3) := by decide +kernel
theorem dX11_set_161 : decode cX11_set 161 = .ok (.iload 4, 2) := by decide +kernel
theorem dX11_set_163 : decode cX11_set 163 = .ok (.iload_n 2, 1) := by decide +kernel
theorem dX11_set_164 : decode cX11_set 164 = .ok (.iastore, 1) := by decide +kernel
theorem dX11_set_165 : decode cX11_set 165 = .ok (.iload 5, 2) := by decide +kernel
theorem dX11_set_167 : decode cX11_set 167 = .ok (.ireturn, 1) := by decide +kernel
theorem dX11_visit_0 : decode cX11_visit 0 = .ok (.iload_n 1, 1) := by decide +kernel
theorem dX11_visit_1 : decode cX11_visit 1 = .ok (.iconst 0, 1) := by decide +kernel
theorem dX11_visit_2 : decode cX11_visit 2 = .ok (.iconst 5, 1) := by decide +kernel
theorem dX11_visit_3 : decode cX11_visit 3 = .ok (.invokestatic 99, 3) := by decide +kernel
theorem dX11_visit_6 : decode cX11_visit 6 = .ok (.ifCond .eq 46, 3) := by decide +kernel
theorem dX11_visit_9 : decode cX11_visit 9 = .ok (.iload_n 2, 1) := by decide +kernel
theorem dX11_visit_10 : decode cX11_visit 10 = .ok (.aload_n 0, 1) := by decide +kernel
theorem dX11_visit_11 : decode cX11_visit 11 = .ok (.getfield 7, 3) := by decide +kernel
theorem dX11_visit_14 : decode cX11_visit 14 = .ok (.sipush 480, 3) := by decide +kernel
theorem dX11_visit_17 : decode cX11_visit 17 = .ok (.iaload, 1) := by decide +kernel
theorem dX11_visit_18 : decode cX11_visit 18 = .ok (.sipush 9999, 3) := by decide +kernel
theorem dX11_visit_21 : decode cX11_visit 21 = .ok (.invokestatic 99, 3) := by decide +kernel
theorem dX11_visit_24 : decode cX11_visit 24 = .ok (.ifCond .eq 28, 3) := by decide +kernel
theorem dX11_visit_27 : decode cX11_visit 27 = .ok (.iload_n 3, 1) := by decide +kernel
theorem dX11_visit_28 : decode cX11_visit 28 = .ok (.iload_n 2, 1) := by decide +kernel
theorem dX11_visit_29 : decode cX11_visit 29 = .ok (.iconst 1, 1) := by decide +kernel
theorem dX11_visit_30 : decode cX11_visit 30 = .ok (.iadd, 1) := by decide +kernel
theorem dX11_visit_31 : decode cX11_visit 31 = .ok (.sipush 9999, 3) := by decide +kernel
theorem dX11_visit_34 : decode cX11_visit 34 = .ok (.invokestatic 99, 3) := by decide +kernel
theorem dX11_visit_37 : decode cX11_visit 37 = .ok (.ifCond .eq 15, 3) := by decide +kernel
theorem dX11_visit_40 : decode cX11_visit 40 = .ok (.iload 4, 2) := by decide +kernel
theorem dX11_visit_42 : decode cX11_visit 42 = .ok (.iconst 1, 1) := by decide +kernel
theorem dX11_visit_43 : decode cX11_visit 43 = .ok (.sipush 999, 3) := by decide +kernel
theorem dX11_visit_46 : decode cX11_visit 46 = .ok (.invokestatic 99, 3) := by decide +kernel
theorem dX11_visit_49 : decode cX11_visit 49 = .ok (.ifCond .ne 6, 3) := by decide +kernel
theorem dX11_visit_52 : decode cX11_visit 52 = .ok (.bipush (-2), 2) := by decide +kernel
theorem dX11_visit_54 : decode cX11_visit 54 = .ok (.ireturn, 1) := by decide +kernel
theorem dX11_visit_55 : decode cX11_visit 55 = .ok (.aload_n 0, 1) := by decide +kernel
theorem dX11_visit_56 : decode cX11_visit 56 = .ok (.getfield 96, 3) := by decide +kernel
theorem dX11_visit_59 : decode cX11_visit 59 = .ok (.bipush 12, 2) := by decide +kernel
theorem dX11_visit_61 : decode cX11_visit 61 = .ok (.if_icmp .ne 6, 3) := by decide +kernel
theorem dX11_visit_64 : decode cX11_visit 64 = .ok (.bipush (-4), 2) := by decide +kernel
theorem dX11_visit_66 : decode cX11_visit 66 = .ok (.ireturn, 1) := by decide +kernel
theorem dX11_visit_67 : decode cX11_visit 67 = .ok (.bipush 30, 2) := by decide +kernel
theorem dX11_visit_69 : decode cX11_visit 69 = .ok (.aload_n 0, 1) := by decide +kernel
theorem dX11_visit_70 : decode cX11_visit 70 = .ok (.getfield 96, 3) := by decide +kernel
theorem dX11_visit_73 : decode cX11_visit 73 = .ok (.imul, 1) := by decide +kernel
theorem dX11_visit_74 : decode cX11_visit 74 = .ok (.istore 5, 2) := by decide +kernel
theorem dX11_visit_76 : decode cX11_visit 76 = .ok (.iconst 0, 1) := by decide +kernel
theorem dX11_visit_77 : decode cX11_visit 77 = .ok (.istore 6, 2) := by decide +kernel
theorem dX11_visit_79 : decode cX11_visit 79 = .ok (.iload 6, 2) := by decide +kernel
theorem dX11_visit_81 : decode cX11_visit 81 = .ok (.bipush 30, 2) := by decide +kernel
theorem dX11_visit_83 : decode cX11_visit 83 = .ok (.if_icmp .ge 20, 3) := by decide +kernel
theorem dX11_visit_86 : decode cX11_visit 86 = .ok (.aload_n 0, 1) := by decide +kernel
theorem dX11_visit_87 : decode cX11_visit 87 = .ok (.getfield 7, 3) := by decide +kernel
theorem dX11_visit_90 : decode cX11_visit 90 = .ok (.iload 5, 2) := by decide +kernel
theorem dX11_visit_92 : decode cX11_visit 92 = .ok (.iload 6, 2) := by decide +kernel
theorem dX11_visit_94 : decode cX11_visit 94 = .ok (.iadd, 1) := by decide +kernel
theorem dX11_visit_95 : decode cX11_visit 95 = .ok (.iconst 0, 1) := by decide +kernel
theorem dX11_visit_96 : decode cX11_visit 96 = .ok (.iastore, 1) := by decide +kernel
theorem dX11_visit_97 : decode cX11_visit 97 = .ok (.iinc 6 1, 3) := by decide +kernel
theorem dX11_visit_100 : decode cX11_visit 100 = .ok (.goto (-21), 3) := by decide +kernel
theorem dX11_visit_103 : decode cX11_visit 103 = .ok (.aload_n 0, 1) := by decide +kernel
theorem dX11_visit_104 : decode cX11_visit 104 = .ok (.getfield 7, 3) := by decide +kernel
theorem dX11_visit_107 : decode cX11_visit 107 = .ok (.iload 5, 2) := by decide +kernel
theorem dX11_visit_109 : decode cX11_visit 109 = .ok (.iload_n 1, 1) := by decide +kernel
theorem dX11_visit_110 : decode cX11_visit 110 = .ok (.iastore, 1) := by decide +kernel
theorem dX11_visit_111 : decode cX11_visit 111 = .ok (.aload_n 0, 1) := by decide +kernel
theorem dX11_visit_112 : decode cX11_visit 112 = .ok (.getfield 7, 3) := by decide +kernel
theorem dX11_visit_115 : decode cX11_visit 115 = .ok (.iload 5, 2) := by decide +kernel
theorem dX11_visit_117 : decode cX11_visit 117 = .ok (.iconst 1, 1) := by decide +kernel
theorem dX11_visit_118 : decode cX11_visit 118 = .ok (.iadd, 1) := by decide +kernel
theorem dX11_visit_119 : decode cX11_visit 119 = .ok (.iload_n 2, 1) := by decide +kernel
theorem dX11_visit_120 : decode cX11_visit 120 = .ok (.iastore, 1) := by decide +kernel
theorem dX11_visit_121 : decode cX11_visit 121 = .ok (.aload_n 0, 1) := by decide +kernel
theorem dX11_visit_122 : decode cX11_visit 122 = .ok (.getfield 7, 3) := by decide +kernel
theorem dX11_visit_125 : decode cX11_visit 125 = .ok (.iload 5, 2) := by decide +kernel
theorem dX11_visit_127 : decode cX11_visit 127 = .ok (.iconst 2, 1) := by decide +kernel
theorem dX11_visit_128 : decode cX11_visit 128 = .ok (.iadd, 1) := by decide +kernel
theorem dX11_visit_129 : decode cX11_visit 129 = .ok (.iload_n 3, 1) := by decide +kernel
theorem dX11_visit_130 : decode cX11_visit 130 = .ok (.iastore, 1) := by decide +kernel
theorem dX11_visit_131 : decode cX11_visit 131 = .ok (.aload_n 0, 1) := by decide +kernel
theorem dX11_visit_132 : decode cX11_visit 132 = .ok (.getfield 7, 3) := by decide +kernel
theorem dX11_visit_135 : decode cX11_visit 135 = .ok (.iload 5, 2) := by decide +kernel
theorem dX11_visit_137 : decode cX11_visit 137 = .ok (.iconst 3, 1) := by decide +kernel
theorem dX11_visit_138 : decode cX11_visit 138 = .ok (.iadd, 1) := by decide +kernel
theorem dX11_visit_139 : decode cX11_visit 139 = .ok (.iload 4, 2) := by decide +kernel
theorem dX11_visit_141 : decode cX11_visit 141 = .ok (.iastore, 1) := by decide +kernel
theorem dX11_visit_142 : decode cX11_visit 142 = .ok (.aload_n 0, 1) := by decide +kernel
theorem dX11_visit_143 : decode cX11_visit 143 = .ok (.getfield 7, 3) := by decide +kernel
theorem dX11_visit_146 : decode cX11_visit 146 = .ok (.iload 5, 2) := by decide +kernel
theorem dX11_visit_148 : decode cX11_visit 148 = .ok (.iconst 4, 1) := by decide +kernel
theorem dX11_visit_149 : decode cX11_visit 149 = .ok (.iadd, 1) := by decide +kernel
theorem dX11_visit_150 : decode cX11_visit 150 = .ok (.iconst (-1), 1) := by decide +kernel
theorem dX11_visit_151 : decode cX11_visit 151 = .ok (.iastore, 1) := by decide +kernel
theorem dX11_visit_152 : decode cX11_visit 152 = .ok (.aload_n 0, 1) := by decide +kernel
theorem dX11_visit_153 : decode cX11_visit 153 = .ok (.getfield 7, 3) := by decide +kernel
theorem dX11_visit_156 : decode cX11_visit 156 = .ok (.iload 5, 2) := by decide +kernel
theorem dX11_visit_158 : decode cX11_visit 158 = .ok (.bipush 7, 2) := by decide +kernel
theorem dX11_visit_160 : decode cX11_visit 160 = .ok (.iadd, 1) := by decide +kernel
theorem dX11_visit_161 : decode cX11_visit 161 = .ok (.aload_n 0, 1) := by decide +kernel
theorem dX11_visit_162 : decode cX11_visit 162 = .ok (.getfield 7, 3) := by decide +kernel
theorem dX11_visit_165 : decode cX11_visit 165 = .ok (.sipush 480, 3) := by decide +kernel
theorem dX11_visit_168 : decode cX11_visit 168 = .ok (.iaload, 1) := by decide +kernel
theorem dX11_visit_169 : decode cX11_visit 169 = .ok (.iastore, 1) := by decide +kernel
theorem dX11_visit_170 : decode cX11_visit 170 = .ok (.aload_n 0, 1) := by decide +kernel
theorem dX11_visit_171 : decode cX11_visit 171 = .ok (.getfield 7, 3) := by decide +kernel
theorem dX11_visit_174 : decode cX11_visit 174 = .ok (.iload 5, 2) := by decide +kernel
theorem dX11_visit_176 : decode cX11_visit 176 = .ok (.bipush 8, 2) := by decide +kernel
theorem dX11_visit_178 : decode cX11_visit 178 = .ok (.iadd, 1) := by decide +kernel
theorem dX11_visit_179 : decode cX11_visit 179 = .ok (.iconst (-1), 1) := by decide +kernel
theorem dX11_visit_180 : decode cX11_visit 180 = .ok (.iastore, 1) := by decide +kernel
theorem dX11_visit_181 : decode cX11_visit 181 = .ok (.aload_n 0, 1) := by decide +kernel
theorem dX11_visit_182 : decode cX11_visit 182 = .ok (.getfield 7, 3) := by decide +kernel
theorem dX11_visit_185 : decode cX11_visit 185 = .ok (.iload 5, 2) := by decide +kernel
theorem dX11_visit_187 : decode cX11_visit 187 = .ok (.bipush 10, 2) := by decide +kernel
theorem dX11_visit_189 : decode cX11_visit 189 = .ok (.iadd, 1) := by decide +kernel
theorem dX11_visit_190 : decode cX11_visit 190 = .ok (.sipush (-1000), 3) := by decide +kernel
theorem dX11_visit_193 : decode cX11_visit 193 = .ok (.iastore, 1) := by decide +kernel
theorem dX11_visit_194 : decode cX11_visit 194 = .ok (.aload_n 0, 1) := by decide +kernel
theorem dX11_visit_195 : decode cX11_visit 195 = .ok (.dup, 1) := by decide +kernel
theorem dX11_visit_196 : decode cX11_visit 196 = .ok (.getfield 96, 3) := by decide +kernel
theorem dX11_visit_199 : decode cX11_visit 199 = .ok (.iconst 1, 1) := by decide +kernel
theorem dX11_visit_200 : decode cX11_visit 200 = .ok (.iadd, 1) := by decide +kernel
theorem dX11_visit_201 : decode cX11_visit 201 = .ok (.putfield 96, 3) := by decide +kernel
theorem dX11_visit_204 : decode cX11_visit 204 = .ok (.aload_n 0, 1) := by decide +kernel
theorem dX11_visit_205 : decode cX11_visit 205 = .ok (.getfield 96, 3) := by decide +kernel
theorem dX11_visit_208 : decode cX11_visit 208 = .ok (.iconst 1, 1) := by decide +kernel
theorem dX11_visit_209 : decode cX11_visit 209 = .ok (.isub, 1) := by decide +kernel
theorem dX11_visit_210 : decode cX11_visit 210 = .ok (.ireturn, 1) := by decide +kernel
theorem dX11_late_0 : decode cX11_late 0 = .ok (.aload_n 0, 1) := by decide +kernel
theorem dX11_late_1 : decode cX11_late 1 = .ok (.iload_n 1, 1) := by decide +kernel
theorem dX11_late_2 : decode cX11_late 2 = .ok (.invokevirtual 114, 3) := by decide +kernel
theorem dX11_late_5 : decode cX11_late 5 = .ok (.ifCond .ne 5, 3) := by decide +kernel
theorem dX11_late_8 : decode cX11_late 8 = .ok (.iconst (-1), 1) := by decide +kernel
theorem dX11_late_9 : decode cX11_late 9 = .ok (.ireturn, 1) := by decide +kernel
theorem dX11_late_10 : decode cX11_late 10 = .ok (.iload_n 2, 1) := by decide +kernel
theorem dX11_late_11 : decode cX11_late 11 = .ok (.iconst 0, 1) := by decide +kernel
theorem dX11_late_12 : decode cX11_late 12 = .ok (.sipush 999, 3) := by decide +kernel
theorem dX11_late_15 : decode cX11_late 15 = .ok (.invokestatic 99, 3) := by decide +kernel
theorem dX11_late_18 : decode cX11_late 18 = .ok (.ifCond .ne 6, 3) := by decide +kernel
theorem dX11_late_21 : decode cX11_late 21 = .ok (.bipush (-2), 2) := by decide +kernel
theorem dX11_late_23 : decode cX11_late 23 = .ok (.ireturn, 1) := by decide +kernel
theorem dX11_late_24 : decode cX11_late 24 = .ok (.aload_n 0, 1) := by decide +kernel
theorem dX11_late_25 : decode cX11_late 25 = .ok (.iload_n 1, 1) := by decide +kernel
theorem dX11_late_26 : decode cX11_late 26 = .ok (.bipush 6, 2) := by decide +kernel
theorem dX11_late_28 : decode cX11_late 28 = .ok (.invokevirtual 106, 3) := by decide +kernel
theorem dX11_late_31 : decode cX11_late 31 = .ok (.ifCond .eq 6, 3) := by decide +kernel
theorem dX11_late_34 : decode cX11_late 34 = .ok (.bipush (-3), 2) := by decide +kernel
theorem dX11_late_36 : decode cX11_late 36 = .ok (.ireturn, 1) := by decide +kernel
theorem dX11_late_37 : decode cX11_late 37 = .ok (.aload_n 0, 1) := by decide +kernel
theorem dX11_late_38 : decode cX11_late 38 = .ok (.iload_n 1, 1) := by decide +kernel
theorem dX11_late_39 : decode cX11_late 39 = .ok (.iconst 5, 1) := by decide +kernel
theorem dX11_late_40 : decode cX11_late 40 = .ok (.invokevirtual 106, 3) := by decide +kernel
theorem dX11_late_43 : decode cX11_late 43 = .ok (.istore_n 3, 1) := by decide +kernel
theorem dX11_late_44 : decode cX11_late 44 = .ok (.aload_n 0, 1) := by decide +kernel
theorem dX11_late_45 : decode cX11_late 45 = .ok (.getfield 7, 3) := by decide +kernel
theorem dX11_late_48 : decode cX11_late 48 = .ok (.bipush 30, 2) := by decide +kernel
theorem dX11_late_50 : decode cX11_late 50 = .ok (.iload_n 1, 1) := by decide +kernel
theorem dX11_late_51 : decode cX11_late 51 = .ok (.imul, 1) := by decide +kernel
theorem dX11_late_52 : decode cX11_late 52 = .ok (.iconst 5, 1) := by decide +kernel
theorem dX11_late_53 : decode cX11_late 53 = .ok (.iadd, 1) := by decide +kernel
theorem dX11_late_54 : decode cX11_late 54 = .ok (.iload_n 2, 1) := by decide +kernel
theorem dX11_late_55 : decode cX11_late 55 = .ok (.iastore, 1) := by decide +kernel
theorem dX11_late_56 : decode cX11_late 56 = .ok (.iload_n 3, 1) := by decide +kernel
theorem dX11_late_57 : decode cX11_late 57 = .ok (.ireturn, 1) := by decide +kernel
theorem dX11_isAhead_0 : decode cX11_isAhead 0 = .ok (.aload_n 0, 1) := by decide +kernel
theorem dX11_isAhead_1 : decode cX11_isAhead 1 = .ok (.iload_n 1, 1) := by decide +kernel
theorem dX11_isAhead_2 : decode cX11_isAhead 2 = .ok (.bipush 6, 2) := by decide +kernel
theorem dX11_isAhead_4 : decode cX11_isAhead 4 = .ok (.invokevirtual 106, 3) := by decide +kernel
theorem dX11_isAhead_7 : decode cX11_isAhead 7 = .ok (.iconst 1, 1) := by decide +kernel
theorem dX11_isAhead_8 : decode cX11_isAhead 8 = .ok (.if_icmp .gt 7, 3) := by decide +kernel
theorem dX11_isAhead_11 : decode cX11_isAhead 11 = .ok (.iconst 1, 1) := by decide +kernel
theorem dX11_isAhead_12 : decode cX11_isAhead 12 = .ok (.goto 4, 3) := by decide +kernel
theorem dX11_isAhead_15 : decode cX11_isAhead 15 = .ok (.iconst 0, 1) := by decide +kernel
theorem dX11_isAhead_16 : decode cX11_isAhead 16 = .ok (.ireturn, 1) := by decide +kernel
theorem dX11_wish_0 : decode cX11_wish 0 = .ok (.aload_n 0, 1) := by decide +kernel
theorem dX11_wish_1 : decode cX11_wish 1 = .ok (.iload_n 1, 1) := by decide +kernel
theorem dX11_wish_2 : decode cX11_wish 2 = .ok (.invokevirtual 114, 3) := by decide +kernel
theorem dX11_wish_5 : decode cX11_wish 5 = .ok (.ifCond .eq 16, 3) := by decide +kernel
theorem dX11_wish_8 : decode cX11_wish 8 = .ok (.iload_n 2, 1) := by decide +kernel
theorem dX11_wish_9 : decode cX11_wish 9 = .ok (.iconst (-1), 1) := by decide +kernel
theorem dX11_wish_10 : decode cX11_wish 10 = .ok (.if_icmp .eq 13, 3) := by decide +kernel
theorem dX11_wish_13 : decode cX11_wish 13 = .ok (.aload_n 0, 1) := by decide +kernel
theorem dX11_wish_14 : decode cX11_wish 14 = .ok (.iload_n 2, 1) := by decide +kernel
theorem dX11_wish_15 : decode cX11_wish 15 = .ok (.invokevirtual 118, 3) := by decide +kernel
theorem dX11_wish_18 : decode cX11_wish 18 = .ok (.ifCond .ne 5, 3) := by decide +kernel
theorem dX11_wish_21 : decode cX11_wish 21 = .ok (.iconst (-1), 1) := by decide +kernel
theorem dX11_wish_22 : decode cX11_wish 22 = .ok (.ireturn, 1) := by decide +kernel
theorem dX11_wish_23 : decode cX11_wish 23 = .ok (.iload_n 2, 1) := by decide +kernel
theorem dX11_wish_24 : decode cX11_wish 24 = .ok (.iconst (-1), 1) := by decide +kernel
theorem dX11_wish_25 : decode cX11_wish 25 = .ok (.if_icmp .eq 30, 3) := by decide +kernel
theorem dX11_wish_28 : decode cX11_wish 28 = .ok (.aload_n 0, 1) := by decide +kernel
theorem dX11_wish_29 : decode cX11_wish 29 = .ok (.getfield 7, 3) := by decide +kernel
theorem dX11_wish_32 : decode cX11_wish 32 = .ok (.sipush 490, 3) := by decide +kernel
theorem dX11_wish_35 : decode cX11_wish 35 = .ok (.iload_n 2, 1) := by decide +kernel
theorem dX11_wish_36 : decode cX11_wish 36 = .ok (.iadd, 1) := by decide +kernel
theorem dX11_wish_37 : decode cX11_wish 37 = .ok (.iaload, 1) := by decide +kernel
theorem dX11_wish_38 : decode cX11_wish 38 = .ok (.aload_n 0, 1) := by decide +kernel
theorem dX11_wish_39 : decode cX11_wish 39 = .ok (.getfield 53, 3) := by decide +kernel
theorem dX11_wish_42 : decode cX11_wish 42 = .ok (.aload_n 0, 1) := by decide +kernel
theorem dX11_wish_43 : decode cX11_wish 43 = .ok (.iload_n 1, 1) := by decide +kernel
theorem dX11_wish_44 : decode cX11_wish 44 = .ok (.iconst 0, 1) := by decide +kernel
theorem dX11_wish_45 : decode cX11_wish 45 = .ok (.invokevirtual 106, 3) := by decide +kernel
theorem dX11_wish_48 : decode cX11_wish 48 = .ok (.iaload, 1) := by decide +kernel
theorem dX11_wish_49 : decode cX11_wish 49 = .ok (.if_icmp .ge 6, 3) := by decide +kernel
theorem dX11_wish_52 : decode cX11_wish 52 = .ok (.bipush (-2), 2) := by decide +kernel
theorem dX11_wish_54 : decode cX11_wish 54 = .ok (.ireturn, 1) := by decide +kernel
theorem dX11_wish_55 : decode cX11_wish 55 = .ok (.aload_n 0, 1) := by decide +kernel
theorem dX11_wish_56 : decode cX11_wish 56 = .ok (.iload_n 1, 1) := by decide +kernel
theorem dX11_wish_57 : decode cX11_wish 57 = .ok (.invokevirtual 121, 3) := by decide +kernel
theorem dX11_wish_60 : decode cX11_wish 60 = .ok (.ifCond .ne 6, 3) := by decide +kernel
theorem dX11_wish_63 : decode cX11_wish 63 = .ok (.bipush (-3), 2) := by decide +kernel
theorem dX11_wish_65 : decode cX11_wish 65 = .ok (.ireturn, 1) := by decide +kernel
theorem dX11_wish_66 : decode cX11_wish 66 = .ok (.aload_n 0, 1) := by decide +kernel
theorem dX11_wish_67 : decode cX11_wish 67 = .ok (.iload_n 1, 1) := by decide +kernel
theorem dX11_wish_68 : decode cX11_wish 68 = .ok (.iconst 4, 1) := by decide +kernel
theorem dX11_wish_69 : decode cX11_wish 69 = .ok (.invokevirtual 106, 3) := by decide +kernel
theorem dX11_wish_72 : decode cX11_wish 72 = .ok (.istore_n 3, 1) := by decide +kernel
theorem dX11_wish_73 : decode cX11_wish 73 = .ok (.aload_n 0, 1) := by decide +kernel
theorem dX11_wish_74 : decode cX11_wish 74 = .ok (.getfield 7, 3) := by decide +kernel
theorem dX11_wish_77 : decode cX11_wish 77 = .ok (.bipush 30, 2) := by decide +kernel
theorem dX11_wish_79 : decode cX11_wish 79 = .ok (.iload_n 1, 1) := by decide +kernel
theorem dX11_wish_80 : decode cX11_wish 80 = .ok (.imul, 1) := by decide +kernel
theorem dX11_wish_81 : decode cX11_wish 81 = .ok (.iconst 4, 1) := by decide +kernel
theorem dX11_wish_82 : decode cX11_wish 82 = .ok (.iadd, 1) := by decide +kernel
theorem dX11_wish_83 : decode cX11_wish 83 = .ok (.iload_n 2, 1) := by decide +kernel
theorem dX11_wish_84 : decode cX11_wish 84 = .ok (.iastore, 1) := by decide +kernel
theorem dX11_wish_85 : decode cX11_wish 85 = .ok (.iload_n 3, 1) := by decide +kernel
theorem dX11_wish_86 : decode cX11_wish 86 = .ok (.iconst (-1), 1) := by decide +kernel
theorem dX11_wish_87 : decode cX11_wish 87 = .ok (.if_icmp .ne 8, 3) := by decide +kernel
theorem dX11_wish_90 : decode cX11_wish 90 = .ok (.bipush 6, 2) := by decide +kernel
theorem dX11_wish_92 : decode cX11_wish 92 = .ok (.goto 4, 3) := by decide +kernel
theorem dX11_wish_95 : decode cX11_wish 95 = .ok (.iload_n 3, 1) := by decide +kernel
theorem dX11_wish_96 : decode cX11_wish 96 = .ok (.ireturn, 1) := by decide +kernel
theorem dX11_feed_0 : decode cX11_feed 0 = .ok (.aload_n 0, 1) := by decide +kernel
theorem dX11_feed_1 : decode cX11_feed 1 = .ok (.iload_n 1, 1) := by decide +kernel
theorem dX11_feed_2 : decode cX11_feed 2 = .ok (.invokevirtual 114, 3) := by decide +kernel
theorem dX11_feed_5 : decode cX11_feed 5 = .ok (.ifCond .eq 11, 3) := by decide +kernel
theorem dX11_feed_8 : decode cX11_feed 8 = .ok (.aload_n 0, 1) := by decide +kernel
theorem dX11_feed_9 : decode cX11_feed 9 = .ok (.iload_n 2, 1) := by decide +kernel
theorem dX11_feed_10 : decode cX11_feed 10 = .ok (.invokevirtual 114, 3) := by decide +kernel
theorem dX11_feed_13 : decode cX11_feed 13 = .ok (.ifCond .ne 5, 3) := by decide +kernel
theorem dX11_feed_16 : decode cX11_feed 16 = .ok (.iconst (-1), 1) := by decide +kernel
theorem dX11_feed_17 : decode cX11_feed 17 = .ok (.ireturn, 1) := by decide +kernel
theorem dX11_feed_18 : decode cX11_feed 18 = .ok (.iload_n 1, 1) := by decide +kernel
theorem dX11_feed_19 : decode cX11_feed 19 = .ok (.iload_n 2, 1) := by decide +kernel
theorem dX11_feed_20 : decode cX11_feed 20 = .ok (.if_icmp .eq 24, 3) := by decide +kernel
theorem dX11_feed_23 : decode cX11_feed 23 = .ok (.iload_n 3, 1) := by decide +kernel
theorem dX11_feed_24 : decode cX11_feed 24 = .ok (.iconst 1, 1) := by decide +kernel
theorem dX11_feed_25 : decode cX11_feed 25 = .ok (.bipush 99, 2) := by decide +kernel
theorem dX11_feed_27 : decode cX11_feed 27 = .ok (.invokestatic 99, 3) := by decide +kernel
theorem dX11_feed_30 : decode cX11_feed 30 = .ok (.ifCond .eq 14, 3) := by decide +kernel
theorem dX11_feed_33 : decode cX11_feed 33 = .ok (.iload 4, 2) := by decide +kernel
theorem dX11_feed_35 : decode cX11_feed 35 = .ok (.iconst 1, 1) := by decide +kernel
theorem dX11_feed_36 : decode cX11_feed 36 = .ok (.bipush 99, 2) := by decide +kernel
theorem dX11_feed_38 : decode cX11_feed 38 = .ok (.invokestatic 99, 3) := by decide +kernel
theorem dX11_feed_41 : decode cX11_feed 41 = .ok (.ifCond .ne 6, 3) := by decide +kernel
theorem dX11_feed_44 : decode cX11_feed 44 = .ok (.bipush (-2), 2) := by decide +kernel
theorem dX11_feed_46 : decode cX11_feed 46 = .ok (.ireturn, 1) := by decide +kernel
theorem dX11_feed_47 : decode cX11_feed 47 = .ok (.aload_n 0, 1) := by decide +kernel
theorem dX11_feed_48 : decode cX11_feed 48 = .ok (.iload_n 1, 1) := by decide +kernel
theorem dX11_feed_49 : decode cX11_feed 49 = .ok (.bipush 6, 2) := by decide +kernel
theorem dX11_feed_51 : decode cX11_feed 51 = .ok (.invokevirtual 106, 3) := by decide +kernel
theorem dX11_feed_54 : decode cX11_feed 54 = .ok (.ifCond .ne 13, 3) := by decide +kernel
theorem dX11_feed_57 : decode cX11_feed 57 = .ok (.aload_n 0, 1) := by decide +kernel
theorem dX11_feed_58 : decode cX11_feed 58 = .ok (.iload_n 2, 1) := by decide +kernel
theorem dX11_feed_59 : decode cX11_feed 59 = .ok (.bipush 6, 2) := by decide +kernel
theorem dX11_feed_61 : decode cX11_feed 61 = .ok (.invokevirtual 106, 3) := by decide +kernel
theorem dX11_feed_64 : decode cX11_feed 64 = .ok (.ifCond .eq 6, 3) := by decide +kernel
theorem dX11_feed_67 : decode cX11_feed 67 = .ok (.bipush (-3), 2) := by decide +kernel
theorem dX11_feed_69 : decode cX11_feed 69 = .ok (.ireturn, 1) := by decide +kernel
theorem dX11_feed_70 : decode cX11_feed 70 = .ok (.aload_n 0, 1) := by decide +kernel
theorem dX11_feed_71 : decode cX11_feed 71 = .ok (.getfield 124, 3) := by decide +kernel
theorem dX11_feed_74 : decode cX11_feed 74 = .ok (.bipush 16, 2) := by decide +kernel
theorem dX11_feed_76 : decode cX11_feed 76 = .ok (.if_icmp .ne 6, 3) := by decide +kernel
theorem dX11_feed_79 : decode cX11_feed 79 = .ok (.bipush (-4), 2) := by decide +kernel
theorem dX11_feed_81 : decode cX11_feed 81 = .ok (.ireturn, 1) := by decide +kernel
theorem dX11_feed_82 : decode cX11_feed 82 = .ok (.sipush 360, 3) := by decide +kernel
theorem dX11_feed_85 : decode cX11_feed 85 = .ok (.bipush 6, 2) := by decide +kernel
theorem dX11_feed_87 : decode cX11_feed 87 = .ok (.aload_n 0, 1) := by decide +kernel
theorem dX11_feed_88 : decode cX11_feed 88 = .ok (.getfield 124, 3) := by decide +kernel
theorem dX11_feed_91 : decode cX11_feed 91 = .ok (.imul, 1) := by decide +kernel
theorem dX11_feed_92 : decode cX11_feed 92 = .ok (.iadd, 1) := by decide +kernel
theorem dX11_feed_93 : decode cX11_feed 93 = .ok (.istore 5, 2) := by decide +kernel
theorem dX11_feed_95 : decode cX11_feed 95 = .ok (.aload_n 0, 1) := by decide +kernel
theorem dX11_feed_96 : decode cX11_feed 96 = .ok (.getfield 7, 3) := by decide +kernel
theorem dX11_feed_99 : decode cX11_feed 99 = .ok (.iload 5, 2) := by decide +kernel
theorem dX11_feed_101 : decode cX11_feed 101 = .ok (.iload_n 1, 1) := by decide +kernel
theorem dX11_feed_102 : decode cX11_feed 102 = .ok (.iastore, 1) := by decide +kernel
theorem dX11_feed_103 : decode cX11_feed 103 = .ok (.aload_n 0, 1) := by decide +kernel
theorem dX11_feed_104 : decode cX11_feed 104 = .ok (.getfield 7, 3) := by decide +kernel
theorem dX11_feed_107 : decode cX11_feed 107 = .ok (.iload 5, 2) := by decide +kernel
theorem dX11_feed_109 : decode cX11_feed 109 = .ok (.iconst 1, 1) := by decide +kernel
theorem dX11_feed_110 : decode cX11_feed 110 = .ok (.iadd, 1) := by decide +kernel
theorem dX11_feed_111 : decode cX11_feed 111 = .ok (.iload_n 2, 1) := by decide +kernel
theorem dX11_feed_112 : decode cX11_feed 112 = .ok (.iastore, 1) := by decide +kernel
theorem dX11_feed_113 : decode cX11_feed 113 = .ok (.aload_n 0, 1) := by decide +kernel
theorem dX11_feed_114 : decode cX11_feed 114 = .ok (.getfield 7, 3) := by decide +kernel
theorem dX11_feed_117 : decode cX11_feed 117 = .ok (.iload 5, 2) := by decide +kernel
theorem dX11_feed_119 : decode cX11_feed 119 = .ok (.iconst 2, 1) := by decide +kernel
theorem dX11_feed_120 : decode cX11_feed 120 = .ok (.iadd, 1) := by decide +kernel
theorem dX11_feed_121 : decode cX11_feed 121 = .ok (.iload_n 3, 1) := by decide +kernel
theorem dX11_feed_122 : decode cX11_feed 122 = .ok (.iastore, 1) := by decide +kernel
theorem dX11_feed_123 : decode cX11_feed 123 = .ok (.aload_n 0, 1) := by decide +kernel
theorem dX11_feed_124 : decode cX11_feed 124 = .ok (.getfield 7, 3) := by decide +kernel
theorem dX11_feed_127 : decode cX11_feed 127 = .ok (.iload 5, 2) := by decide +kernel
theorem dX11_feed_129 : decode cX11_feed 129 = .ok (.iconst 3, 1) := by decide +kernel
theorem dX11_feed_130 : decode cX11_feed 130 = .ok (.iadd, 1) := by decide +kernel
theorem dX11_feed_131 : decode cX11_feed 131 = .ok (.iload 4, 2) := by decide +kernel
theorem dX11_feed_133 : decode cX11_feed 133 = .ok (.iastore, 1) := by decide +kernel
theorem dX11_feed_134 : decode cX11_feed 134 = .ok (.aload_n 0, 1) := by decide +kernel
theorem dX11_feed_135 : decode cX11_feed 135 = .ok (.getfield 7, 3) := by decide +kernel
theorem dX11_feed_138 : decode cX11_feed 138 = .ok (.iload 5, 2) := by decide +kernel
theorem dX11_feed_140 : decode cX11_feed 140 = .ok (.iconst 4, 1) := by decide +kernel
theorem dX11_feed_141 : decode cX11_feed 141 = .ok (.iadd, 1) := by decide +kernel
theorem dX11_feed_142 : decode cX11_feed 142 = .ok (.iconst 0, 1) := by decide +kernel
theorem dX11_feed_143 : decode cX11_feed 143 = .ok (.iastore, 1) := by decide +kernel
theorem dX11_feed_144 : decode cX11_feed 144 = .ok (.aload_n 0, 1) := by decide +kernel
theorem dX11_feed_145 : decode cX11_feed 145 = .ok (.getfield 7, 3) := by decide +kernel
theorem dX11_feed_148 : decode cX11_feed 148 = .ok (.iload 5, 2) := by decide +kernel
theorem dX11_feed_150 : decode cX11_feed 150 = .ok (.iconst 5, 1) := by decide +kernel
theorem dX11_feed_151 : decode cX11_feed 151 = .ok (.iadd, 1) := by decide +kernel
theorem dX11_feed_152 : decode cX11_feed 152 = .ok (.iconst (-1), 1) := by decide +kernel
theorem dX11_feed_153 : decode cX11_feed 153 = .ok (.iastore, 1) := by decide +kernel
theorem dX11_feed_154 : decode cX11_feed 154 = .ok (.aload_n 0, 1) := by decide +kernel
theorem dX11_feed_155 : decode cX11_feed 155 = .ok (.dup, 1) := by decide +kernel
theorem dX11_feed_156 : decode cX11_feed 156 = .ok (.getfield 124, 3) := by decide +kernel
theorem dX11_feed_159 : decode cX11_feed 159 = .ok (.iconst 1, 1) := by decide +kernel
theorem dX11_feed_160 : decode cX11_feed 160 = .ok (.iadd, 1) := by decide +kernel
theorem dX11_feed_161 : decode cX11_feed 161 = .ok (.putfield 124, 3) := by decide +kernel
theorem dX11_feed_164 : decode cX11_feed 164 = .ok (.aload_n 0, 1) := by decide +kernel
theorem dX11_feed_165 : decode cX11_feed 165 = .ok (.getfield 124, 3) := by decide +kernel
theorem dX11_feed_168 : decode cX11_feed 168 = .ok (.iconst 1, 1) := by decide +kernel
theorem dX11_feed_169 : decode cX11_feed 169 = .ok (.isub, 1) := by decide +kernel
theorem dX11_feed_170 : decode cX11_feed 170 = .ok (.ireturn, 1) := by decide +kernel
theorem dX11_feedTape_0 : decode cX11_feedTape 0 = .ok (.iload_n 3, 1) := by decide +kernel
theorem dX11_feedTape_1 : decode cX11_feedTape 1 = .ok (.iconst 1, 1) := by decide +kernel
theorem dX11_feedTape_2 : decode cX11_feedTape 2 = .ok (.bipush 8, 2) := by decide +kernel
theorem dX11_feedTape_4 : decode cX11_feedTape 4 = .ok (.invokestatic 99, 3) := by decide +kernel
theorem dX11_feedTape_7 : decode cX11_feedTape 7 = .ok (.ifCond .ne 6, 3) := by decide +kernel
theorem dX11_feedTape_10 : decode cX11_feedTape 10 = .ok (.bipush (-2), 2) := by decide +kernel
theorem dX11_feedTape_12 : decode cX11_feedTape 12 = .ok (.ireturn, 1) := by decide +kernel
theorem dX11_feedTape_13 : decode cX11_feedTape 13 = .ok (.aload_n 0, 1) := by decide +kernel
theorem dX11_feedTape_14 : decode cX11_feedTape 14 = .ok (.getfield 127, 3) := by decide +kernel
theorem dX11_feedTape_17 : decode cX11_feedTape 17 = .ok (.iload_n 3, 1) := by decide +kernel
theorem dX11_feedTape_18 : decode cX11_feedTape 18 = .ok (.iadd, 1) := by decide +kernel
theorem dX11_feedTape_19 : decode cX11_feedTape 19 = .ok (.sipush 160, 3) := by decide +kernel
theorem dX11_feedTape_22 : decode cX11_feedTape 22 = .ok (.if_icmp .le 6, 3) := by decide +kernel
theorem dX11_feedTape_25 : decode cX11_feedTape 25 = .ok (.bipush (-4), 2) := by decide +kernel
theorem dX11_feedTape_27 : decode cX11_feedTape 27 = .ok (.ireturn, 1) := by decide +kernel
theorem dX11_feedTape_28 : decode cX11_feedTape 28 = .ok (.iload_n 3, 1) := by decide +kernel
theorem dX11_feedTape_29 : decode cX11_feedTape 29 = .ok (.iconst 1, 1) := by decide +kernel
theorem dX11_feedTape_30 : decode cX11_feedTape 30 = .ok (.isub, 1) := by decide +kernel
theorem dX11_feedTape_31 : decode cX11_feedTape 31 = .ok (.istore 4, 2) := by decide +kernel
theorem dX11_feedTape_33 : decode cX11_feedTape 33 = .ok (.iload 4, 2) := by decide +kernel
theorem dX11_feedTape_35 : decode cX11_feedTape 35 = .ok (.ifCond .lt 40, 3) := by decide +kernel
theorem dX11_feedTape_38 : decode cX11_feedTape 38 = .ok (.aload_n 0, 1) := by decide +kernel
theorem dX11_feedTape_39 : decode cX11_feedTape 39 = .ok (.getfield 25, 3) := by decide +kernel
theorem dX11_feedTape_42 : decode cX11_feedTape 42 = .ok (.aload_n 0, 1) := by decide +kernel
theorem dX11_feedTape_43 : decode cX11_feedTape 43 = .ok (.getfield 127, 3) := by decide +kernel
theorem dX11_feedTape_46 : decode cX11_feedTape 46 = .ok (.lload_n 1, 1) := by decide +kernel
theorem dX11_feedTape_47 : decode cX11_feedTape 47 = .ok (.bipush 8, 2) := by decide +kernel
theorem dX11_feedTape_49 : decode cX11_feedTape 49 = .ok (.iload 4, 2) := by decide +kernel
theorem dX11_feedTape_51 : decode cX11_feedTape 51 = .ok (.imul, 1) := by decide +kernel
theorem dX11_feedTape_52 : decode cX11_feedTape 52 = .ok (.lshr, 1) := by decide +kernel
theorem dX11_feedTape_53 : decode cX11_feedTape 53 = .ok (.ldc2_w 130, 3) := by decide +kernel
theorem dX11_feedTape_56 : decode cX11_feedTape 56 = .ok (.land, 1) := by decide +kernel
theorem dX11_feedTape_57 : decode cX11_feedTape 57 = .ok (.l2i, 1) := by decide +kernel
theorem dX11_feedTape_58 : decode cX11_feedTape 58 = .ok (.iastore, 1) := by decide +kernel
theorem dX11_feedTape_59 : decode cX11_feedTape 59 = .ok (.aload_n 0, 1) := by decide +kernel
theorem dX11_feedTape_60 : decode cX11_feedTape 60 = .ok (.dup, 1) := by decide +kernel
theorem dX11_feedTape_61 : decode cX11_feedTape 61 = .ok (.getfield 127, 3) := by decide +kernel
theorem dX11_feedTape_64 : decode cX11_feedTape 64 = .ok (.iconst 1, 1) := by decide +kernel
theorem dX11_feedTape_65 : decode cX11_feedTape 65 = .ok (.iadd, 1) := by decide +kernel
theorem dX11_feedTape_66 : decode cX11_feedTape 66 = .ok (.putfield 127, 3) := by decide +kernel
theorem dX11_feedTape_69 : decode cX11_feedTape 69 = .ok (.iinc 4 (-1), 3) := by decide +kernel
theorem dX11_feedTape_72 : decode cX11_feedTape 72 = .ok (.goto (-39), 3) := by decide +kernel
theorem dX11_feedTape_75 : decode cX11_feedTape 75 = .ok (.aload_n 0, 1) := by decide +kernel
theorem dX11_feedTape_76 : decode cX11_feedTape 76 = .ok (.getfield 127, 3) := by decide +kernel
theorem dX11_feedTape_79 : decode cX11_feedTape 79 = .ok (.ireturn, 1) := by decide +kernel
theorem dX11_letters_0 : decode cX11_letters 0 = .ok (.lconst 0, 1) := by decide +kernel
theorem dX11_letters_1 : decode cX11_letters 1 = .ok (.lstore_n 1, 1) := by decide +kernel
theorem dX11_letters_2 : decode cX11_letters 2 = .ok (.iconst 0, 1) := by decide +kernel
theorem dX11_letters_3 : decode cX11_letters 3 = .ok (.istore_n 3, 1) := by decide +kernel
theorem dX11_letters_4 : decode cX11_letters 4 = .ok (.aload_n 0, 1) := by decide +kernel
theorem dX11_letters_5 : decode cX11_letters 5 = .ok (.getfield 132, 3) := by decide +kernel
theorem dX11_letters_8 : decode cX11_letters 8 = .ok (.aload_n 0, 1) := by decide +kernel
theorem dX11_letters_9 : decode cX11_letters 9 = .ok (.getfield 127, 3) := by decide +kernel
theorem dX11_letters_12 : decode cX11_letters 12 = .ok (.if_icmp .ge 64, 3) := by decide +kernel
theorem dX11_letters_15 : decode cX11_letters 15 = .ok (.aload_n 0, 1) := by decide +kernel
theorem dX11_letters_16 : decode cX11_letters 16 = .ok (.getfield 25, 3) := by decide +kernel
theorem dX11_letters_19 : decode cX11_letters 19 = .ok (.aload_n 0, 1) := by decide +kernel
theorem dX11_letters_20 : decode cX11_letters 20 = .ok (.getfield 132, 3) := by decide +kernel
theorem dX11_letters_23 : decode cX11_letters 23 = .ok (.iaload, 1) := by decide +kernel
theorem dX11_letters_24 : decode cX11_letters 24 = .ok (.bipush 97, 2) := by decide +kernel
theorem dX11_letters_26 : decode cX11_letters 26 = .ok (.bipush 122, 2) := by decide +kernel
theorem dX11_letters_28 : decode cX11_letters 28 = .ok (.invokestatic 99, 3) := by decide +kernel
theorem dX11_letters_31 : decode cX11_letters 31 = .ok (.ifCond .eq 45, 3) := by decide +kernel
theorem dX11_letters_34 : decode cX11_letters 34 = .ok (.iload_n 3, 1) := by decide +kernel
theorem dX11_letters_35 : decode cX11_letters 35 = .ok (.bipush 8, 2) := by decide +kernel
theorem dX11_letters_37 : decode cX11_letters 37 = .ok (.if_icmp .ge 21, 3) := by decide +kernel
theorem dX11_letters_40 : decode cX11_letters 40 = .ok (.lload_n 1, 1) := by decide +kernel
theorem dX11_letters_41 : decode cX11_letters 41 = .ok (.bipush 8, 2) := by decide +kernel
theorem dX11_letters_43 : decode cX11_letters 43 = .ok (.lshl, 1) := by decide +kernel
theorem dX11_letters_44 : decode cX11_letters 44 = .ok (.aload_n 0, 1) := by decide +kernel
theorem dX11_letters_45 : decode cX11_letters 45 = .ok (.getfield 25, 3) := by decide +kernel
theorem dX11_letters_48 : decode cX11_letters 48 = .ok (.aload_n 0, 1) := by decide +kernel
theorem dX11_letters_49 : decode cX11_letters 49 = .ok (.getfield 132, 3) := by decide +kernel
theorem dX11_letters_52 : decode cX11_letters 52 = .ok (.iaload, 1) := by decide +kernel
theorem dX11_letters_53 : decode cX11_letters 53 = .ok (.i2l, 1) := by decide +kernel
theorem dX11_letters_54 : decode cX11_letters 54 = .ok (.lor, 1) := by decide +kernel
theorem dX11_letters_55 : decode cX11_letters 55 = .ok (.goto 4, 3) := by decide +kernel
theorem dX11_letters_58 : decode cX11_letters 58 = .ok (.lload_n 1, 1) := by decide +kernel
theorem dX11_letters_59 : decode cX11_letters 59 = .ok (.lstore_n 1, 1) := by decide +kernel
theorem dX11_letters_60 : decode cX11_letters 60 = .ok (.iinc 3 1, 3) := by decide +kernel
theorem dX11_letters_63 : decode cX11_letters 63 = .ok (.aload_n 0, 1) := by decide +kernel
theorem dX11_letters_64 : decode cX11_letters 64 = .ok (.dup, 1) := by decide +kernel
theorem dX11_letters_65 : decode cX11_letters 65 = .ok (.getfield 132, 3) := by decide +kernel
theorem dX11_letters_68 : decode cX11_letters 68 = .ok (.iconst 1, 1) := by decide +kernel
theorem dX11_letters_69 : decode cX11_letters 69 = .ok (.iadd, 1) := by decide +kernel
theorem dX11_letters_70 : decode cX11_letters 70 = .ok (.putfield 132, 3) := by decide +kernel
theorem dX11_letters_73 : decode cX11_letters 73 = .ok (.goto (-69), 3) := by decide +kernel
theorem dX11_letters_76 : decode cX11_letters 76 = .ok (.iload_n 3, 1) := by decide +kernel
theorem dX11_letters_77 : decode cX11_letters 77 = .ok (.iconst 4, 1) := by decide +kernel
theorem dX11_letters_78 : decode cX11_letters 78 = .ok (.if_icmp .le 7, 3) := by decide +kernel
theorem dX11_letters_81 : decode cX11_letters 81 = .ok (.iconst 0, 1) := by decide +kernel
theorem dX11_letters_82 : decode cX11_letters 82 = .ok (.goto 5, 3) := by decide +kernel
theorem dX11_letters_85 : decode cX11_letters 85 = .ok (.lload_n 1, 1) := by decide +kernel
theorem dX11_letters_86 : decode cX11_letters 86 = .ok (.l2i, 1) := by decide +kernel
theorem dX11_letters_87 : decode cX11_letters 87 = .ok (.ireturn, 1) := by decide +kernel
theorem dX11_next_0 : decode cX11_next 0 = .ok (.aload_n 0, 1) := by decide +kernel
theorem dX11_next_1 : decode cX11_next 1 = .ok (.getfield 132, 3) := by decide +kernel
theorem dX11_next_4 : decode cX11_next 4 = .ok (.aload_n 0, 1) := by decide +kernel
theorem dX11_next_5 : decode cX11_next 5 = .ok (.getfield 127, 3) := by decide +kernel
theorem dX11_next_8 : decode cX11_next 8 = .ok (.if_icmp .ge 44, 3) := by decide +kernel
theorem dX11_next_11 : decode cX11_next 11 = .ok (.aload_n 0, 1) := by decide +kernel
theorem dX11_next_12 : decode cX11_next 12 = .ok (.getfield 25, 3) := by decide +kernel
theorem dX11_next_15 : decode cX11_next 15 = .ok (.aload_n 0, 1) := by decide +kernel
theorem dX11_next_16 : decode cX11_next 16 = .ok (.getfield 132, 3) := by decide +kernel
theorem dX11_next_19 : decode cX11_next 19 = .ok (.iaload, 1) := by decide +kernel
theorem dX11_next_20 : decode cX11_next 20 = .ok (.bipush 32, 2) := by decide +kernel
theorem dX11_next_22 : decode cX11_next 22 = .ok (.if_icmp .eq 17, 3) := by decide +kernel
theorem dX11_next_25 : decode cX11_next 25 = .ok (.aload_n 0, 1) := by decide +kernel
theorem dX11_next_26 : decode cX11_next 26 = .ok (.getfield 25, 3) := by decide +kernel
theorem dX11_next_29 : decode cX11_next 29 = .ok (.aload_n 0, 1) := by decide +kernel
theorem dX11_next_30 : decode cX11_next 30 = .ok (.getfield 132, 3) := by decide +kernel
theorem dX11_next_33 : decode cX11_next 33 = .ok (.iaload, 1) := by decide +kernel
theorem dX11_next_34 : decode cX11_next 34 = .ok (.bipush 10, 2) := by decide +kernel
theorem dX11_next_36 : decode cX11_next 36 = .ok (.if_icmp .ne 16, 3) := by decide +kernel
theorem dX11_next_39 : decode cX11_next 39 = .ok (.aload_n 0, 1) := by decide +kernel
theorem dX11_next_40 : decode cX11_next 40 = .ok (.dup, 1) := by decide +kernel
theorem dX11_next_41 : decode cX11_next 41 = .ok (.getfield 132, 3) := by decide +kernel
theorem dX11_next_44 : decode cX11_next 44 = .ok (.iconst 1, 1) := by decide +kernel
theorem dX11_next_45 : decode cX11_next 45 = .ok (.iadd, 1) := by decide +kernel
theorem dX11_next_46 : decode cX11_next 46 = .ok (.putfield 132, 3) := by decide +kernel
theorem dX11_next_49 : decode cX11_next 49 = .ok (.goto (-49), 3) := by decide +kernel
theorem dX11_next_52 : decode cX11_next 52 = .ok (.aload_n 0, 1) := by decide +kernel
theorem dX11_next_53 : decode cX11_next 53 = .ok (.aload_n 0, 1) := by decide +kernel
theorem dX11_next_54 : decode cX11_next 54 = .ok (.getfield 132, 3) := by decide +kernel
theorem dX11_next_57 : decode cX11_next 57 = .ok (.putfield 135, 3) := by decide +kernel
theorem dX11_next_60 : decode cX11_next 60 = .ok (.aload_n 0, 1) := by decide +kernel
theorem dX11_next_61 : decode cX11_next 61 = .ok (.iconst 0, 1) := by decide +kernel
theorem dX11_next_62 : decode cX11_next 62 = .ok (.putfield 138, 3) := by decide +kernel
theorem dX11_next_65 : decode cX11_next 65 = .ok (.aload_n 0, 1) := by decide +kernel
theorem dX11_next_66 : decode cX11_next 66 = .ok (.iconst 0, 1) := by decide +kernel
theorem dX11_next_67 : decode cX11_next 67 = .ok (.putfield 141, 3) := by decide +kernel
theorem dX11_next_70 : decode cX11_next 70 = .ok (.aload_n 0, 1) := by decide +kernel
theorem dX11_next_71 : decode cX11_next 71 = .ok (.getfield 132, 3) := by decide +kernel
theorem dX11_next_74 : decode cX11_next 74 = .ok (.aload_n 0, 1) := by decide +kernel
theorem dX11_next_75 : decode cX11_next 75 = .ok (.getfield 127, 3) := by decide +kernel
theorem dX11_next_78 : decode cX11_next 78 = .ok (.if_icmp .ne 4, 3) := by decide +kernel
theorem dX11_next_81 : decode cX11_next 81 = .ok (.return_, 1) := by decide +kernel
theorem dX11_next_82 : decode cX11_next 82 = .ok (.aload_n 0, 1) := by decide +kernel
theorem dX11_next_83 : decode cX11_next 83 = .ok (.getfield 25, 3) := by decide +kernel
theorem dX11_next_86 : decode cX11_next 86 = .ok (.aload_n 0, 1) := by decide +kernel
theorem dX11_next_87 : decode cX11_next 87 = .ok (.getfield 132, 3) := by decide +kernel
theorem dX11_next_90 : decode cX11_next 90 = .ok (.iaload, 1) := by decide +kernel
theorem dX11_next_91 : decode cX11_next 91 = .ok (.istore_n 1, 1) := by decide +kernel
theorem dX11_next_92 : decode cX11_next 92 = .ok (.iload_n 1, 1) := by decide +kernel
theorem dX11_next_93 : decode cX11_next 93 = .ok (.bipush 97, 2) := by decide +kernel
theorem dX11_next_95 : decode cX11_next 95 = .ok (.bipush 122, 2) := by decide +kernel
theorem dX11_next_97 : decode cX11_next 97 = .ok (.invokestatic 99, 3) := by decide +kernel
theorem dX11_next_100 : decode cX11_next 100 = .ok (.ifCond .eq 90, 3) := by decide +kernel
theorem dX11_next_103 : decode cX11_next 103 = .ok (.aload_n 0, 1) := by decide +kernel
theorem dX11_next_104 : decode cX11_next 104 = .ok (.invokevirtual 144, 3) := by decide +kernel
theorem dX11_next_107 : decode cX11_next 107 = .ok (.istore_n 2, 1) := by decide +kernel
theorem dX11_next_108 : decode cX11_next 108 = .ok (.iconst 0, 1) := by decide +kernel
theorem dX11_next_109 : decode cX11_next 109 = .ok (.istore_n 3, 1) := by decide +kernel
theorem dX11_next_110 : decode cX11_next 110 = .ok (.iload_n 3, 1) := by decide +kernel
theorem dX11_next_111 : decode cX11_next 111 = .ok (.bipush 14, 2) := by decide +kernel
theorem dX11_next_113 : decode cX11_next 113 = .ok (.if_icmp .ge 19, 3) := by decide +kernel
theorem dX11_next_116 : decode cX11_next 116 = .ok (.aload_n 0, 1) := by decide +kernel
theorem dX11_next_117 : decode cX11_next 117 = .ok (.getfield 77, 3) := by decide +kernel
theorem dX11_next_120 : decode cX11_next 120 = .ok (.iload_n 3, 1) := by decide +kernel
theorem dX11_next_121 : decode cX11_next 121 = .ok (.iaload, 1) := by decide +kernel
theorem dX11_next_122 : decode cX11_next 122 = .ok (.iload_n 2, 1) := by decide +kernel
theorem dX11_next_123 : decode cX11_next 123 = .ok (.if_icmp .eq 9, 3) := by decide +kernel
theorem dX11_next_126 : decode cX11_next 126 = .ok (.iinc 3 1, 3) := by decide +kernel
theorem dX11_next_129 : decode cX11_next 129 = .ok (.goto (-19), 3) := by decide +kernel
theorem dX11_next_132 : decode cX11_next 132 = .ok (.aload_n 0, 1) := by decide +kernel
theorem dX11_next_133 : decode cX11_next 133 = .ok (.iload_n 3, 1) := by decide +kernel
theorem dX11_next_134 : decode cX11_next 134 = .ok (.iconst 3, 1) := by decide +kernel
theorem dX11_next_135 : decode cX11_next 135 = .ok (.if_icmp .ge 7, 3) := by decide +kernel
theorem dX11_next_138 : decode cX11_next 138 = .ok (.iconst 3, 1) := by decide +kernel
theorem dX11_next_139 : decode cX11_next 139 = .ok (.goto 29, 3) := by decide +kernel
theorem dX11_next_142 : decode cX11_next 142 = .ok (.iload_n 3, 1) := by decide +kernel
theorem dX11_next_143 : decode cX11_next 143 = .ok (.bipush 11, 2) := by decide +kernel
theorem dX11_next_145 : decode cX11_next 145 = .ok (.if_icmp .ge 7, 3) := by decide +kernel
theorem dX11_next_148 : decode cX11_next 148 = .ok (.iconst 2, 1) := by decide +kernel
theorem dX11_next_149 : decode cX11_next 149 = .ok (.goto 19, 3) := by decide +kernel
theorem dX11_next_152 : decode cX11_next 152 = .ok (.iload_n 3, 1) := by decide +kernel
theorem dX11_next_153 : decode cX11_next 153 = .ok (.bipush 14, 2) := by decide +kernel
theorem dX11_next_155 : decode cX11_next 155 = .ok (.if_icmp .ne 7, 3) := by decide +kernel
theorem dX11_next_158 : decode cX11_next 158 = .ok (.iconst (-1), 1) := by decide +kernel
theorem dX11_next_159 : decode cX11_next 159 = .ok (.goto 9, 3) := by decide +kernel
theorem dX11_next_162 : decode cX11_next 162 = .ok (.iconst 4, 1) := by decide +kernel
theorem dX11_next_163 : decode cX11_next 163 = .ok (.iload_n 3, 1) := by decide +kernel
theorem dX11_next_164 : decode cX11_next 164 = .ok (.iadd, 1) := by decide +kernel
theorem dX11_next_165 : decode cX11_next 165 = .ok (.bipush 11, 2) := by decide +kernel
theorem dX11_next_167 : decode cX11_next 167 = .ok (.isub, 1) := by decide +kernel
theorem dX11_next_168 : decode cX11_next 168 = .ok (.putfield 138, 3) := by decide +kernel
theorem dX11_next_171 : decode cX11_next 171 = .ok (.aload_n 0, 1) := by decide +kernel
theorem dX11_next_172 : decode cX11_next 172 = .ok (.iload_n 3, 1) := by decide +kernel
theorem dX11_next_173 : decode cX11_next 173 = .ok (.iconst 3, 1) := by decide +kernel
theorem dX11_next_174 : decode cX11_next 174 = .ok (.if_icmp .ge 7, 3) := by decide +kernel
theorem dX11_next_177 : decode cX11_next 177 = .ok (.iload_n 3, 1) := by decide +kernel
theorem dX11_next_178 : decode cX11_next 178 = .ok (.goto 6, 3) := by decide +kernel
theorem dX11_next_181 : decode cX11_next 181 = .ok (.iload_n 3, 1) := by decide +kernel
theorem dX11_next_182 : decode cX11_next 182 = .ok (.iconst 3, 1) := by decide +kernel
theorem dX11_next_183 : decode cX11_next 183 = .ok (.isub, 1) := by decide +kernel
theorem dX11_next_184 : decode cX11_next 184 = .ok (.putfield 141, 3) := by decide +kernel
theorem dX11_next_187 : decode cX11_next 187 = .ok (.goto 189, 3) := by decide +kernel
theorem dX11_next_190 : decode cX11_next 190 = .ok (.iload_n 1, 1) := by decide +kernel
theorem dX11_next_191 : decode cX11_next 191 = .ok (.bipush 48, 2) := by decide +kernel
theorem dX11_next_193 : decode cX11_next 193 = .ok (.bipush 57, 2) := by decide +kernel
theorem dX11_next_195 : decode cX11_next 195 = .ok (.invokestatic 99, 3) := by decide +kernel
theorem dX11_next_198 : decode cX11_next 198 = .ok (.ifCond .eq 101, 3) := by decide +kernel
theorem dX11_next_201 : decode cX11_next 201 = .ok (.iconst 0, 1) := by decide +kernel
theorem dX11_next_202 : decode cX11_next 202 = .ok (.istore_n 2, 1) := by decide +kernel
theorem dX11_next_203 : decode cX11_next 203 = .ok (.aload_n 0, 1) := by decide +kernel
theorem dX11_next_204 : decode cX11_next 204 = .ok (.getfield 132, 3) := by decide +kernel
theorem dX11_next_207 : decode cX11_next 207 = .ok (.aload_n 0, 1) := by decide +kernel
theorem dX11_next_208 : decode cX11_next 208 = .ok (.getfield 127, 3) := by decide +kernel
theorem dX11_next_211 : decode cX11_next 211 = .ok (.if_icmp .ge 71, 3) := by decide +kernel
theorem dX11_next_214 : decode cX11_next 214 = .ok (.aload_n 0, 1) := by decide +kernel
theorem dX11_next_215 : decode cX11_next 215 = .ok (.getfield 25, 3) := by decide +kernel
theorem dX11_next_218 : decode cX11_next 218 = .ok (.aload_n 0, 1) := by decide +kernel
theorem dX11_next_219 : decode cX11_next 219 = .ok (.getfield 132, 3) := by decide +kernel
theorem dX11_next_222 : decode cX11_next 222 = .ok (.iaload, 1) := by decide +kernel
theorem dX11_next_223 : decode cX11_next 223 = .ok (.bipush 48, 2) := by decide +kernel
theorem dX11_next_225 : decode cX11_next 225 = .ok (.bipush 57, 2) := by decide +kernel
theorem dX11_next_227 : decode cX11_next 227 = .ok (.invokestatic 99, 3) := by decide +kernel
theorem dX11_next_230 : decode cX11_next 230 = .ok (.ifCond .eq 52, 3) := by decide +kernel
theorem dX11_next_233 : decode cX11_next 233 = .ok (.aload_n 0, 1) := by decide +kernel
theorem dX11_next_234 : decode cX11_next 234 = .ok (.iload_n 2, 1) := by decide +kernel
theorem dX11_next_235 : decode cX11_next 235 = .ok (.iconst 4, 1) := by decide +kernel
theorem dX11_next_236 : decode cX11_next 236 = .ok (.if_icmp .ge 26, 3) := by decide +kernel
theorem dX11_next_239 : decode cX11_next 239 = .ok (.bipush 10, 2) := by decide +kernel
theorem dX11_next_241 : decode cX11_next 241 = .ok (.aload_n 0, 1) := by decide +kernel
theorem dX11_next_242 : decode cX11_next 242 = .ok (.getfield 141, 3) := by decide +kernel
theorem dX11_next_245 : decode cX11_next 245 = .ok (.imul, 1) := by decide +kernel
theorem dX11_next_246 : decode cX11_next 246 = .ok (.aload_n 0, 1) := by decide +kernel
theorem dX11_next_247 : decode cX11_next 247 = .ok (.getfield 25, 3) := by decide +kernel
theorem dX11_next_250 : decode cX11_next 250 = .ok (.aload_n 0, 1) := by decide +kernel
theorem dX11_next_251 : decode cX11_next 251 = .ok (.getfield 132, 3) := by decide +kernel
theorem dX11_next_254 : decode cX11_next 254 = .ok (.iaload, 1) := by decide +kernel
theorem dX11_next_255 : decode cX11_next 255 = .ok (.iadd, 1) := by decide +kernel
theorem dX11_next_256 : decode cX11_next 256 = .ok (.bipush 48, 2) := by decide +kernel
theorem dX11_next_258 : decode cX11_next 258 = .ok (.isub, 1) := by decide +kernel
theorem dX11_next_259 : decode cX11_next 259 = .ok (.goto 4, 3) := by decide +kernel
theorem dX11_next_262 : decode cX11_next 262 = .ok (.iconst 0, 1) := by decide +kernel
theorem dX11_next_263 : decode cX11_next 263 = .ok (.putfield 141, 3) := by decide +kernel
theorem dX11_next_266 : decode cX11_next 266 = .ok (.iinc 2 1, 3) := by decide +kernel
theorem dX11_next_269 : decode cX11_next 269 = .ok (.aload_n 0, 1) := by decide +kernel
theorem dX11_next_270 : decode cX11_next 270 = .ok (.dup, 1) := by decide +kernel
theorem dX11_next_271 : decode cX11_next 271 = .ok (.getfield 132, 3) := by decide +kernel
theorem dX11_next_274 : decode cX11_next 274 = .ok (.iconst 1, 1) := by decide +kernel
theorem dX11_next_275 : decode cX11_next 275 = .ok (.iadd, 1) := by decide +kernel
theorem dX11_next_276 : decode cX11_next 276 = .ok (.putfield 132, 3) := by decide +kernel
theorem dX11_next_279 : decode cX11_next 279 = .ok (.goto (-76), 3) := by decide +kernel
theorem dX11_next_282 : decode cX11_next 282 = .ok (.aload_n 0, 1) := by decide +kernel
theorem dX11_next_283 : decode cX11_next 283 = .ok (.iload_n 2, 1) := by decide +kernel
theorem dX11_next_284 : decode cX11_next 284 = .ok (.iconst 4, 1) := by decide +kernel
theorem dX11_next_285 : decode cX11_next 285 = .ok (.if_icmp .le 7, 3) := by decide +kernel
theorem dX11_next_288 : decode cX11_next 288 = .ok (.iconst (-1), 1) := by decide +kernel
theorem dX11_next_289 : decode cX11_next 289 = .ok (.goto 4, 3) := by decide +kernel
theorem dX11_next_292 : decode cX11_next 292 = .ok (.iconst 1, 1) := by decide +kernel
theorem dX11_next_293 : decode cX11_next 293 = .ok (.putfield 138, 3) := by decide +kernel
theorem dX11_next_296 : decode cX11_next 296 = .ok (.goto 80, 3) := by decide +kernel
theorem dX11_next_299 : decode cX11_next 299 = .ok (.iload_n 1, 1) := by decide +kernel
theorem dX11_next_300 : decode cX11_next 300 = .ok (.bipush 40, 2) := by decide +kernel
theorem dX11_next_302 : decode cX11_next 302 = .ok (.if_icmp .eq 45, 3) := by decide +kernel
theorem dX11_next_305 : decode cX11_next 305 = .ok (.iload_n 1, 1) := by decide +kernel
theorem dX11_next_306 : decode cX11_next 306 = .ok (.bipush 41, 2) := by decide +kernel
theorem dX11_next_308 : decode cX11_next 308 = .ok (.if_icmp .eq 39, 3) := by decide +kernel
theorem dX11_next_311 : decode cX11_next 311 = .ok (.iload_n 1, 1) := by decide +kernel
theorem dX11_next_312 : decode cX11_next 312 = .ok (.bipush 59, 2) := by decide +kernel
theorem dX11_next_314 : decode cX11_next 314 = .ok (.if_icmp .eq 33, 3) := by decide +kernel
theorem dX11_next_317 : decode cX11_next 317 = .ok (.iload_n 1, 1) := by decide +kernel
theorem dX11_next_318 : decode cX11_next 318 = .ok (.bipush 43, 2) := by decide +kernel
theorem dX11_next_320 : decode cX11_next 320 = .ok (.if_icmp .eq 27, 3) := by decide +kernel
theorem dX11_next_323 : decode cX11_next 323 = .ok (.iload_n 1, 1) := by decide +kernel
theorem dX11_next_324 : decode cX11_next 324 = .ok (.bipush 45, 2) := by decide +kernel
theorem dX11_next_326 : decode cX11_next 326 = .ok (.if_icmp .eq 21, 3) := by decide +kernel
theorem dX11_next_329 : decode cX11_next 329 = .ok (.iload_n 1, 1) := by decide +kernel
theorem dX11_next_330 : decode cX11_next 330 = .ok (.bipush 42, 2) := by decide +kernel
theorem dX11_next_332 : decode cX11_next 332 = .ok (.if_icmp .eq 15, 3) := by decide +kernel
theorem dX11_next_335 : decode cX11_next 335 = .ok (.iload_n 1, 1) := by decide +kernel
theorem dX11_next_336 : decode cX11_next 336 = .ok (.bipush 60, 2) := by decide +kernel
theorem dX11_next_338 : decode cX11_next 338 = .ok (.if_icmp .eq 9, 3) := by decide +kernel
theorem dX11_next_341 : decode cX11_next 341 = .ok (.iload_n 1, 1) := by decide +kernel
theorem dX11_next_342 : decode cX11_next 342 = .ok (.bipush 61, 2) := by decide +kernel
theorem dX11_next_344 : decode cX11_next 344 = .ok (.if_icmp .ne 7, 3) := by decide +kernel
theorem dX11_next_347 : decode cX11_next 347 = .ok (.iconst 1, 1) := by decide +kernel
theorem dX11_next_348 : decode cX11_next 348 = .ok (.goto 4, 3) := by decide +kernel
theorem dX11_next_351 : decode cX11_next 351 = .ok (.iconst 0, 1) := by decide +kernel
theorem dX11_next_352 : decode cX11_next 352 = .ok (.istore_n 2, 1) := by decide +kernel
theorem dX11_next_353 : decode cX11_next 353 = .ok (.aload_n 0, 1) := by decide +kernel
theorem dX11_next_354 : decode cX11_next 354 = .ok (.iload_n 2, 1) := by decide +kernel
theorem dX11_next_355 : decode cX11_next 355 = .ok (.ifCond .eq 7, 3) := by decide +kernel
theorem dX11_next_358 : decode cX11_next 358 = .ok (.iload_n 1, 1) := by decide +kernel
theorem dX11_next_359 : decode cX11_next 359 = .ok (.goto 4, 3) := by decide +kernel
theorem dX11_next_362 : decode cX11_next 362 = .ok (.iconst (-1), 1) := by decide +kernel
theorem dX11_next_363 : decode cX11_next 363 = .ok (.putfield 138, 3) := by decide +kernel
theorem dX11_next_366 : decode cX11_next 366 = .ok (.aload_n 0, 1) := by decide +kernel
theorem dX11_next_367 : decode cX11_next 367 = .ok (.dup, 1) := by decide +kernel
theorem dX11_next_368 : decode cX11_next 368 = .ok (.getfield 132, 3) := by decide +kernel
theorem dX11_next_371 : decode cX11_next 371 = .ok (.iconst 1, 1) := by decide +kernel
theorem dX11_next_372 : decode cX11_next 372 = .ok (.iadd, 1) := by decide +kernel
theorem dX11_next_373 : decode cX11_next 373 = .ok (.putfield 132, 3) := by decide +kernel
theorem dX11_next_376 : decode cX11_next 376 = .ok (.return_, 1) := by decide +kernel
theorem dX11_rank_0 : decode cX11_rank 0 = .ok (.iload_n 0, 1) := by decide +kernel
theorem dX11_rank_1 : decode cX11_rank 1 = .ok (.ifCond .ne 7, 3) := by decide +kernel
theorem dX11_rank_4 : decode cX11_rank 4 = .ok (.iconst 0, 1) := by decide +kernel
theorem dX11_rank_5 : decode cX11_rank 5 = .ok (.goto 66, 3) := by decide +kernel
theorem dX11_rank_8 : decode cX11_rank 8 = .ok (.iload_n 0, 1) := by decide +kernel
theorem dX11_rank_9 : decode cX11_rank 9 = .ok (.bipush 11, 2) := by decide +kernel
theorem dX11_rank_11 : decode cX11_rank 11 = .ok (.if_icmp .ne 7, 3) := by decide +kernel
theorem dX11_rank_14 : decode cX11_rank 14 = .ok (.iconst 1, 1) := by decide +kernel
theorem dX11_rank_15 : decode cX11_rank 15 = .ok (.goto 56, 3) := by decide +kernel
theorem dX11_rank_18 : decode cX11_rank 18 = .ok (.iload_n 0, 1) := by decide +kernel
theorem dX11_rank_19 : decode cX11_rank 19 = .ok (.bipush 12, 2) := by decide +kernel
theorem dX11_rank_21 : decode cX11_rank 21 = .ok (.if_icmp .ne 7, 3) := by decide +kernel
theorem dX11_rank_24 : decode cX11_rank 24 = .ok (.iconst 2, 1) := by decide +kernel
theorem dX11_rank_25 : decode cX11_rank 25 = .ok (.goto 46, 3) := by decide +kernel
theorem dX11_rank_28 : decode cX11_rank 28 = .ok (.iload_n 0, 1) := by decide +kernel
theorem dX11_rank_29 : decode cX11_rank 29 = .ok (.bipush 13, 2) := by decide +kernel
theorem dX11_rank_31 : decode cX11_rank 31 = .ok (.if_icmp .ne 7, 3) := by decide +kernel
theorem dX11_rank_34 : decode cX11_rank 34 = .ok (.iconst 3, 1) := by decide +kernel
theorem dX11_rank_35 : decode cX11_rank 35 = .ok (.goto 36, 3) := by decide +kernel
theorem dX11_rank_38 : decode cX11_rank 38 = .ok (.iload_n 0, 1) := by decide +kernel
theorem dX11_rank_39 : decode cX11_rank 39 = .ok (.bipush 15, 2) := by decide +kernel
theorem dX11_rank_41 : decode cX11_rank 41 = .ok (.if_icmp .gt 7, 3) := by decide +kernel
theorem dX11_rank_44 : decode cX11_rank 44 = .ok (.iconst 4, 1) := by decide +kernel
theorem dX11_rank_45 : decode cX11_rank 45 = .ok (.goto 26, 3) := by decide +kernel
theorem dX11_rank_48 : decode cX11_rank 48 = .ok (.iload_n 0, 1) := by decide +kernel
theorem dX11_rank_49 : decode cX11_rank 49 = .ok (.bipush 17, 2) := by decide +kernel
theorem dX11_rank_51 : decode cX11_rank 51 = .ok (.if_icmp .gt 7, 3) := by decide +kernel
theorem dX11_rank_54 : decode cX11_rank 54 = .ok (.iconst 5, 1) := by decide +kernel
theorem dX11_rank_55 : decode cX11_rank 55 = .ok (.goto 16, 3) := by decide +kernel
theorem dX11_rank_58 : decode cX11_rank 58 = .ok (.iload_n 0, 1) := by decide +kernel
theorem dX11_rank_59 : decode cX11_rank 59 = .ok (.bipush 18, 2) := by decide +kernel
theorem dX11_rank_61 : decode cX11_rank 61 = .ok (.if_icmp .ne 8, 3) := by decide +kernel
theorem dX11_rank_64 : decode cX11_rank 64 = .ok (.bipush 6, 2) := by decide +kernel
theorem dX11_rank_66 : decode cX11_rank 66 = .ok (.goto 5, 3) := by decide +kernel
theorem dX11_rank_69 : decode cX11_rank 69 = .ok (.bipush 7, 2) := by decide +kernel
theorem dX11_rank_71 : decode cX11_rank 71 = .ok (.ireturn, 1) := by decide +kernel
theorem dX11_puts_0 : decode cX11_puts 0 = .ok (.aload_n 0, 1) := by decide +kernel
theorem dX11_puts_1 : decode cX11_puts 1 = .ok (.getfield 28, 3) := by decide +kernel
theorem dX11_puts_4 : decode cX11_puts 4 = .ok (.sipush 200, 3) := by decide +kernel
theorem dX11_puts_7 : decode cX11_puts 7 = .ok (.aload_n 0, 1) := by decide +kernel
theorem dX11_puts_8 : decode cX11_puts 8 = .ok (.getfield 92, 3) := by decide +kernel
theorem dX11_puts_11 : decode cX11_puts 11 = .ok (.imul, 1) := by decide +kernel
theorem dX11_puts_12 : decode cX11_puts 12 = .ok (.aload_n 0, 1) := by decide +kernel
theorem dX11_puts_13 : decode cX11_puts 13 = .ok (.getfield 148, 3) := by decide +kernel
theorem dX11_puts_16 : decode cX11_puts 16 = .ok (.iadd, 1) := by decide +kernel
theorem dX11_puts_17 : decode cX11_puts 17 = .ok (.iload_n 1, 1) := by decide +kernel
theorem dX11_puts_18 : decode cX11_puts 18 = .ok (.iastore, 1) := by decide +kernel
theorem dX11_puts_19 : decode cX11_puts 19 = .ok (.aload_n 0, 1) := by decide +kernel
theorem dX11_puts_20 : decode cX11_puts 20 = .ok (.dup, 1) := by decide +kernel
theorem dX11_puts_21 : decode cX11_puts 21 = .ok (.getfield 148, 3) := by decide +kernel
theorem dX11_puts_24 : decode cX11_puts 24 = .ok (.iconst 1, 1) := by decide +kernel
theorem dX11_puts_25 : decode cX11_puts 25 = .ok (.iadd, 1) := by decide +kernel
theorem dX11_puts_26 : decode cX11_puts 26 = .ok (.putfield 148, 3) := by decide +kernel
theorem dX11_puts_29 : decode cX11_puts 29 = .ok (.return_, 1) := by decide +kernel
theorem dX11_unwinds_0 : decode cX11_unwinds 0 = .ok (.aload_n 0, 1) := by decide +kernel
theorem dX11_unwinds_1 : decode cX11_unwinds 1 = .ok (.getfield 151, 3) := by decide +kernel
theorem dX11_unwinds_4 : decode cX11_unwinds 4 = .ok (.ifCond .le 75, 3) := by decide +kernel
theorem dX11_unwinds_7 : decode cX11_unwinds 7 = .ok (.aload_n 0, 1) := by decide +kernel
theorem dX11_unwinds_8 : decode cX11_unwinds 8 = .ok (.getfield 80, 3) := by decide +kernel
theorem dX11_unwinds_11 : decode cX11_unwinds 11 = .ok (.aload_n 0, 1) := by decide +kernel
theorem dX11_unwinds_12 : decode cX11_unwinds 12 = .ok (.getfield 151, 3) := by decide +kernel
theorem dX11_unwinds_15 : decode cX11_unwinds 15 = .ok (.iconst 1, 1) := by decide +kernel
theorem dX11_unwinds_16 : decode cX11_unwinds 16 = .ok (.isub, 1) := by decide +kernel
theorem dX11_unwinds_17 : decode cX11_unwinds 17 = .ok (.iaload, 1) := by decide +kernel
theorem dX11_unwinds_18 : decode cX11_unwinds 18 = .ok (.invokestatic 154, 3) := by decide +kernel
theorem dX11_unwinds_21 : decode cX11_unwinds 21 = .ok (.iload_n 1, 1) := by decide +kernel
theorem dX11_unwinds_22 : decode cX11_unwinds 22 = .ok (.if_icmp .lt 57, 3) := by decide +kernel
theorem dX11_unwinds_25 : decode cX11_unwinds 25 = .ok (.aload_n 0, 1) := by decide +kernel
theorem dX11_unwinds_26 : decode cX11_unwinds 26 = .ok (.dup, 1) := by decide +kernel
theorem dX11_unwinds_27 : decode cX11_unwinds 27 = .ok (.getfield 151, 3) := by decide +kernel
theorem dX11_unwinds_30 : decode cX11_unwinds 30 = .ok (.iconst 1, 1) := by decide +kernel
theorem dX11_unwinds_31 : decode cX11_unwinds 31 = .ok (.isub, 1) := by decide +kernel
theorem dX11_unwinds_32 : decode cX11_unwinds 32 = .ok (.putfield 151, 3) := by decide +kernel
theorem dX11_unwinds_35 : decode cX11_unwinds 35 = .ok (.aload_n 0, 1) := by decide +kernel
theorem dX11_unwinds_36 : decode cX11_unwinds 36 = .ok (.getfield 80, 3) := by decide +kernel
theorem dX11_unwinds_39 : decode cX11_unwinds 39 = .ok (.aload_n 0, 1) := by decide +kernel
theorem dX11_unwinds_40 : decode cX11_unwinds 40 = .ok (.getfield 151, 3) := by decide +kernel
theorem dX11_unwinds_43 : decode cX11_unwinds 43 = .ok (.iaload, 1) := by decide +kernel
theorem dX11_unwinds_44 : decode cX11_unwinds 44 = .ok (.istore_n 2, 1) := by decide +kernel
theorem dX11_unwinds_45 : decode cX11_unwinds 45 = .ok (.aload_n 0, 1) := by decide +kernel
theorem dX11_unwinds_46 : decode cX11_unwinds 46 = .ok (.dup, 1) := by decide +kernel
theorem dX11_unwinds_47 : decode cX11_unwinds 47 = .ok (.getfield 157, 3) := by decide +kernel
theorem dX11_unwinds_50 : decode cX11_unwinds 50 = .ok (.iload_n 2, 1) := by decide +kernel
theorem dX11_unwinds_51 : decode cX11_unwinds 51 = .ok (.bipush 13, 2) := by decide +kernel
theorem dX11_unwinds_53 : decode cX11_unwinds 53 = .ok (.if_icmp .eq 9, 3) := by decide +kernel
theorem dX11_unwinds_56 : decode cX11_unwinds 56 = .ok (.iload_n 2, 1) := by decide +kernel
theorem dX11_unwinds_57 : decode cX11_unwinds 57 = .ok (.bipush 19, 2) := by decide +kernel
theorem dX11_unwinds_59 : decode cX11_unwinds 59 = .ok (.if_icmp .ne 7, 3) := by decide +kernel
theorem dX11_unwinds_62 : decode cX11_unwinds 62 = .ok (.iconst 1, 1) := by decide +kernel
theorem dX11_unwinds_63 : decode cX11_unwinds 63 = .ok (.goto 4, 3) := by decide +kernel
theorem dX11_unwinds_66 : decode cX11_unwinds 66 = .ok (.iconst 0, 1) := by decide +kernel
theorem dX11_unwinds_67 : decode cX11_unwinds 67 = .ok (.isub, 1) := by decide +kernel
theorem dX11_unwinds_68 : decode cX11_unwinds 68 = .ok (.putfield 157, 3) := by decide +kernel
theorem dX11_unwinds_71 : decode cX11_unwinds 71 = .ok (.aload_n 0, 1) := by decide +kernel
theorem dX11_unwinds_72 : decode cX11_unwinds 72 = .ok (.iload_n 2, 1) := by decide +kernel
theorem dX11_unwinds_73 : decode cX11_unwinds 73 = .ok (.invokevirtual 160, 3) := by decide +kernel
theorem dX11_unwinds_76 : decode cX11_unwinds 76 = .ok (.goto (-76), 3) := by decide +kernel
theorem dX11_unwinds_79 : decode cX11_unwinds 79 = .ok (.return_, 1) := by decide +kernel
theorem dX11_holds_0 : decode cX11_holds 0 = .ok (.aload_n 0, 1) := by decide +kernel
theorem dX11_holds_1 : decode cX11_holds 1 = .ok (.getfield 80, 3) := by decide +kernel
theorem dX11_holds_4 : decode cX11_holds 4 = .ok (.aload_n 0, 1) := by decide +kernel
theorem dX11_holds_5 : decode cX11_holds 5 = .ok (.getfield 151, 3) := by decide +kernel
theorem dX11_holds_8 : decode cX11_holds 8 = .ok (.iload_n 1, 1) := by decide +kernel
theorem dX11_holds_9 : decode cX11_holds 9 = .ok (.iastore, 1) := by decide +kernel
theorem dX11_holds_10 : decode cX11_holds 10 = .ok (.aload_n 0, 1) := by decide +kernel
theorem dX11_holds_11 : decode cX11_holds 11 = .ok (.dup, 1) := by decide +kernel
theorem dX11_holds_12 : decode cX11_holds 12 = .ok (.getfield 151, 3) := by decide +kernel
theorem dX11_holds_15 : decode cX11_holds 15 = .ok (.iconst 1, 1) := by decide +kernel
theorem dX11_holds_16 : decode cX11_holds 16 = .ok (.iadd, 1) := by decide +kernel
theorem dX11_holds_17 : decode cX11_holds 17 = .ok (.putfield 151, 3) := by decide +kernel
theorem dX11_holds_20 : decode cX11_holds 20 = .ok (.return_, 1) := by decide +kernel
theorem dX11_opensOne_0 : decode cX11_opensOne 0 = .ok (.aload_n 0, 1) := by decide +kernel
theorem dX11_opensOne_1 : decode cX11_opensOne 1 = .ok (.getfield 157, 3) := by decide +kernel
theorem dX11_opensOne_4 : decode cX11_opensOne 4 = .ok (.iconst 5, 1) := by decide +kernel
theorem dX11_opensOne_5 : decode cX11_opensOne 5 = .ok (.if_icmp .ne 5, 3) := by decide +kernel
theorem dX11_opensOne_8 : decode cX11_opensOne 8 = .ok (.iconst 0, 1) := by decide +kernel
theorem dX11_opensOne_9 : decode cX11_opensOne 9 = .ok (.ireturn, 1) := by decide +kernel
theorem dX11_opensOne_10 : decode cX11_opensOne 10 = .ok (.aload_n 0, 1) := by decide +kernel
theorem dX11_opensOne_11 : decode cX11_opensOne 11 = .ok (.dup, 1) := by decide +kernel
theorem dX11_opensOne_12 : decode cX11_opensOne 12 = .ok (.getfield 157, 3) := by decide +kernel
theorem dX11_opensOne_15 : decode cX11_opensOne 15 = .ok (.iconst 1, 1) := by decide +kernel
theorem dX11_opensOne_16 : decode cX11_opensOne 16 = .ok (.iadd, 1) := by decide +kernel
theorem dX11_opensOne_17 : decode cX11_opensOne 17 = .ok (.putfield 157, 3) := by decide +kernel
theorem dX11_opensOne_20 : decode cX11_opensOne 20 = .ok (.aload_n 0, 1) := by decide +kernel
theorem dX11_opensOne_21 : decode cX11_opensOne 21 = .ok (.iload_n 1, 1) := by decide +kernel
theorem dX11_opensOne_22 : decode cX11_opensOne 22 = .ok (.invokevirtual 164, 3) := by decide +kernel
theorem dX11_opensOne_25 : decode cX11_opensOne 25 = .ok (.iconst 1, 1) := by decide +kernel
theorem dX11_opensOne_26 : decode cX11_opensOne 26 = .ok (.ireturn, 1) := by decide +kernel
theorem dX11_between_0 : decode cX11_between 0 = .ok (.aload_n 0, 1) := by decide +kernel
theorem dX11_between_1 : decode cX11_between 1 = .ok (.iload_n 1, 1) := by decide +kernel
theorem dX11_between_2 : decode cX11_between 2 = .ok (.invokestatic 154, 3) := by decide +kernel
theorem dX11_between_5 : decode cX11_between 5 = .ok (.iconst 4, 1) := by decide +kernel
theorem dX11_between_6 : decode cX11_between 6 = .ok (.if_icmp .ne 7, 3) := by decide +kernel
theorem dX11_between_9 : decode cX11_between 9 = .ok (.iconst 5, 1) := by decide +kernel
theorem dX11_between_10 : decode cX11_between 10 = .ok (.goto 7, 3) := by decide +kernel
theorem dX11_between_13 : decode cX11_between 13 = .ok (.iload_n 1, 1) := by decide +kernel
theorem dX11_between_14 : decode cX11_between 14 = .ok (.invokestatic 154, 3) := by decide +kernel
theorem dX11_between_17 : decode cX11_between 17 = .ok (.invokevirtual 167, 3) := by decide +kernel
theorem dX11_between_20 : decode cX11_between 20 = .ok (.iload_n 1, 1) := by decide +kernel
theorem dX11_between_21 : decode cX11_between 21 = .ok (.invokestatic 154, 3) := by decide +kernel
theorem dX11_between_24 : decode cX11_between 24 = .ok (.iconst 4, 1) := by decide +kernel
theorem dX11_between_25 : decode cX11_between 25 = .ok (.if_icmp .ne 30, 3) := by decide +kernel
theorem dX11_between_28 : decode cX11_between 28 = .ok (.aload_n 0, 1) := by decide +kernel
theorem dX11_between_29 : decode cX11_between 29 = .ok (.getfield 151, 3) := by decide +kernel
theorem dX11_between_32 : decode cX11_between 32 = .ok (.ifCond .le 23, 3) := by decide +kernel
theorem dX11_between_35 : decode cX11_between 35 = .ok (.aload_n 0, 1) := by decide +kernel
theorem dX11_between_36 : decode cX11_between 36 = .ok (.getfield 80, 3) := by decide +kernel
theorem dX11_between_39 : decode cX11_between 39 = .ok (.aload_n 0, 1) := by decide +kernel
theorem dX11_between_40 : decode cX11_between 40 = .ok (.getfield 151, 3) := by decide +kernel
theorem dX11_between_43 : decode cX11_between 43 = .ok (.iconst 1, 1) := by decide +kernel
theorem dX11_between_44 : decode cX11_between 44 = .ok (.isub, 1) := by decide +kernel
theorem dX11_between_45 : decode cX11_between 45 = .ok (.iaload, 1) := by decide +kernel
theorem dX11_between_46 : decode cX11_between 46 = .ok (.invokestatic 154, 3) := by decide +kernel
theorem dX11_between_49 : decode cX11_between 49 = .ok (.iconst 4, 1) := by decide +kernel
theorem dX11_between_50 : decode cX11_between 50 = .ok (.if_icmp .ne 5, 3) := by decide +kernel
theorem dX11_between_53 : decode cX11_between 53 = .ok (.iconst 0, 1) := by decide +kernel
theorem dX11_between_54 : decode cX11_between 54 = .ok (.ireturn, 1) := by decide +kernel
theorem dX11_between_55 : decode cX11_between 55 = .ok (.aload_n 0, 1) := by decide +kernel
theorem dX11_between_56 : decode cX11_between 56 = .ok (.iload_n 1, 1) := by decide +kernel
theorem dX11_between_57 : decode cX11_between 57 = .ok (.invokevirtual 164, 3) := by decide +kernel
theorem dX11_between_60 : decode cX11_between 60 = .ok (.iconst 1, 1) := by decide +kernel
theorem dX11_between_61 : decode cX11_between 61 = .ok (.ireturn, 1) := by decide +kernel
theorem dX11_signOf_0 : decode cX11_signOf 0 = .ok (.aload_n 0, 1) := by decide +kernel
theorem dX11_signOf_1 : decode cX11_signOf 1 = .ok (.getfield 138, 3) := by decide +kernel
theorem dX11_signOf_4 : decode cX11_signOf 4 = .ok (.iconst 4, 1) := by decide +kernel
theorem dX11_signOf_5 : decode cX11_signOf 5 = .ok (.if_icmp .ne 8, 3) := by decide +kernel
theorem dX11_signOf_8 : decode cX11_signOf 8 = .ok (.bipush 11, 2) := by decide +kernel
theorem dX11_signOf_10 : decode cX11_signOf 10 = .ok (.goto 87, 3) := by decide +kernel
theorem dX11_signOf_13 : decode cX11_signOf 13 = .ok (.aload_n 0, 1) := by decide +kernel
theorem dX11_signOf_14 : decode cX11_signOf 14 = .ok (.getfield 138, 3) := by decide +kernel
theorem dX11_signOf_17 : decode cX11_signOf 17 = .ok (.iconst 5, 1) := by decide +kernel
theorem dX11_signOf_18 : decode cX11_signOf 18 = .ok (.if_icmp .ne 8, 3) := by decide +kernel
theorem dX11_signOf_21 : decode cX11_signOf 21 = .ok (.bipush 12, 2) := by decide +kernel
theorem dX11_signOf_23 : decode cX11_signOf 23 = .ok (.goto 74, 3) := by decide +kernel
theorem dX11_signOf_26 : decode cX11_signOf 26 = .ok (.aload_n 0, 1) := by decide +kernel
theorem dX11_signOf_27 : decode cX11_signOf 27 = .ok (.getfield 138, 3) := by decide +kernel
theorem dX11_signOf_30 : decode cX11_signOf 30 = .ok (.bipush 60, 2) := by decide +kernel
theorem dX11_signOf_32 : decode cX11_signOf 32 = .ok (.if_icmp .ne 8, 3) := by decide +kernel
theorem dX11_signOf_35 : decode cX11_signOf 35 = .ok (.bipush 14, 2) := by decide +kernel
theorem dX11_signOf_37 : decode cX11_signOf 37 = .ok (.goto 60, 3) := by decide +kernel
theorem dX11_signOf_40 : decode cX11_signOf 40 = .ok (.aload_n 0, 1) := by decide +kernel
theorem dX11_signOf_41 : decode cX11_signOf 41 = .ok (.getfield 138, 3) := by decide +kernel
theorem dX11_signOf_44 : decode cX11_signOf 44 = .ok (.bipush 61, 2) := by decide +kernel
theorem dX11_signOf_46 : decode cX11_signOf 46 = .ok (.if_icmp .ne 8, 3) := by decide +kernel
theorem dX11_signOf_49 : decode cX11_signOf 49 = .ok (.bipush 15, 2) := by decide +kernel
theorem dX11_signOf_51 : decode cX11_signOf 51 = .ok (.goto 46, 3) := by decide +kernel
theorem dX11_signOf_54 : decode cX11_signOf 54 = .ok (.aload_n 0, 1) := by decide +kernel
theorem dX11_signOf_55 : decode cX11_signOf 55 = .ok (.getfield 138, 3) := by decide +kernel
theorem dX11_signOf_58 : decode cX11_signOf 58 = .ok (.bipush 43, 2) := by decide +kernel
theorem dX11_signOf_60 : decode cX11_signOf 60 = .ok (.if_icmp .ne 8, 3) := by decide +kernel
theorem dX11_signOf_63 : decode cX11_signOf 63 = .ok (.bipush 16, 2) := by decide +kernel
theorem dX11_signOf_65 : decode cX11_signOf 65 = .ok (.goto 32, 3) := by decide +kernel
theorem dX11_signOf_68 : decode cX11_signOf 68 = .ok (.aload_n 0, 1) := by decide +kernel
theorem dX11_signOf_69 : decode cX11_signOf 69 = .ok (.getfield 138, 3) := by decide +kernel
theorem dX11_signOf_72 : decode cX11_signOf 72 = .ok (.bipush 45, 2) := by decide +kernel
theorem dX11_signOf_74 : decode cX11_signOf 74 = .ok (.if_icmp .ne 8, 3) := by decide +kernel
theorem dX11_signOf_77 : decode cX11_signOf 77 = .ok (.bipush 17, 2) := by decide +kernel
theorem dX11_signOf_79 : decode cX11_signOf 79 = .ok (.goto 18, 3) := by decide +kernel
theorem dX11_signOf_82 : decode cX11_signOf 82 = .ok (.aload_n 0, 1) := by decide +kernel
theorem dX11_signOf_83 : decode cX11_signOf 83 = .ok (.getfield 138, 3) := by decide +kernel
theorem dX11_signOf_86 : decode cX11_signOf 86 = .ok (.bipush 42, 2) := by decide +kernel
theorem dX11_signOf_88 : decode cX11_signOf 88 = .ok (.if_icmp .ne 8, 3) := by decide +kernel
theorem dX11_signOf_91 : decode cX11_signOf 91 = .ok (.bipush 18, 2) := by decide +kernel
theorem dX11_signOf_93 : decode cX11_signOf 93 = .ok (.goto 4, 3) := by decide +kernel
theorem dX11_signOf_96 : decode cX11_signOf 96 = .ok (.iconst (-1), 1) := by decide +kernel
theorem dX11_signOf_97 : decode cX11_signOf 97 = .ok (.ireturn, 1) := by decide +kernel
theorem dX11_eRead_0 : decode cX11_eRead 0 = .ok (.aload_n 0, 1) := by decide +kernel
theorem dX11_eRead_1 : decode cX11_eRead 1 = .ok (.iconst 0, 1) := by decide +kernel
theorem dX11_eRead_2 : decode cX11_eRead 2 = .ok (.putfield 151, 3) := by decide +kernel
theorem dX11_eRead_5 : decode cX11_eRead 5 = .ok (.aload_n 0, 1) := by decide +kernel
theorem dX11_eRead_6 : decode cX11_eRead 6 = .ok (.iconst 0, 1) := by decide +kernel
theorem dX11_eRead_7 : decode cX11_eRead 7 = .ok (.putfield 157, 3) := by decide +kernel
theorem dX11_eRead_10 : decode cX11_eRead 10 = .ok (.iconst 1, 1) := by decide +kernel
theorem dX11_eRead_11 : decode cX11_eRead 11 = .ok (.istore_n 1, 1) := by decide +kernel
theorem dX11_eRead_12 : decode cX11_eRead 12 = .ok (.iconst 1, 1) := by decide +kernel
theorem dX11_eRead_13 : decode cX11_eRead 13 = .ok (.istore_n 2, 1) := by decide +kernel
theorem dX11_eRead_14 : decode cX11_eRead 14 = .ok (.aload_n 0, 1) := by decide +kernel
theorem dX11_eRead_15 : decode cX11_eRead 15 = .ok (.invokevirtual 170, 3) := by decide +kernel
theorem dX11_eRead_18 : decode cX11_eRead 18 = .ok (.iload_n 1, 1) := by decide +kernel
theorem dX11_eRead_19 : decode cX11_eRead 19 = .ok (.ifCond .eq 131, 3) := by decide +kernel
theorem dX11_eRead_22 : decode cX11_eRead 22 = .ok (.aload_n 0, 1) := by decide +kernel
theorem dX11_eRead_23 : decode cX11_eRead 23 = .ok (.getfield 138, 3) := by decide +kernel
theorem dX11_eRead_26 : decode cX11_eRead 26 = .ok (.iconst 1, 1) := by decide +kernel
theorem dX11_eRead_27 : decode cX11_eRead 27 = .ok (.if_icmp .eq 11, 3) := by decide +kernel
theorem dX11_eRead_30 : decode cX11_eRead 30 = .ok (.aload_n 0, 1) := by decide +kernel
theorem dX11_eRead_31 : decode cX11_eRead 31 = .ok (.getfield 138, 3) := by decide +kernel
theorem dX11_eRead_34 : decode cX11_eRead 34 = .ok (.iconst 2, 1) := by decide +kernel
theorem dX11_eRead_35 : decode cX11_eRead 35 = .ok (.if_icmp .ne 40, 3) := by decide +kernel
theorem dX11_eRead_38 : decode cX11_eRead 38 = .ok (.aload_n 0, 1) := by decide +kernel
theorem dX11_eRead_39 : decode cX11_eRead 39 = .ok (.aload_n 0, 1) := by decide +kernel
theorem dX11_eRead_40 : decode cX11_eRead 40 = .ok (.getfield 138, 3) := by decide +kernel
theorem dX11_eRead_43 : decode cX11_eRead 43 = .ok (.iconst 1, 1) := by decide +kernel
theorem dX11_eRead_44 : decode cX11_eRead 44 = .ok (.if_icmp .ne 13, 3) := by decide +kernel
theorem dX11_eRead_47 : decode cX11_eRead 47 = .ok (.ldc 37, 2) := by decide +kernel
theorem dX11_eRead_49 : decode cX11_eRead 49 = .ok (.aload_n 0, 1) := by decide +kernel
theorem dX11_eRead_50 : decode cX11_eRead 50 = .ok (.getfield 141, 3) := by decide +kernel
theorem dX11_eRead_53 : decode cX11_eRead 53 = .ok (.iadd, 1) := by decide +kernel
theorem dX11_eRead_54 : decode cX11_eRead 54 = .ok (.goto 7, 3) := by decide +kernel
theorem dX11_eRead_57 : decode cX11_eRead 57 = .ok (.aload_n 0, 1) := by decide +kernel
theorem dX11_eRead_58 : decode cX11_eRead 58 = .ok (.getfield 141, 3) := by decide +kernel
theorem dX11_eRead_61 : decode cX11_eRead 61 = .ok (.invokevirtual 160, 3) := by decide +kernel
theorem dX11_eRead_64 : decode cX11_eRead 64 = .ok (.aload_n 0, 1) := by decide +kernel
theorem dX11_eRead_65 : decode cX11_eRead 65 = .ok (.bipush 7, 2) := by decide +kernel
theorem dX11_eRead_67 : decode cX11_eRead 67 = .ok (.invokevirtual 167, 3) := by decide +kernel
theorem dX11_eRead_70 : decode cX11_eRead 70 = .ok (.iconst 0, 1) := by decide +kernel
theorem dX11_eRead_71 : decode cX11_eRead 71 = .ok (.istore_n 1, 1) := by decide +kernel
theorem dX11_eRead_72 : decode cX11_eRead 72 = .ok (.goto (-58), 3) := by decide +kernel
theorem dX11_eRead_75 : decode cX11_eRead 75 = .ok (.aload_n 0, 1) := by decide +kernel
theorem dX11_eRead_76 : decode cX11_eRead 76 = .ok (.getfield 138, 3) := by decide +kernel
theorem dX11_eRead_79 : decode cX11_eRead 79 = .ok (.bipush 6, 2) := by decide +kernel
theorem dX11_eRead_81 : decode cX11_eRead 81 = .ok (.if_icmp .ne 18, 3) := by decide +kernel
theorem dX11_eRead_84 : decode cX11_eRead 84 = .ok (.iload_n 2, 1) := by decide +kernel
theorem dX11_eRead_85 : decode cX11_eRead 85 = .ok (.ifCond .eq 14, 3) := by decide +kernel
theorem dX11_eRead_88 : decode cX11_eRead 88 = .ok (.aload_n 0, 1) := by decide +kernel
theorem dX11_eRead_89 : decode cX11_eRead 89 = .ok (.bipush 13, 2) := by decide +kernel
theorem dX11_eRead_91 : decode cX11_eRead 91 = .ok (.invokevirtual 173, 3) := by decide +kernel
theorem dX11_eRead_94 : decode cX11_eRead 94 = .ok (.ifCond .ne (-80), 3) := by decide +kernel
theorem dX11_eRead_97 : decode cX11_eRead 97 = .ok (.iconst 0, 1) := by decide +kernel
theorem dX11_eRead_98 : decode cX11_eRead 98 = .ok (.ireturn, 1) := by decide +kernel
theorem dX11_eRead_99 : decode cX11_eRead 99 = .ok (.aload_n 0, 1) := by decide +kernel
theorem dX11_eRead_100 : decode cX11_eRead 100 = .ok (.getfield 138, 3) := by decide +kernel
theorem dX11_eRead_103 : decode cX11_eRead 103 = .ok (.bipush 45, 2) := by decide +kernel
theorem dX11_eRead_105 : decode cX11_eRead 105 = .ok (.if_icmp .ne 19, 3) := by decide +kernel
theorem dX11_eRead_108 : decode cX11_eRead 108 = .ok (.aload_n 0, 1) := by decide +kernel
theorem dX11_eRead_109 : decode cX11_eRead 109 = .ok (.bipush 19, 2) := by decide +kernel
theorem dX11_eRead_111 : decode cX11_eRead 111 = .ok (.invokevirtual 173, 3) := by decide +kernel
theorem dX11_eRead_114 : decode cX11_eRead 114 = .ok (.ifCond .ne 5, 3) := by decide +kernel
theorem dX11_eRead_117 : decode cX11_eRead 117 = .ok (.iconst 0, 1) := by decide +kernel
theorem dX11_eRead_118 : decode cX11_eRead 118 = .ok (.ireturn, 1) := by decide +kernel
theorem dX11_eRead_119 : decode cX11_eRead 119 = .ok (.iconst 0, 1) := by decide +kernel
theorem dX11_eRead_120 : decode cX11_eRead 120 = .ok (.istore_n 2, 1) := by decide +kernel
theorem dX11_eRead_121 : decode cX11_eRead 121 = .ok (.goto (-107), 3) := by decide +kernel
theorem dX11_eRead_124 : decode cX11_eRead 124 = .ok (.aload_n 0, 1) := by decide +kernel
theorem dX11_eRead_125 : decode cX11_eRead 125 = .ok (.getfield 138, 3) := by decide +kernel
theorem dX11_eRead_128 : decode cX11_eRead 128 = .ok (.bipush 40, 2) := by decide +kernel
theorem dX11_eRead_130 : decode cX11_eRead 130 = .ok (.if_icmp .ne 18, 3) := by decide +kernel
theorem dX11_eRead_133 : decode cX11_eRead 133 = .ok (.aload_n 0, 1) := by decide +kernel
theorem dX11_eRead_134 : decode cX11_eRead 134 = .ok (.iconst 0, 1) := by decide +kernel
theorem dX11_eRead_135 : decode cX11_eRead 135 = .ok (.invokevirtual 173, 3) := by decide +kernel
theorem dX11_eRead_138 : decode cX11_eRead 138 = .ok (.ifCond .ne 5, 3) := by decide +kernel
theorem dX11_eRead_141 : decode cX11_eRead 141 = .ok (.iconst 0, 1) := by decide +kernel
theorem dX11_eRead_142 : decode cX11_eRead 142 = .ok (.ireturn, 1) := by decide +kernel
theorem dX11_eRead_143 : decode cX11_eRead 143 = .ok (.iconst 1, 1) := by decide +kernel
theorem dX11_eRead_144 : decode cX11_eRead 144 = .ok (.istore_n 2, 1) := by decide +kernel
theorem dX11_eRead_145 : decode cX11_eRead 145 = .ok (.goto (-131), 3) := by decide +kernel
theorem dX11_eRead_148 : decode cX11_eRead 148 = .ok (.iconst 0, 1) := by decide +kernel
theorem dX11_eRead_149 : decode cX11_eRead 149 = .ok (.ireturn, 1) := by decide +kernel
theorem dX11_eRead_150 : decode cX11_eRead 150 = .ok (.aload_n 0, 1) := by decide +kernel
theorem dX11_eRead_151 : decode cX11_eRead 151 = .ok (.getfield 138, 3) := by decide +kernel
theorem dX11_eRead_154 : decode cX11_eRead 154 = .ok (.bipush 59, 2) := by decide +kernel
theorem dX11_eRead_156 : decode cX11_eRead 156 = .ok (.if_icmp .ne 21, 3) := by decide +kernel
theorem dX11_eRead_159 : decode cX11_eRead 159 = .ok (.aload_n 0, 1) := by decide +kernel
theorem dX11_eRead_160 : decode cX11_eRead 160 = .ok (.iconst 1, 1) := by decide +kernel
theorem dX11_eRead_161 : decode cX11_eRead 161 = .ok (.invokevirtual 167, 3) := by decide +kernel
theorem dX11_eRead_164 : decode cX11_eRead 164 = .ok (.aload_n 0, 1) := by decide +kernel
theorem dX11_eRead_165 : decode cX11_eRead 165 = .ok (.getfield 151, 3) := by decide +kernel
theorem dX11_eRead_168 : decode cX11_eRead 168 = .ok (.ifCond .ne 7, 3) := by decide +kernel
theorem dX11_eRead_171 : decode cX11_eRead 171 = .ok (.iconst 1, 1) := by decide +kernel
theorem dX11_eRead_172 : decode cX11_eRead 172 = .ok (.goto 4, 3) := by decide +kernel
theorem dX11_eRead_175 : decode cX11_eRead 175 = .ok (.iconst 0, 1) := by decide +kernel
theorem dX11_eRead_176 : decode cX11_eRead 176 = .ok (.ireturn, 1) := by decide +kernel
theorem dX11_eRead_177 : decode cX11_eRead 177 = .ok (.aload_n 0, 1) := by decide +kernel
theorem dX11_eRead_178 : decode cX11_eRead 178 = .ok (.getfield 138, 3) := by decide +kernel
theorem dX11_eRead_181 : decode cX11_eRead 181 = .ok (.bipush 41, 2) := by decide +kernel
theorem dX11_eRead_183 : decode cX11_eRead 183 = .ok (.if_icmp .ne 46, 3) := by decide +kernel
theorem dX11_eRead_186 : decode cX11_eRead 186 = .ok (.aload_n 0, 1) := by decide +kernel
theorem dX11_eRead_187 : decode cX11_eRead 187 = .ok (.iconst 1, 1) := by decide +kernel
theorem dX11_eRead_188 : decode cX11_eRead 188 = .ok (.invokevirtual 167, 3) := by decide +kernel
theorem dX11_eRead_191 : decode cX11_eRead 191 = .ok (.aload_n 0, 1) := by decide +kernel
theorem dX11_eRead_192 : decode cX11_eRead 192 = .ok (.getfield 151, 3) := by decide +kernel
theorem dX11_eRead_195 : decode cX11_eRead 195 = .ok (.ifCond .ne 5, 3) := by decide +kernel
theorem dX11_eRead_198 : decode cX11_eRead 198 = .ok (.iconst 0, 1) := by decide +kernel
theorem dX11_eRead_199 : decode cX11_eRead 199 = .ok (.ireturn, 1) := by decide +kernel
theorem dX11_eRead_200 : decode cX11_eRead 200 = .ok (.aload_n 0, 1) := by decide +kernel
theorem dX11_eRead_201 : decode cX11_eRead 201 = .ok (.dup, 1) := by decide +kernel
theorem dX11_eRead_202 : decode cX11_eRead 202 = .ok (.getfield 151, 3) := by decide +kernel
theorem dX11_eRead_205 : decode cX11_eRead 205 = .ok (.iconst 1, 1) := by decide +kernel
theorem dX11_eRead_206 : decode cX11_eRead 206 = .ok (.isub, 1) := by decide +kernel
theorem dX11_eRead_207 : decode cX11_eRead 207 = .ok (.putfield 151, 3) := by decide +kernel
theorem dX11_eRead_210 : decode cX11_eRead 210 = .ok (.aload_n 0, 1) := by decide +kernel
theorem dX11_eRead_211 : decode cX11_eRead 211 = .ok (.dup, 1) := by decide +kernel
theorem dX11_eRead_212 : decode cX11_eRead 212 = .ok (.getfield 157, 3) := by decide +kernel
theorem dX11_eRead_215 : decode cX11_eRead 215 = .ok (.iconst 1, 1) := by decide +kernel
theorem dX11_eRead_216 : decode cX11_eRead 216 = .ok (.isub, 1) := by decide +kernel
theorem dX11_eRead_217 : decode cX11_eRead 217 = .ok (.putfield 157, 3) := by decide +kernel
theorem dX11_eRead_220 : decode cX11_eRead 220 = .ok (.aload_n 0, 1) := by decide +kernel
theorem dX11_eRead_221 : decode cX11_eRead 221 = .ok (.bipush 7, 2) := by decide +kernel
theorem dX11_eRead_223 : decode cX11_eRead 223 = .ok (.invokevirtual 167, 3) := by decide +kernel
theorem dX11_eRead_226 : decode cX11_eRead 226 = .ok (.goto (-212), 3) := by decide +kernel
theorem dX11_eRead_229 : decode cX11_eRead 229 = .ok (.aload_n 0, 1) := by decide +kernel
theorem dX11_eRead_230 : decode cX11_eRead 230 = .ok (.invokevirtual 176, 3) := by decide +kernel
theorem dX11_eRead_233 : decode cX11_eRead 233 = .ok (.istore_n 3, 1) := by decide +kernel
theorem dX11_eRead_234 : decode cX11_eRead 234 = .ok (.iload_n 3, 1) := by decide +kernel
theorem dX11_eRead_235 : decode cX11_eRead 235 = .ok (.iconst (-1), 1) := by decide +kernel
theorem dX11_eRead_236 : decode cX11_eRead 236 = .ok (.if_icmp .eq 11, 3) := by decide +kernel
theorem dX11_eRead_239 : decode cX11_eRead 239 = .ok (.aload_n 0, 1) := by decide +kernel
theorem dX11_eRead_240 : decode cX11_eRead 240 = .ok (.iload_n 3, 1) := by decide +kernel
theorem dX11_eRead_241 : decode cX11_eRead 241 = .ok (.invokevirtual 179, 3) := by decide +kernel
theorem dX11_eRead_244 : decode cX11_eRead 244 = .ok (.ifCond .ne 5, 3) := by decide +kernel
theorem dX11_eRead_247 : decode cX11_eRead 247 = .ok (.iconst 0, 1) := by decide +kernel
theorem dX11_eRead_248 : decode cX11_eRead 248 = .ok (.ireturn, 1) := by decide +kernel
theorem dX11_eRead_249 : decode cX11_eRead 249 = .ok (.iconst 1, 1) := by decide +kernel
theorem dX11_eRead_250 : decode cX11_eRead 250 = .ok (.istore_n 1, 1) := by decide +kernel
theorem dX11_eRead_251 : decode cX11_eRead 251 = .ok (.iload_n 3, 1) := by decide +kernel
theorem dX11_eRead_252 : decode cX11_eRead 252 = .ok (.bipush 12, 2) := by decide +kernel
theorem dX11_eRead_254 : decode cX11_eRead 254 = .ok (.if_icmp .gt 7, 3) := by decide +kernel
theorem dX11_eRead_257 : decode cX11_eRead 257 = .ok (.iconst 1, 1) := by decide +kernel
theorem dX11_eRead_258 : decode cX11_eRead 258 = .ok (.goto 4, 3) := by decide +kernel
theorem dX11_eRead_261 : decode cX11_eRead 261 = .ok (.iconst 0, 1) := by decide +kernel
theorem dX11_eRead_262 : decode cX11_eRead 262 = .ok (.istore_n 2, 1) := by decide +kernel
theorem dX11_eRead_263 : decode cX11_eRead 263 = .ok (.goto (-249), 3) := by decide +kernel
theorem dX11_text_0 : decode cX11_text 0 = .ok (.aload_n 0, 1) := by decide +kernel
theorem dX11_text_1 : decode cX11_text 1 = .ok (.getfield 92, 3) := by decide +kernel
theorem dX11_text_4 : decode cX11_text 4 = .ok (.bipush 6, 2) := by decide +kernel
theorem dX11_text_6 : decode cX11_text 6 = .ok (.if_icmp .ne 6, 3) := by decide +kernel
theorem dX11_text_9 : decode cX11_text 9 = .ok (.bipush (-4), 2) := by decide +kernel
theorem dX11_text_11 : decode cX11_text 11 = .ok (.ireturn, 1) := by decide +kernel
theorem dX11_text_12 : decode cX11_text 12 = .ok (.aload_n 0, 1) := by decide +kernel
theorem dX11_text_13 : decode cX11_text 13 = .ok (.iconst 0, 1) := by decide +kernel
theorem dX11_text_14 : decode cX11_text 14 = .ok (.putfield 132, 3) := by decide +kernel
theorem dX11_text_17 : decode cX11_text 17 = .ok (.aload_n 0, 1) := by decide +kernel
theorem dX11_text_18 : decode cX11_text 18 = .ok (.iconst 0, 1) := by decide +kernel
theorem dX11_text_19 : decode cX11_text 19 = .ok (.putfield 148, 3) := by decide +kernel
theorem dX11_text_22 : decode cX11_text 22 = .ok (.iconst 1, 1) := by decide +kernel
theorem dX11_text_23 : decode cX11_text 23 = .ok (.istore_n 1, 1) := by decide +kernel
theorem dX11_text_24 : decode cX11_text 24 = .ok (.iconst 0, 1) := by decide +kernel
theorem dX11_text_25 : decode cX11_text 25 = .ok (.istore_n 2, 1) := by decide +kernel
theorem dX11_text_26 : decode cX11_text 26 = .ok (.iload_n 2, 1) := by decide +kernel
theorem dX11_text_27 : decode cX11_text 27 = .ok (.iconst 3, 1) := by decide +kernel
theorem dX11_text_28 : decode cX11_text 28 = .ok (.if_icmp .ge 73, 3) := by decide +kernel
theorem dX11_text_31 : decode cX11_text 31 = .ok (.iload_n 1, 1) := by decide +kernel
theorem dX11_text_32 : decode cX11_text 32 = .ok (.ifCond .eq 69, 3) := by decide +kernel
theorem dX11_text_35 : decode cX11_text 35 = .ok (.aload_n 0, 1) := by decide +kernel
theorem dX11_text_36 : decode cX11_text 36 = .ok (.invokevirtual 170, 3) := by decide +kernel
theorem dX11_text_39 : decode cX11_text 39 = .ok (.aload_n 0, 1) := by decide +kernel
theorem dX11_text_40 : decode cX11_text 40 = .ok (.getfield 138, 3) := by decide +kernel
theorem dX11_text_43 : decode cX11_text 43 = .ok (.iconst 3, 1) := by decide +kernel
theorem dX11_text_44 : decode cX11_text 44 = .ok (.if_icmp .ne 15, 3) := by decide +kernel
theorem dX11_text_47 : decode cX11_text 47 = .ok (.aload_n 0, 1) := by decide +kernel
theorem dX11_text_48 : decode cX11_text 48 = .ok (.getfield 141, 3) := by decide +kernel
theorem dX11_text_51 : decode cX11_text 51 = .ok (.iload_n 2, 1) := by decide +kernel
theorem dX11_text_52 : decode cX11_text 52 = .ok (.if_icmp .ne 7, 3) := by decide +kernel
theorem dX11_text_55 : decode cX11_text 55 = .ok (.iconst 1, 1) := by decide +kernel
theorem dX11_text_56 : decode cX11_text 56 = .ok (.goto 4, 3) := by decide +kernel
theorem dX11_text_59 : decode cX11_text 59 = .ok (.iconst 0, 1) := by decide +kernel
theorem dX11_text_60 : decode cX11_text 60 = .ok (.istore_n 1, 1) := by decide +kernel
theorem dX11_text_61 : decode cX11_text 61 = .ok (.aload_n 0, 1) := by decide +kernel
theorem dX11_text_62 : decode cX11_text 62 = .ok (.getfield 31, 3) := by decide +kernel
theorem dX11_text_65 : decode cX11_text 65 = .ok (.iconst 4, 1) := by decide +kernel
theorem dX11_text_66 : decode cX11_text 66 = .ok (.aload_n 0, 1) := by decide +kernel
theorem dX11_text_67 : decode cX11_text 67 = .ok (.getfield 92, 3) := by decide +kernel
theorem dX11_text_70 : decode cX11_text 70 = .ok (.imul, 1) := by decide +kernel
theorem dX11_text_71 : decode cX11_text 71 = .ok (.iload_n 2, 1) := by decide +kernel
theorem dX11_text_72 : decode cX11_text 72 = .ok (.iadd, 1) := by decide +kernel
theorem dX11_text_73 : decode cX11_text 73 = .ok (.aload_n 0, 1) := by decide +kernel
theorem dX11_text_74 : decode cX11_text 74 = .ok (.getfield 148, 3) := by decide +kernel
theorem dX11_text_77 : decode cX11_text 77 = .ok (.iastore, 1) := by decide +kernel
theorem dX11_text_78 : decode cX11_text 78 = .ok (.iload_n 1, 1) := by decide +kernel
theorem dX11_text_79 : decode cX11_text 79 = .ok (.ifCond .eq 14, 3) := by decide +kernel
theorem dX11_text_82 : decode cX11_text 82 = .ok (.aload_n 0, 1) := by decide +kernel
theorem dX11_text_83 : decode cX11_text 83 = .ok (.invokevirtual 182, 3) := by decide +kernel
theorem dX11_text_86 : decode cX11_text 86 = .ok (.ifCond .eq 7, 3) := by decide +kernel
theorem dX11_text_89 : decode cX11_text 89 = .ok (.iconst 1, 1) := by decide +kernel
theorem dX11_text_90 : decode cX11_text 90 = .ok (.goto 4, 3) := by decide +kernel
theorem dX11_text_93 : decode cX11_text 93 = .ok (.iconst 0, 1) := by decide +kernel
theorem dX11_text_94 : decode cX11_text 94 = .ok (.istore_n 1, 1) := by decide +kernel
theorem dX11_text_95 : decode cX11_text 95 = .ok (.iinc 2 1, 3) := by decide +kernel
theorem dX11_text_98 : decode cX11_text 98 = .ok (.goto (-72), 3) := by decide +kernel
theorem dX11_text_101 : decode cX11_text 101 = .ok (.iload_n 1, 1) := by decide +kernel
theorem dX11_text_102 : decode cX11_text 102 = .ok (.ifCond .eq 20, 3) := by decide +kernel
theorem dX11_text_105 : decode cX11_text 105 = .ok (.aload_n 0, 1) := by decide +kernel
theorem dX11_text_106 : decode cX11_text 106 = .ok (.invokevirtual 170, 3) := by decide +kernel
theorem dX11_text_109 : decode cX11_text 109 = .ok (.aload_n 0, 1) := by decide +kernel
theorem dX11_text_110 : decode cX11_text 110 = .ok (.getfield 138, 3) := by decide +kernel
theorem dX11_text_113 : decode cX11_text 113 = .ok (.ifCond .ne 7, 3) := by decide +kernel
theorem dX11_text_116 : decode cX11_text 116 = .ok (.iconst 1, 1) := by decide +kernel
theorem dX11_text_117 : decode cX11_text 117 = .ok (.goto 4, 3) := by decide +kernel
theorem dX11_text_120 : decode cX11_text 120 = .ok (.iconst 0, 1) := by decide +kernel
theorem dX11_text_121 : decode cX11_text 121 = .ok (.istore_n 1, 1) := by decide +kernel
theorem dX11_text_122 : decode cX11_text 122 = .ok (.aload_n 0, 1) := by decide +kernel
theorem dX11_text_123 : decode cX11_text 123 = .ok (.getfield 31, 3) := by decide +kernel
theorem dX11_text_126 : decode cX11_text 126 = .ok (.iconst 4, 1) := by decide +kernel
theorem dX11_text_127 : decode cX11_text 127 = .ok (.aload_n 0, 1) := by decide +kernel
theorem dX11_text_128 : decode cX11_text 128 = .ok (.getfield 92, 3) := by decide +kernel
theorem dX11_text_131 : decode cX11_text 131 = .ok (.imul, 1) := by decide +kernel
theorem dX11_text_132 : decode cX11_text 132 = .ok (.iconst 3, 1) := by decide +kernel
theorem dX11_text_133 : decode cX11_text 133 = .ok (.iadd, 1) := by decide +kernel
theorem dX11_text_134 : decode cX11_text 134 = .ok (.aload_n 0, 1) := by decide +kernel
theorem dX11_text_135 : decode cX11_text 135 = .ok (.getfield 148, 3) := by decide +kernel
theorem dX11_text_138 : decode cX11_text 138 = .ok (.iastore, 1) := by decide +kernel
theorem dX11_text_139 : decode cX11_text 139 = .ok (.aload_n 0, 1) := by decide +kernel
theorem dX11_text_140 : decode cX11_text 140 = .ok (.iconst 0, 1) := by decide +kernel
theorem dX11_text_141 : decode cX11_text 141 = .ok (.putfield 127, 3) := by decide +kernel
theorem dX11_text_144 : decode cX11_text 144 = .ok (.iload_n 1, 1) := by decide +kernel
theorem dX11_text_145 : decode cX11_text 145 = .ok (.ifCond .ne 11, 3) := by decide +kernel
theorem dX11_text_148 : decode cX11_text 148 = .ok (.bipush (-100), 2) := by decide +kernel
theorem dX11_text_150 : decode cX11_text 150 = .ok (.aload_n 0, 1) := by decide +kernel
theorem dX11_text_151 : decode cX11_text 151 = .ok (.getfield 135, 3) := by decide +kernel
theorem dX11_text_154 : decode cX11_text 154 = .ok (.isub, 1) := by decide +kernel
theorem dX11_text_155 : decode cX11_text 155 = .ok (.ireturn, 1) := by decide +kernel
theorem dX11_text_156 : decode cX11_text 156 = .ok (.aload_n 0, 1) := by decide +kernel
theorem dX11_text_157 : decode cX11_text 157 = .ok (.dup, 1) := by decide +kernel
theorem dX11_text_158 : decode cX11_text 158 = .ok (.getfield 92, 3) := by decide +kernel
theorem dX11_text_161 : decode cX11_text 161 = .ok (.iconst 1, 1) := by decide +kernel
theorem dX11_text_162 : decode cX11_text 162 = .ok (.iadd, 1) := by decide +kernel
theorem dX11_text_163 : decode cX11_text 163 = .ok (.putfield 92, 3) := by decide +kernel
theorem dX11_text_166 : decode cX11_text 166 = .ok (.aload_n 0, 1) := by decide +kernel
theorem dX11_text_167 : decode cX11_text 167 = .ok (.getfield 92, 3) := by decide +kernel
theorem dX11_text_170 : decode cX11_text 170 = .ok (.iconst 1, 1) := by decide +kernel
theorem dX11_text_171 : decode cX11_text 171 = .ok (.isub, 1) := by decide +kernel
theorem dX11_text_172 : decode cX11_text 172 = .ok (.ireturn, 1) := by decide +kernel
theorem dX11_force_0 : decode cX11_force 0 = .ok (.iload_n 1, 1) := by decide +kernel
theorem dX11_force_1 : decode cX11_force 1 = .ok (.iconst 0, 1) := by decide +kernel
theorem dX11_force_2 : decode cX11_force 2 = .ok (.aload_n 0, 1) := by decide +kernel
theorem dX11_force_3 : decode cX11_force 3 = .ok (.getfield 92, 3) := by decide +kernel
theorem dX11_force_6 : decode cX11_force 6 = .ok (.iconst 1, 1) := by decide +kernel
theorem dX11_force_7 : decode cX11_force 7 = .ok (.isub, 1) := by decide +kernel
theorem dX11_force_8 : decode cX11_force 8 = .ok (.invokestatic 99, 3) := by decide +kernel
theorem dX11_force_11 : decode cX11_force 11 = .ok (.ifCond .ne 6, 3) := by decide +kernel
theorem dX11_force_14 : decode cX11_force 14 = .ok (.bipush (-2), 2) := by decide +kernel
theorem dX11_force_16 : decode cX11_force 16 = .ok (.ireturn, 1) := by decide +kernel
theorem dX11_force_17 : decode cX11_force 17 = .ok (.aload_n 0, 1) := by decide +kernel
theorem dX11_force_18 : decode cX11_force 18 = .ok (.getfield 186, 3) := by decide +kernel
theorem dX11_force_21 : decode cX11_force 21 = .ok (.istore_n 2, 1) := by decide +kernel
theorem dX11_force_22 : decode cX11_force 22 = .ok (.aload_n 0, 1) := by decide +kernel
theorem dX11_force_23 : decode cX11_force 23 = .ok (.iload_n 1, 1) := by decide +kernel
theorem dX11_force_24 : decode cX11_force 24 = .ok (.putfield 186, 3) := by decide +kernel
theorem dX11_force_27 : decode cX11_force 27 = .ok (.iload_n 2, 1) := by decide +kernel
theorem dX11_force_28 : decode cX11_force 28 = .ok (.ireturn, 1) := by decide +kernel
theorem dX11_bagsTo_0 : decode cX11_bagsTo 0 = .ok (.iconst 0, 1) := by decide +kernel
theorem dX11_bagsTo_1 : decode cX11_bagsTo 1 = .ok (.istore_n 2, 1) := by decide +kernel
theorem dX11_bagsTo_2 : decode cX11_bagsTo 2 = .ok (.iconst 0, 1) := by decide +kernel
theorem dX11_bagsTo_3 : decode cX11_bagsTo 3 = .ok (.istore_n 3, 1) := by decide +kernel
theorem dX11_bagsTo_4 : decode cX11_bagsTo 4 = .ok (.iload_n 3, 1) := by decide +kernel
theorem dX11_bagsTo_5 : decode cX11_bagsTo 5 = .ok (.aload_n 0, 1) := by decide +kernel
theorem dX11_bagsTo_6 : decode cX11_bagsTo 6 = .ok (.getfield 124, 3) := by decide +kernel
theorem dX11_bagsTo_9 : decode cX11_bagsTo 9 = .ok (.if_icmp .ge 55, 3) := by decide +kernel
theorem dX11_bagsTo_12 : decode cX11_bagsTo 12 = .ok (.iload_n 2, 1) := by decide +kernel
theorem dX11_bagsTo_13 : decode cX11_bagsTo 13 = .ok (.aload_n 0, 1) := by decide +kernel
theorem dX11_bagsTo_14 : decode cX11_bagsTo 14 = .ok (.getfield 7, 3) := by decide +kernel
theorem dX11_bagsTo_17 : decode cX11_bagsTo 17 = .ok (.sipush 360, 3) := by decide +kernel
theorem dX11_bagsTo_20 : decode cX11_bagsTo 20 = .ok (.bipush 6, 2) := by decide +kernel
theorem dX11_bagsTo_22 : decode cX11_bagsTo 22 = .ok (.iload_n 3, 1) := by decide +kernel
theorem dX11_bagsTo_23 : decode cX11_bagsTo 23 = .ok (.imul, 1) := by decide +kernel
theorem dX11_bagsTo_24 : decode cX11_bagsTo 24 = .ok (.iadd, 1) := by decide +kernel
theorem dX11_bagsTo_25 : decode cX11_bagsTo 25 = .ok (.iconst 1, 1) := by decide +kernel
theorem dX11_bagsTo_26 : decode cX11_bagsTo 26 = .ok (.iadd, 1) := by decide +kernel
theorem dX11_bagsTo_27 : decode cX11_bagsTo 27 = .ok (.iaload, 1) := by decide +kernel
theorem dX11_bagsTo_28 : decode cX11_bagsTo 28 = .ok (.iload_n 1, 1) := by decide +kernel
theorem dX11_bagsTo_29 : decode cX11_bagsTo 29 = .ok (.if_icmp .ne 26, 3) := by decide +kernel
theorem dX11_bagsTo_32 : decode cX11_bagsTo 32 = .ok (.aload_n 0, 1) := by decide +kernel
theorem dX11_bagsTo_33 : decode cX11_bagsTo 33 = .ok (.getfield 7, 3) := by decide +kernel
theorem dX11_bagsTo_36 : decode cX11_bagsTo 36 = .ok (.sipush 360, 3) := by decide +kernel
theorem dX11_bagsTo_39 : decode cX11_bagsTo 39 = .ok (.bipush 6, 2) := by decide +kernel
theorem dX11_bagsTo_41 : decode cX11_bagsTo 41 = .ok (.iload_n 3, 1) := by decide +kernel
theorem dX11_bagsTo_42 : decode cX11_bagsTo 42 = .ok (.imul, 1) := by decide +kernel
theorem dX11_bagsTo_43 : decode cX11_bagsTo 43 = .ok (.iadd, 1) := by decide +kernel
theorem dX11_bagsTo_44 : decode cX11_bagsTo 44 = .ok (.iconst 4, 1) := by decide +kernel
theorem dX11_bagsTo_45 : decode cX11_bagsTo 45 = .ok (.iadd, 1) := by decide +kernel
theorem dX11_bagsTo_46 : decode cX11_bagsTo 46 = .ok (.iaload, 1) := by decide +kernel
theorem dX11_bagsTo_47 : decode cX11_bagsTo 47 = .ok (.iconst 1, 1) := by decide +kernel
theorem dX11_bagsTo_48 : decode cX11_bagsTo 48 = .ok (.if_icmp .gt 7, 3) := by decide +kernel
theorem dX11_bagsTo_51 : decode cX11_bagsTo 51 = .ok (.iconst 1, 1) := by decide +kernel
theorem dX11_bagsTo_52 : decode cX11_bagsTo 52 = .ok (.goto 4, 3) := by decide +kernel
theorem dX11_bagsTo_55 : decode cX11_bagsTo 55 = .ok (.iconst 0, 1) := by decide +kernel
theorem dX11_bagsTo_56 : decode cX11_bagsTo 56 = .ok (.iadd, 1) := by decide +kernel
theorem dX11_bagsTo_57 : decode cX11_bagsTo 57 = .ok (.istore_n 2, 1) := by decide +kernel
theorem dX11_bagsTo_58 : decode cX11_bagsTo 58 = .ok (.iinc 3 1, 3) := by decide +kernel
theorem dX11_bagsTo_61 : decode cX11_bagsTo 61 = .ok (.goto (-57), 3) := by decide +kernel
theorem dX11_bagsTo_64 : decode cX11_bagsTo 64 = .ok (.iload_n 2, 1) := by decide +kernel
theorem dX11_bagsTo_65 : decode cX11_bagsTo 65 = .ok (.ireturn, 1) := by decide +kernel
theorem dX11_named_0 : decode cX11_named 0 = .ok (.iload_n 1, 1) := by decide +kernel
theorem dX11_named_1 : decode cX11_named 1 = .ok (.tableswitch 138 0 6 #[43, 60, 97, 104, 121, 123, 132], 43) := by decide +kernel
theorem dX11_named_44 : decode cX11_named 44 = .ok (.aload_n 0, 1) := by decide +kernel
theorem dX11_named_45 : decode cX11_named 45 = .ok (.iload_n 2, 1) := by decide +kernel
theorem dX11_named_46 : decode cX11_named 46 = .ok (.bipush 6, 2) := by decide +kernel
theorem dX11_named_48 : decode cX11_named 48 = .ok (.invokevirtual 106, 3) := by decide +kernel
theorem dX11_named_51 : decode cX11_named 51 = .ok (.iconst 1, 1) := by decide +kernel
theorem dX11_named_52 : decode cX11_named 52 = .ok (.if_icmp .ne 7, 3) := by decide +kernel
theorem dX11_named_55 : decode cX11_named 55 = .ok (.iconst 1, 1) := by decide +kernel
theorem dX11_named_56 : decode cX11_named 56 = .ok (.goto 4, 3) := by decide +kernel
theorem dX11_named_59 : decode cX11_named 59 = .ok (.iconst 0, 1) := by decide +kernel
theorem dX11_named_60 : decode cX11_named 60 = .ok (.ireturn, 1) := by decide +kernel
theorem dX11_named_61 : decode cX11_named 61 = .ok (.aload_n 0, 1) := by decide +kernel
theorem dX11_named_62 : decode cX11_named 62 = .ok (.getfield 7, 3) := by decide +kernel
theorem dX11_named_65 : decode cX11_named 65 = .ok (.sipush 480, 3) := by decide +kernel
theorem dX11_named_68 : decode cX11_named 68 = .ok (.iaload, 1) := by decide +kernel
theorem dX11_named_69 : decode cX11_named 69 = .ok (.aload_n 0, 1) := by decide +kernel
theorem dX11_named_70 : decode cX11_named 70 = .ok (.iload_n 2, 1) := by decide +kernel
theorem dX11_named_71 : decode cX11_named 71 = .ok (.iconst 2, 1) := by decide +kernel
theorem dX11_named_72 : decode cX11_named 72 = .ok (.invokevirtual 106, 3) := by decide +kernel
theorem dX11_named_75 : decode cX11_named 75 = .ok (.if_icmp .le 21, 3) := by decide +kernel
theorem dX11_named_78 : decode cX11_named 78 = .ok (.aload_n 0, 1) := by decide +kernel
theorem dX11_named_79 : decode cX11_named 79 = .ok (.getfield 7, 3) := by decide +kernel
theorem dX11_named_82 : decode cX11_named 82 = .ok (.sipush 480, 3) := by decide +kernel
theorem dX11_named_85 : decode cX11_named 85 = .ok (.iaload, 1) := by decide +kernel
theorem dX11_named_86 : decode cX11_named 86 = .ok (.aload_n 0, 1) := by decide +kernel
theorem dX11_named_87 : decode cX11_named 87 = .ok (.iload_n 2, 1) := by decide +kernel
theorem dX11_named_88 : decode cX11_named 88 = .ok (.iconst 2, 1) := by decide +kernel
theorem dX11_named_89 : decode cX11_named 89 = .ok (.invokevirtual 106, 3) := by decide +kernel
theorem dX11_named_92 : decode cX11_named 92 = .ok (.isub, 1) := by decide +kernel
theorem dX11_named_93 : decode cX11_named 93 = .ok (.goto 4, 3) := by decide +kernel
theorem dX11_named_96 : decode cX11_named 96 = .ok (.iconst 0, 1) := by decide +kernel
theorem dX11_named_97 : decode cX11_named 97 = .ok (.ireturn, 1) := by decide +kernel
theorem dX11_named_98 : decode cX11_named 98 = .ok (.aload_n 0, 1) := by decide +kernel
theorem dX11_named_99 : decode cX11_named 99 = .ok (.iload_n 2, 1) := by decide +kernel
theorem dX11_named_100 : decode cX11_named 100 = .ok (.iconst 0, 1) := by decide +kernel
theorem dX11_named_101 : decode cX11_named 101 = .ok (.invokevirtual 106, 3) := by decide +kernel
theorem dX11_named_104 : decode cX11_named 104 = .ok (.ireturn, 1) := by decide +kernel
theorem dX11_named_105 : decode cX11_named 105 = .ok (.aload_n 0, 1) := by decide +kernel
theorem dX11_named_106 : decode cX11_named 106 = .ok (.getfield 7, 3) := by decide +kernel
theorem dX11_named_109 : decode cX11_named 109 = .ok (.sipush 480, 3) := by decide +kernel
theorem dX11_named_112 : decode cX11_named 112 = .ok (.iaload, 1) := by decide +kernel
theorem dX11_named_113 : decode cX11_named 113 = .ok (.aload_n 0, 1) := by decide +kernel
theorem dX11_named_114 : decode cX11_named 114 = .ok (.iload_n 2, 1) := by decide +kernel
theorem dX11_named_115 : decode cX11_named 115 = .ok (.bipush 7, 2) := by decide +kernel
theorem dX11_named_117 : decode cX11_named 117 = .ok (.invokevirtual 106, 3) := by decide +kernel
theorem dX11_named_120 : decode cX11_named 120 = .ok (.isub, 1) := by decide +kernel
theorem dX11_named_121 : decode cX11_named 121 = .ok (.ireturn, 1) := by decide +kernel
theorem dX11_named_122 : decode cX11_named 122 = .ok (.iload_n 3, 1) := by decide +kernel
theorem dX11_named_123 : decode cX11_named 123 = .ok (.ireturn, 1) := by decide +kernel
theorem dX11_named_124 : decode cX11_named 124 = .ok (.aload_n 0, 1) := by decide +kernel
theorem dX11_named_125 : decode cX11_named 125 = .ok (.getfield 7, 3) := by decide +kernel
theorem dX11_named_128 : decode cX11_named 128 = .ok (.sipush 481, 3) := by decide +kernel
theorem dX11_named_131 : decode cX11_named 131 = .ok (.iaload, 1) := by decide +kernel
theorem dX11_named_132 : decode cX11_named 132 = .ok (.ireturn, 1) := by decide +kernel
theorem dX11_named_133 : decode cX11_named 133 = .ok (.aload_n 0, 1) := by decide +kernel
theorem dX11_named_134 : decode cX11_named 134 = .ok (.iload_n 2, 1) := by decide +kernel
theorem dX11_named_135 : decode cX11_named 135 = .ok (.invokevirtual 189, 3) := by decide +kernel
theorem dX11_named_138 : decode cX11_named 138 = .ok (.ireturn, 1) := by decide +kernel
theorem dX11_named_139 : decode cX11_named 139 = .ok (.aload_n 0, 1) := by decide +kernel
theorem dX11_named_140 : decode cX11_named 140 = .ok (.iload_n 2, 1) := by decide +kernel
theorem dX11_named_141 : decode cX11_named 141 = .ok (.invokevirtual 192, 3) := by decide +kernel
theorem dX11_named_144 : decode cX11_named 144 = .ok (.aload_n 0, 1) := by decide +kernel
theorem dX11_named_145 : decode cX11_named 145 = .ok (.getfield 7, 3) := by decide +kernel
theorem dX11_named_148 : decode cX11_named 148 = .ok (.sipush 480, 3) := by decide +kernel
theorem dX11_named_151 : decode cX11_named 151 = .ok (.iaload, 1) := by decide +kernel
theorem dX11_named_152 : decode cX11_named 152 = .ok (.isub, 1) := by decide +kernel
theorem dX11_named_153 : decode cX11_named 153 = .ok (.ireturn, 1) := by decide +kernel
section WK
variable {p : Program} {l : Launch} {e : Env} {s : State} {m : MethodId} {args : Array Value} {below : List Frame} {meth : Method} {c : Code}
set_option maxHeartbeats 4000000 in
set_option maxRecDepth 20000 in
theorem kX11_in (l : Launch) {k : En} {S : Nat → Prop} (hS : ∀ t, S t) {g0 : Mm} {a0 : Int32} {a1 : Int32} {a2 : Int32} {res : Int32} (hf : fX11_in g0 a0 a1 a2 = some res) : Mt l yX11_in cX11_in 3 (some .boolean) (RmN 0 0) YR S k [.int a0, .int a1, .int a2] g0 (some (.int res)) g0 := by
  refine Mt.of (by decide) (Nat.le_of_ble_eq_true rfl) ?_
  intro p e s m args below meth c ls X _ h hl
  have X : Cx YR S k p s m args meth c cX11_in 3 (some .boolean) RX11 := X
  have hl : lv_has ls 3 [(0, .int a0), (1, .int a1), (2, .int a2)] := hl
  have JR : res = res := rfl
  unfold fX11_in at hf
  refine lv_iload_n X.x X.b dX11_in_0 rfl (lv_at hl 0 rfl) ?_
  refine lv_iload_n X.x X.b dX11_in_1 rfl (lv_at hl 1 rfl) ?_
  refine lv_icmp_lt (tgt := 14) X.x X.b dX11_in_2 (by decide) (fun c1 => ?_) (fun c1 => ?_)
  · have hf := wT c1 hf
    refine lv_iconst (v := 0) X.x X.b dX11_in_14 (by decide) ?_
    cases (Option.some.inj hf).trans JR
    exact ro_zret X h (Or.inl rfl) dX11_in_15
  · have hf := wF c1 hf
    refine lv_iload_n X.x X.b dX11_in_5 rfl (lv_at hl 0 rfl) ?_
    refine lv_iload_n X.x X.b dX11_in_6 rfl (lv_at hl 2 rfl) ?_
    refine lv_icmp_gt (tgt := 14) X.x X.b dX11_in_7 (by decide) (fun c2 => ?_) (fun c2 => ?_)
    · have hf := wT c2 hf
      refine lv_iconst (v := 0) X.x X.b dX11_in_14 (by decide) ?_
      cases (Option.some.inj hf).trans JR
      exact ro_zret X h (Or.inl rfl) dX11_in_15
    · have hf := wF c2 hf
      refine lv_iconst (v := 1) X.x X.b dX11_in_10 (by decide) ?_
      refine lv_goto (tgt := 15) X.x X.b dX11_in_11 (by decide) ?_
      cases (Option.some.inj hf).trans JR
      exact ro_zret X h (Or.inr rfl) dX11_in_15
set_option maxHeartbeats 4000000 in
set_option maxRecDepth 20000 in
theorem kX11_isVisit (l : Launch) {k : En} {S : Nat → Prop} (hS : ∀ t, S t) {g0 : Mm} {a1 : Int32} {res : Int32} (hf : fX11_isVisit g0 a1 = some res) : Mt l yX11_isVisit cX11_isVisit 2 (some .boolean) (RmN 1 22) YR S k [.ref (k.1 + adR 0 0 0), .int a1] g0 (some (.int res)) g0 := by
  refine Mt.of (by decide) (Nat.le_of_ble_eq_true rfl) ?_
  intro p e s m args below meth c ls X _ h hl
  have X : Cx YR S k p s m args meth c cX11_isVisit 2 (some .boolean) RX11 := X
  have hl : lv_has ls 2 [(0, .ref (k.1 + adR 0 0 0)), (1, .int a1)] := hl
  have JR : res = res := rfl
  unfold fX11_isVisit at hf
  refine lv_iload_n X.x X.b dX11_isVisit_0 rfl (lv_at hl 1 rfl) ?_
  refine lv_iconst (v := 0) X.x X.b dX11_isVisit_1 (by decide) ?_
  refine lv_aload_n X.x X.b dX11_isVisit_2 rfl (lv_at hl 0 rfl) ?_
  refine gR_0_1 X h (hS 0) Nat.one_pos Nat.one_pos lk_X11_96 dX11_isVisit_3 ?_
  refine lv_iconst (v := 1) X.x X.b dX11_isVisit_6 (by decide) ?_
  refine lv_isub X.x X.b dX11_isVisit_7 ?_
  obtain ⟨y2, e1, hf⟩ := wBd_s hf
  refine ro_callsI (As := [.int a1, .int (0 : Int32), .int ((g0 0 0 0 1) - (1 : Int32))]) (g1 := g0) (x := y2) X h (kX11_in l hS e1) mv_X11_in lk_X11_99 ⟨rfl, rfl⟩ ⟨(Nat.le_of_ble_eq_true rfl), (Nat.le_of_ble_eq_true rfl)⟩ rfl hl rfl (Nat.le_of_ble_eq_true rfl) ⟨Nat.zero_le _, Nat.zero_le _⟩ dX11_isVisit_8 (fun H locs h => ?_)
  obtain ⟨z3, hf⟩ := wGb_s hf
  cases (Option.some.inj hf).trans JR
  exact ro_zret X h z3 dX11_isVisit_11
set_option maxHeartbeats 4000000 in
set_option maxRecDepth 20000 in
theorem kX11_isStand (l : Launch) {k : En} {S : Nat → Prop} (hS : ∀ t, S t) {g0 : Mm} {a1 : Int32} {res : Int32} (hf : fX11_isStand g0 a1 = some res) : Mt l yX11_isStand cX11_isStand 2 (some .boolean) (RmN 1 22) YR S k [.ref (k.1 + adR 0 0 0), .int a1] g0 (some (.int res)) g0 := by
  refine Mt.of (by decide) (Nat.le_of_ble_eq_true rfl) ?_
  intro p e s m args below meth c ls X _ h hl
  have X : Cx YR S k p s m args meth c cX11_isStand 2 (some .boolean) RX11 := X
  have hl : lv_has ls 2 [(0, .ref (k.1 + adR 0 0 0)), (1, .int a1)] := hl
  have JR : res = res := rfl
  unfold fX11_isStand at hf
  refine lv_iload_n X.x X.b dX11_isStand_0 rfl (lv_at hl 1 rfl) ?_
  refine lv_iconst (v := 0) X.x X.b dX11_isStand_1 (by decide) ?_
  refine lv_aload_n X.x X.b dX11_isStand_2 rfl (lv_at hl 0 rfl) ?_
  refine gR_0_3 X h (hS 0) Nat.one_pos Nat.one_pos lk_X11_103 dX11_isStand_3 ?_
  refine lv_iconst (v := 1) X.x X.b dX11_isStand_6 (by decide) ?_
  refine lv_isub X.x X.b dX11_isStand_7 ?_
  obtain ⟨y2, e1, hf⟩ := wBd_s hf
  refine ro_callsI (As := [.int a1, .int (0 : Int32), .int ((g0 0 0 0 3) - (1 : Int32))]) (g1 := g0) (x := y2) X h (kX11_in l hS e1) mv_X11_in lk_X11_99 ⟨rfl, rfl⟩ ⟨(Nat.le_of_ble_eq_true rfl), (Nat.le_of_ble_eq_true rfl)⟩ rfl hl rfl (Nat.le_of_ble_eq_true rfl) ⟨Nat.zero_le _, Nat.zero_le _⟩ dX11_isStand_8 (fun H locs h => ?_)
  obtain ⟨z3, hf⟩ := wGb_s hf
  cases (Option.some.inj hf).trans JR
  exact ro_zret X h z3 dX11_isStand_11
set_option maxHeartbeats 4000000 in
set_option maxRecDepth 20000 in
theorem kX11_of (l : Launch) {k : En} {S : Nat → Prop} (hS : ∀ t, S t) {g0 : Mm} {a1 : Int32} {a2 : Int32} {res : Int32} (hf : fX11_of g0 a1 a2 = some res) : Mt l yX11_of cX11_of 3 (some .int) (RmN 0 0) YR S k [.ref (k.1 + adR 0 0 0), .int a1, .int a2] g0 (some (.int res)) g0 := by
  refine Mt.of (by decide) (Nat.le_of_ble_eq_true rfl) ?_
  intro p e s m args below meth c ls X _ h hl
  have X : Cx YR S k p s m args meth c cX11_of 3 (some .int) RX11 := X
  have hl : lv_has ls 3 [(0, .ref (k.1 + adR 0 0 0)), (1, .int a1), (2, .int a2)] := hl
  have JR : res = res := rfl
  unfold fX11_of at hf
  refine lv_aload_n X.x X.b dX11_of_0 rfl (lv_at hl 0 rfl) ?_
  refine gR_0_0 X h (hS 0) Nat.one_pos Nat.one_pos lk_X11_7 dX11_of_1 ?_
  refine lv_bipush (v := 30) X.x X.b dX11_of_4 (by decide) ?_
  refine lv_iload_n X.x X.b dX11_of_6 rfl (lv_at hl 1 rfl) ?_
  refine lv_imul X.x X.b dX11_of_7 ?_
  refine lv_iload_n X.x X.b dX11_of_8 rfl (lv_at hl 2 rfl) ?_
  refine lv_iadd X.x X.b dX11_of_9 ?_
  obtain ⟨b1, hf⟩ := wGi_s hf
  refine aR_1 X h (hS 1) Nat.one_pos Nat.one_pos b1 dX11_of_10 ?_
  cases (Option.some.inj hf).trans JR
  exact ro_iret X h dX11_of_11
set_option maxHeartbeats 4000000 in
set_option maxRecDepth 20000 in
theorem kX11_ticksOf (l : Launch) {k : En} {S : Nat → Prop} (hS : ∀ t, S t) {g0 : Mm} {a1 : Int32} {a2 : Int32} {res : Int32} (hf : fX11_ticksOf g0 a1 a2 = some res) : Mt l yX11_ticksOf cX11_ticksOf 3 (some .int) (RmN 1 22) YR S k [.ref (k.1 + adR 0 0 0), .int a1, .int a2] g0 (some (.int res)) g0 := by
  refine Mt.of (by decide) (Nat.le_of_ble_eq_true rfl) ?_
  intro p e s m args below meth c ls X _ h hl
  have X : Cx YR S k p s m args meth c cX11_ticksOf 3 (some .int) RX11 := X
  have hl : lv_has ls 3 [(0, .ref (k.1 + adR 0 0 0)), (1, .int a1), (2, .int a2)] := hl
  have JR : res = res := rfl
  unfold fX11_ticksOf at hf
  refine lv_aload_n X.x X.b dX11_ticksOf_0 rfl (lv_at hl 0 rfl) ?_
  refine gR_0_20 X h (hS 0) Nat.one_pos Nat.one_pos lk_X11_50 dX11_ticksOf_1 ?_
  refine lv_bipush (v := 8) X.x X.b dX11_ticksOf_4 (by decide) ?_
  refine lv_aload_n X.x X.b dX11_ticksOf_6 rfl (lv_at hl 0 rfl) ?_
  refine lv_iload_n X.x X.b dX11_ticksOf_7 rfl (lv_at hl 1 rfl) ?_
  refine lv_iconst (v := 0) X.x X.b dX11_ticksOf_8 (by decide) ?_
  obtain ⟨y2, e1, hf⟩ := wBd_s hf
  refine ro_callvI (As := [.int a1, .int (0 : Int32)]) (g1 := g0) (x := y2) X h (kX11_of l hS e1) mv_X11_of lk_X11_106 ⟨rfl, rfl⟩ ⟨(Nat.le_of_ble_eq_true rfl), (Nat.le_of_ble_eq_true rfl)⟩ (rR_0 X h (hS 0) Nat.one_pos Nat.one_pos) rfl hl rfl (Nat.le_of_ble_eq_true rfl) ⟨Nat.zero_le _, Nat.zero_le _⟩ dX11_ticksOf_9 (fun H locs h => ?_)
  refine lv_imul X.x X.b dX11_ticksOf_12 ?_
  refine lv_iload_n X.x X.b dX11_ticksOf_13 rfl (lv_at hl 2 rfl) ?_
  refine lv_iadd X.x X.b dX11_ticksOf_14 ?_
  obtain ⟨b3, hf⟩ := wGi_s hf
  refine aR_13 X h (hS 13) Nat.one_pos Nat.one_pos b3 dX11_ticksOf_15 ?_
  cases (Option.some.inj hf).trans JR
  exact ro_iret X h dX11_ticksOf_16
set_option maxHeartbeats 4000000 in
set_option maxRecDepth 20000 in
theorem kX11_come (l : Launch) {k : En} {S : Nat → Prop} (hS : ∀ t, S t) {g0 : Mm} {a1 : Int32} {res : Int32} (hf : fX11_come g0 a1 = some res) : Mt l yX11_come cX11_come 2 (some .int) (RmN 1 22) YR S k [.ref (k.1 + adR 0 0 0), .int a1] g0 (some (.int res)) g0 := by
  refine Mt.of (by decide) (Nat.le_of_ble_eq_true rfl) ?_
  intro p e s m args below meth c ls X _ h hl
  have X : Cx YR S k p s m args meth c cX11_come 2 (some .int) RX11 := X
  have hl : lv_has ls 2 [(0, .ref (k.1 + adR 0 0 0)), (1, .int a1)] := hl
  have JR : res = res := rfl
  unfold fX11_come at hf
  refine lv_aload_n X.x X.b dX11_come_0 rfl (lv_at hl 0 rfl) ?_
  refine lv_iload_n X.x X.b dX11_come_1 rfl (lv_at hl 1 rfl) ?_
  refine lv_iconst (v := 1) X.x X.b dX11_come_2 (by decide) ?_
  obtain ⟨y2, e1, hf⟩ := wBd_s hf
  refine ro_callvI (As := [.int a1, .int (1 : Int32)]) (g1 := g0) (x := y2) X h (kX11_of l hS e1) mv_X11_of lk_X11_106 ⟨rfl, rfl⟩ ⟨(Nat.le_of_ble_eq_true rfl), (Nat.le_of_ble_eq_true rfl)⟩ (rR_0 X h (hS 0) Nat.one_pos Nat.one_pos) rfl hl rfl (Nat.le_of_ble_eq_true rfl) ⟨Nat.zero_le _, Nat.zero_le _⟩ dX11_come_3 (fun H locs h => ?_)
  refine lv_aload_n X.x X.b dX11_come_6 rfl (lv_at hl 0 rfl) ?_
  refine lv_iload_n X.x X.b dX11_come_7 rfl (lv_at hl 1 rfl) ?_
  refine lv_iconst (v := 5) X.x X.b dX11_come_8 (by decide) ?_
  obtain ⟨y4, e3, hf⟩ := wBd_s hf
  refine ro_callvI (As := [.int a1, .int (5 : Int32)]) (g1 := g0) (x := y4) X h (kX11_of l hS e3) mv_X11_of lk_X11_106 ⟨rfl, rfl⟩ ⟨(Nat.le_of_ble_eq_true rfl), (Nat.le_of_ble_eq_true rfl)⟩ (rR_0 X h (hS 0) Nat.one_pos Nat.one_pos) rfl hl rfl (Nat.le_of_ble_eq_true rfl) ⟨Nat.zero_le _, Nat.zero_le _⟩ dX11_come_9 (fun H locs h => ?_)
  refine lv_iadd X.x X.b dX11_come_12 ?_
  cases (Option.some.inj hf).trans JR
  exact ro_iret X h dX11_come_13
set_option maxHeartbeats 4000000 in
set_option maxRecDepth 20000 in
theorem kX11_limit (l : Launch) {k : En} {S : Nat → Prop} (hS : ∀ t, S t) {g0 : Mm} {a1 : Int32} {res : Int32} (hf : fX11_limit g0 a1 = some res) : Mt l yX11_limit cX11_limit 2 (some .int) (RmN 2 43) YR S k [.ref (k.1 + adR 0 0 0), .int a1] g0 (some (.int res)) g0 := by
  refine Mt.of (by decide) (Nat.le_of_ble_eq_true rfl) ?_
  intro p e s m args below meth c ls X _ h hl
  have X : Cx YR S k p s m args meth c cX11_limit 2 (some .int) RX11 := X
  have hl : lv_has ls 2 [(0, .ref (k.1 + adR 0 0 0)), (1, .int a1)] := hl
  have JR : res = res := rfl
  unfold fX11_limit at hf
  refine lv_aload_n X.x X.b dX11_limit_0 rfl (lv_at hl 0 rfl) ?_
  refine lv_iload_n X.x X.b dX11_limit_1 rfl (lv_at hl 1 rfl) ?_
  obtain ⟨y2, e1, hf⟩ := wBd_s hf
  refine ro_callvI (As := [.int a1]) (g1 := g0) (x := y2) X h (kX11_come l hS e1) mv_X11_come lk_X11_110 ⟨rfl, rfl⟩ ⟨(Nat.le_of_ble_eq_true rfl), (Nat.le_of_ble_eq_true rfl)⟩ (rR_0 X h (hS 0) Nat.one_pos Nat.one_pos) rfl hl rfl (Nat.le_of_ble_eq_true rfl) ⟨Nat.zero_le _, Nat.zero_le _⟩ dX11_limit_2 (fun H locs h => ?_)
  refine lv_aload_n X.x X.b dX11_limit_5 rfl (lv_at hl 0 rfl) ?_
  refine lv_iload_n X.x X.b dX11_limit_6 rfl (lv_at hl 1 rfl) ?_
  refine lv_iconst (v := 3) X.x X.b dX11_limit_7 (by decide) ?_
  obtain ⟨y4, e3, hf⟩ := wBd_s hf
  refine ro_callvI (As := [.int a1, .int (3 : Int32)]) (g1 := g0) (x := y4) X h (kX11_of l hS e3) mv_X11_of lk_X11_106 ⟨rfl, rfl⟩ ⟨(Nat.le_of_ble_eq_true rfl), (Nat.le_of_ble_eq_true rfl)⟩ (rR_0 X h (hS 0) Nat.one_pos Nat.one_pos) rfl hl rfl (Nat.le_of_ble_eq_true rfl) ⟨Nat.zero_le _, Nat.zero_le _⟩ dX11_limit_8 (fun H locs h => ?_)
  refine lv_iadd X.x X.b dX11_limit_11 ?_
  cases (Option.some.inj hf).trans JR
  exact ro_iret X h dX11_limit_12
set_option maxHeartbeats 4000000 in
set_option maxRecDepth 20000 in
theorem kX11_isDone (l : Launch) {k : En} {S : Nat → Prop} (hS : ∀ t, S t) {g0 : Mm} {a1 : Int32} {a2 : Int32} {res : Int32} (hf : fX11_isDone g0 a1 a2 = some res) : Mt l yX11_isDone cX11_isDone 3 (some .boolean) (RmN 1 22) YR S k [.ref (k.1 + adR 0 0 0), .int a1, .int a2] g0 (some (.int res)) g0 := by
  refine Mt.of (by decide) (Nat.le_of_ble_eq_true rfl) ?_
  intro p e s m args below meth c ls X _ h hl
  have X : Cx YR S k p s m args meth c cX11_isDone 3 (some .boolean) RX11 := X
  have hl : lv_has ls 3 [(0, .ref (k.1 + adR 0 0 0)), (1, .int a1), (2, .int a2)] := hl
  have JR : res = res := rfl
  unfold fX11_isDone at hf
  refine lv_aload_n X.x X.b dX11_isDone_0 rfl (lv_at hl 0 rfl) ?_
  refine lv_iload_n X.x X.b dX11_isDone_1 rfl (lv_at hl 1 rfl) ?_
  refine lv_bipush (v := 9) X.x X.b dX11_isDone_2 (by decide) ?_
  obtain ⟨y2, e1, hf⟩ := wBd_s hf
  refine ro_callvI (As := [.int a1, .int (9 : Int32)]) (g1 := g0) (x := y2) X h (kX11_of l hS e1) mv_X11_of lk_X11_106 ⟨rfl, rfl⟩ ⟨(Nat.le_of_ble_eq_true rfl), (Nat.le_of_ble_eq_true rfl)⟩ (rR_0 X h (hS 0) Nat.one_pos Nat.one_pos) rfl hl rfl (Nat.le_of_ble_eq_true rfl) ⟨Nat.zero_le _, Nat.zero_le _⟩ dX11_isDone_4 (fun H locs h => ?_)
  refine lv_iload_n X.x X.b dX11_isDone_7 rfl (lv_at hl 2 rfl) ?_
  refine lv_ishr X.x X.b dX11_isDone_8 ?_
  refine lv_iconst (v := 1) X.x X.b dX11_isDone_9 (by decide) ?_
  refine lv_iand X.x X.b dX11_isDone_10 ?_
  refine lv_iconst (v := 1) X.x X.b dX11_isDone_11 (by decide) ?_
  refine lv_icmp_ne (tgt := 19) X.x X.b dX11_isDone_12 (by decide) (fun c3 => ?_) (fun c3 => ?_)
  · have hf := wF c3 hf
    refine lv_iconst (v := 0) X.x X.b dX11_isDone_19 (by decide) ?_
    cases (Option.some.inj hf).trans JR
    exact ro_zret X h (Or.inl rfl) dX11_isDone_20
  · have hf := wT c3 hf
    refine lv_iconst (v := 1) X.x X.b dX11_isDone_15 (by decide) ?_
    refine lv_goto (tgt := 20) X.x X.b dX11_isDone_16 (by decide) ?_
    cases (Option.some.inj hf).trans JR
    exact ro_zret X h (Or.inr rfl) dX11_isDone_20
set_option maxHeartbeats 4000000 in
set_option maxRecDepth 20000 in
theorem kX11_stand (l : Launch) {k : En} {S : Nat → Prop} (hS : ∀ t, S t) {a1 : Int32} {res : Mm × Int32} {g : Mm} (hf : fX11_stand g a1 = some res) : Mt l yX11_stand cX11_stand 2 (some .int) (RmN 1 22) YR S k [.ref (k.1 + adR 0 0 0), .int a1] g (some (.int res.2)) res.1 := by
  refine Mt.of (by decide) (Nat.le_of_ble_eq_true rfl) ?_
  intro p e s m args below meth c ls X _ h hl
  have X : Cx YR S k p s m args meth c cX11_stand 2 (some .int) RX11 := X
  have hl : lv_has ls 2 [(0, .ref (k.1 + adR 0 0 0)), (1, .int a1)] := hl
  have JR : res = res := rfl
  unfold fX11_stand at hf
  refine lv_iload_n X.x X.b dX11_stand_0 rfl (lv_at hl 1 rfl) ?_
  refine lv_iconst (v := 1) X.x X.b dX11_stand_1 (by decide) ?_
  refine lv_iconst (v := 3) X.x X.b dX11_stand_2 (by decide) ?_
  obtain ⟨y2, e1, hf⟩ := wBd_s hf
  refine ro_callsI (As := [.int a1, .int (1 : Int32), .int (3 : Int32)]) (g1 := g) (x := y2) X h (kX11_in l hS e1) mv_X11_in lk_X11_99 ⟨rfl, rfl⟩ ⟨(Nat.le_of_ble_eq_true rfl), (Nat.le_of_ble_eq_true rfl)⟩ rfl hl rfl (Nat.le_of_ble_eq_true rfl) ⟨Nat.zero_le _, Nat.zero_le _⟩ dX11_stand_3 (fun H locs h => ?_)
  refine lv_if_ne (tgt := 12) X.x X.b dX11_stand_6 (by decide) (fun c3 => ?_) (fun c3 => ?_)
  · have hf := wF c3 hf
    refine lv_aload_n X.x X.b dX11_stand_12 rfl (lv_at hl 0 rfl) ?_
    refine gR_0_3 X h (hS 0) Nat.one_pos Nat.one_pos lk_X11_103 dX11_stand_13 ?_
    refine lv_bipush (v := 6) X.x X.b dX11_stand_16 (by decide) ?_
    refine lv_icmp_ne (tgt := 24) X.x X.b dX11_stand_18 (by decide) (fun c4 => ?_) (fun c4 => ?_)
    · have hf := wF c4 hf
      refine lv_aload_n X.x X.b dX11_stand_24 rfl (lv_at hl 0 rfl) ?_
      refine gR_0_0 X h (hS 0) Nat.one_pos Nat.one_pos lk_X11_7 dX11_stand_25 ?_
      refine lv_sipush (v := 490) X.x X.b dX11_stand_28 (by decide) ?_
      refine lv_aload_n X.x X.b dX11_stand_31 rfl (lv_at hl 0 rfl) ?_
      refine gR_0_3 X h (hS 0) Nat.one_pos Nat.one_pos lk_X11_103 dX11_stand_32 ?_
      refine lv_iadd X.x X.b dX11_stand_35 ?_
      refine lv_iload_n X.x X.b dX11_stand_36 rfl (lv_at hl 1 rfl) ?_
      obtain ⟨b5, hf⟩ := wGi_s hf
      obtain ⟨g6, e7, hf⟩ := wLe_s hf
      refine bR_1 X h (hS 1) Nat.one_pos Nat.one_pos e7 b5 dX11_stand_37 (fun H locs h => ?_)
      refine lv_aload_n X.x X.b dX11_stand_38 rfl (lv_at hl 0 rfl) ?_
      refine lv_dup X.x X.b dX11_stand_39 rfl ?_
      refine gR_0_3 X h (hS 0) Nat.one_pos Nat.one_pos lk_X11_103 dX11_stand_40 ?_
      refine lv_iconst (v := 1) X.x X.b dX11_stand_43 (by decide) ?_
      refine lv_iadd X.x X.b dX11_stand_44 ?_
      obtain ⟨g8, e9, hf⟩ := wLe_s hf
      refine pR_0_3 X h (hS 0) Nat.one_pos Nat.one_pos lk_X11_103 e9 dX11_stand_45 (fun H locs h => ?_)
      refine lv_aload_n X.x X.b dX11_stand_48 rfl (lv_at hl 0 rfl) ?_
      refine gR_0_3 X h (hS 0) Nat.one_pos Nat.one_pos lk_X11_103 dX11_stand_49 ?_
      refine lv_iconst (v := 1) X.x X.b dX11_stand_52 (by decide) ?_
      refine lv_isub X.x X.b dX11_stand_53 ?_
      cases (Option.some.inj hf).trans JR
      exact ro_iret X h dX11_stand_54
    · have hf := wT c4 hf
      refine lv_bipush (v := (-4)) X.x X.b dX11_stand_21 (by decide) ?_
      cases (Option.some.inj hf).trans JR
      exact ro_iret X h dX11_stand_23
  · have hf := wT c3 hf
    refine lv_bipush (v := (-2)) X.x X.b dX11_stand_9 (by decide) ?_
    cases (Option.some.inj hf).trans JR
    exact ro_iret X h dX11_stand_11
set_option maxHeartbeats 4000000 in
set_option maxRecDepth 20000 in
theorem wX11_set_b146 {k : En} {S : Nat → Prop} (hS : ∀ t, S t) {a1 : Int32} {a2 : Int32} {res : Mm × Int32} (X : Cx YR S k p s m args meth c cX11_set 6 (some .int) RX11) {g : Mm} {z0 : Int32} {H : Heap} {locs : List Loc} {ls : Array Slot} (h : Hx YR S k s g H locs) (hl : lv_has ls 6 [(0, .ref (k.1 + adR 0 0 0)), (2, .int a2)]) {r : Mm × Int32} (hf : fX11_set_b146 g a1 a2 z0 = some r) (JR : r = res) :
    W p l e (RmN 1 22) s m args below meth c H locs 0 0 (Fin YR S k args s below (some (.int res.2)) res.1) (F0 m 146 ls [.int z0]) := by
  unfold fX11_set_b146 at hf
  refine lv_istore (lv' := [(4, .int z0), (0, .ref (k.1 + adR 0 0 0)), (2, .int a2)]) X.x X.b dX11_set_146 hl (by decide) rfl (fun ls hl => ?_)
  refine lv_aload_n X.x X.b dX11_set_148 rfl (lv_at hl 1 rfl) ?_
  refine gR_0_0 X h (hS 0) Nat.one_pos Nat.one_pos lk_X11_7 dX11_set_149 ?_
  refine lv_iload X.x X.b dX11_set_152 (lv_at hl 0 rfl) ?_
  obtain ⟨b12, hf⟩ := wGi_s hf
  refine aR_1 X h (hS 1) Nat.one_pos Nat.one_pos b12 dX11_set_154 ?_
  obtain ⟨y13, e14, hf⟩ := wLe_s hf
  refine lv_nmi e14 ?_
  refine lv_istore (lv' := [(5, .int y13), (4, .int z0), (0, .ref (k.1 + adR 0 0 0)), (2, .int a2)]) X.x X.b dX11_set_155 hl (by decide) rfl (fun ls hl => ?_)
  refine lv_aload_n X.x X.b dX11_set_157 rfl (lv_at hl 2 rfl) ?_
  refine gR_0_0 X h (hS 0) Nat.one_pos Nat.one_pos lk_X11_7 dX11_set_158 ?_
  refine lv_iload X.x X.b dX11_set_161 (lv_at hl 1 rfl) ?_
  refine lv_iload_n X.x X.b dX11_set_163 rfl (lv_at hl 3 rfl) ?_
  obtain ⟨b15, hf⟩ := wGi_s hf
  obtain ⟨g16, e17, hf⟩ := wLe_s hf
  refine bR_1 X h (hS 1) Nat.one_pos Nat.one_pos e17 b15 dX11_set_164 (fun H locs h => ?_)
  refine lv_iload X.x X.b dX11_set_165 (lv_at hl 0 rfl) ?_
  cases (Option.some.inj hf).trans JR
  exact ro_iret X h dX11_set_167
set_option maxHeartbeats 4000000 in
set_option maxRecDepth 20000 in
theorem wX11_set_b95 {k : En} {S : Nat → Prop} (hS : ∀ t, S t) {a1 : Int32} {a2 : Int32} {res : Mm × Int32} (X : Cx YR S k p s m args meth c cX11_set 6 (some .int) RX11) {g : Mm} {H : Heap} {locs : List Loc} {ls : Array Slot} (h : Hx YR S k s g H locs) (hl : lv_has ls 6 [(0, .ref (k.1 + adR 0 0 0)), (1, .int a1), (2, .int a2)]) {r : Mm × Int32} (hf : fX11_set_b95 g a1 a2 = some r) (JR : r = res) :
    W p l e (RmN 1 22) s m args below meth c H locs 0 0 (Fin YR S k args s below (some (.int res.2)) res.1) (F0 m 95 ls []) := by
  unfold fX11_set_b95 at hf
  refine lv_iload_n X.x X.b dX11_set_95 rfl (lv_at hl 1 rfl) ?_
  refine lv_iconst (v := 4) X.x X.b dX11_set_96 (by decide) ?_
  refine lv_icmp_gt (tgt := 108) X.x X.b dX11_set_97 (by decide) (fun c8 => ?_) (fun c8 => ?_)
  · have hf := wT c8 hf
    refine lv_iload_n X.x X.b dX11_set_108 rfl (lv_at hl 1 rfl) ?_
    refine lv_iconst (v := 5) X.x X.b dX11_set_109 (by decide) ?_
    refine lv_icmp_ne (tgt := 119) X.x X.b dX11_set_110 (by decide) (fun c9 => ?_) (fun c9 => ?_)
    · have hf := wF c9 hf
      refine lv_iload_n X.x X.b dX11_set_119 rfl (lv_at hl 1 rfl) ?_
      refine lv_bipush (v := 6) X.x X.b dX11_set_120 (by decide) ?_
      refine lv_icmp_ne (tgt := 131) X.x X.b dX11_set_122 (by decide) (fun c10 => ?_) (fun c10 => ?_)
      · have hf := wF c10 hf
        refine lv_iload_n X.x X.b dX11_set_131 rfl (lv_at hl 1 rfl) ?_
        refine lv_bipush (v := 7) X.x X.b dX11_set_132 (by decide) ?_
        refine lv_icmp_ne (tgt := 143) X.x X.b dX11_set_134 (by decide) (fun c11 => ?_) (fun c11 => ?_)
        · have hf := wF c11 hf
          refine lv_sipush (v := 484) X.x X.b dX11_set_143 (by decide) ?_
          exact wX11_set_b146 hS X h (lv_sub hl [0, 2] rfl) hf JR
        · have hf := wT c11 hf
          refine lv_sipush (v := 483) X.x X.b dX11_set_137 (by decide) ?_
          refine lv_goto (tgt := 146) X.x X.b dX11_set_140 (by decide) ?_
          exact wX11_set_b146 hS X h (lv_sub hl [0, 2] rfl) hf JR
      · have hf := wT c10 hf
        refine lv_sipush (v := 482) X.x X.b dX11_set_125 (by decide) ?_
        refine lv_goto (tgt := 146) X.x X.b dX11_set_128 (by decide) ?_
        exact wX11_set_b146 hS X h (lv_sub hl [0, 2] rfl) hf JR
    · have hf := wT c9 hf
      refine lv_sipush (v := 481) X.x X.b dX11_set_113 (by decide) ?_
      refine lv_goto (tgt := 146) X.x X.b dX11_set_116 (by decide) ?_
      exact wX11_set_b146 hS X h (lv_sub hl [0, 2] rfl) hf JR
  · have hf := wF c8 hf
    refine lv_sipush (v := 470) X.x X.b dX11_set_100 (by decide) ?_
    refine lv_iload_n X.x X.b dX11_set_103 rfl (lv_at hl 1 rfl) ?_
    refine lv_iadd X.x X.b dX11_set_104 ?_
    refine lv_goto (tgt := 146) X.x X.b dX11_set_105 (by decide) ?_
    exact wX11_set_b146 hS X h (lv_sub hl [0, 2] rfl) hf JR
set_option maxHeartbeats 4000000 in
set_option maxRecDepth 20000 in
theorem wX11_set_b65 {k : En} {S : Nat → Prop} (hS : ∀ t, S t) {a1 : Int32} {a2 : Int32} {res : Mm × Int32} (X : Cx YR S k p s m args meth c cX11_set 6 (some .int) RX11) {g : Mm} {z0 : Int32} {H : Heap} {locs : List Loc} {ls : Array Slot} (h : Hx YR S k s g H locs) (hl : lv_has ls 6 [(0, .ref (k.1 + adR 0 0 0)), (1, .int a1), (2, .int a2)]) {r : Mm × Int32} (hf : fX11_set_b65 g a1 a2 z0 = some r) (JR : r = res) :
    W p l e (RmN 1 22) s m args below meth c H locs 0 0 (Fin YR S k args s below (some (.int res.2)) res.1) (F0 m 65 ls [.int z0]) := by
  unfold fX11_set_b65 at hf
  refine lv_istore_n (lv' := [(3, .int z0), (0, .ref (k.1 + adR 0 0 0)), (1, .int a1), (2, .int a2)]) X.x X.b dX11_set_65 rfl hl (by decide) rfl (fun ls hl => ?_)
  refine lv_iload_n X.x X.b dX11_set_66 rfl (lv_at hl 0 rfl) ?_
  refine lv_if_ne (tgt := 73) X.x X.b dX11_set_67 (by decide) (fun c6 => ?_) (fun c6 => ?_)
  · have hf := wF c6 hf
    refine lv_iload_n X.x X.b dX11_set_73 rfl (lv_at hl 2 rfl) ?_
    refine lv_iconst (v := 4) X.x X.b dX11_set_74 (by decide) ?_
    refine lv_icmp_gt (tgt := 95) X.x X.b dX11_set_75 (by decide) (fun c7 => ?_) (fun c7 => ?_)
    · have hf := wT c7 hf
      exact wX11_set_b95 hS X h (lv_sub hl [1, 2, 3] rfl) hf JR
    · have hf := wF c7 hf
      refine lv_iload_n X.x X.b dX11_set_78 rfl (lv_at hl 3 rfl) ?_
      refine lv_aload_n X.x X.b dX11_set_79 rfl (lv_at hl 1 rfl) ?_
      refine gR_0_0 X h (hS 0) Nat.one_pos Nat.one_pos lk_X11_7 dX11_set_80 ?_
      refine lv_sipush (v := 475) X.x X.b dX11_set_83 (by decide) ?_
      refine lv_iload_n X.x X.b dX11_set_86 rfl (lv_at hl 2 rfl) ?_
      refine lv_iadd X.x X.b dX11_set_87 ?_
      obtain ⟨b18, hf⟩ := wGi_s hf
      refine aR_1 X h (hS 1) Nat.one_pos Nat.one_pos b18 dX11_set_88 ?_
      refine lv_icmp_ge (tgt := 95) X.x X.b dX11_set_89 (by decide) (fun c19 => ?_) (fun c19 => ?_)
      · have hf := wT c19 hf
        exact wX11_set_b95 hS X h (lv_sub hl [1, 2, 3] rfl) hf JR
      · have hf := wF c19 hf
        refine lv_bipush (v := (-3)) X.x X.b dX11_set_92 (by decide) ?_
        cases (Option.some.inj hf).trans JR
        exact ro_iret X h dX11_set_94
  · have hf := wT c6 hf
    refine lv_bipush (v := (-2)) X.x X.b dX11_set_70 (by decide) ?_
    cases (Option.some.inj hf).trans JR
    exact ro_iret X h dX11_set_72
set_option maxHeartbeats 4000000 in
set_option maxRecDepth 20000 in
theorem wX11_set_b15 {k : En} {S : Nat → Prop} (hS : ∀ t, S t) {a1 : Int32} {a2 : Int32} {res : Mm × Int32} (X : Cx YR S k p s m args meth c cX11_set 6 (some .int) RX11) {g : Mm} {H : Heap} {locs : List Loc} {ls : Array Slot} (h : Hx YR S k s g H locs) (hl : lv_has ls 6 [(0, .ref (k.1 + adR 0 0 0)), (1, .int a1), (2, .int a2)]) {r : Mm × Int32} (hf : fX11_set_b15 g a1 a2 = some r) (JR : r = res) :
    W p l e (RmN 1 22) s m args below meth c H locs 0 0 (Fin YR S k args s below (some (.int res.2)) res.1) (F0 m 15 ls []) := by
  unfold fX11_set_b15 at hf
  refine lv_iload_n X.x X.b dX11_set_15 rfl (lv_at hl 2 rfl) ?_
  refine lv_iconst (v := 0) X.x X.b dX11_set_16 (by decide) ?_
  refine lv_bipush (v := 9) X.x X.b dX11_set_17 (by decide) ?_
  obtain ⟨y5, e4, hf⟩ := wBd_s hf
  refine ro_callsI (As := [.int a2, .int (0 : Int32), .int (9 : Int32)]) (g1 := g) (x := y5) X h (kX11_in l hS e4) mv_X11_in lk_X11_99 ⟨rfl, rfl⟩ ⟨(Nat.le_of_ble_eq_true rfl), (Nat.le_of_ble_eq_true rfl)⟩ rfl hl rfl (Nat.le_of_ble_eq_true rfl) ⟨Nat.zero_le _, Nat.zero_le _⟩ dX11_set_19 (fun H locs h => ?_)
  refine lv_goto (tgt := 65) X.x X.b dX11_set_22 (by decide) ?_
  exact wX11_set_b65 hS X h (lv_sub hl [0, 1, 2] rfl) hf JR
set_option maxHeartbeats 4000000 in
set_option maxRecDepth 20000 in
theorem wX11_set_b36 {k : En} {S : Nat → Prop} (hS : ∀ t, S t) {a1 : Int32} {a2 : Int32} {res : Mm × Int32} (X : Cx YR S k p s m args meth c cX11_set 6 (some .int) RX11) {g : Mm} {H : Heap} {locs : List Loc} {ls : Array Slot} (h : Hx YR S k s g H locs) (hl : lv_has ls 6 [(0, .ref (k.1 + adR 0 0 0)), (1, .int a1), (2, .int a2)]) {r : Mm × Int32} (hf : fX11_set_b36 g a1 a2 = some r) (JR : r = res) :
    W p l e (RmN 1 22) s m args below meth c H locs 0 0 (Fin YR S k args s below (some (.int res.2)) res.1) (F0 m 36 ls []) := by
  unfold fX11_set_b36 at hf
  refine lv_iload_n X.x X.b dX11_set_36 rfl (lv_at hl 2 rfl) ?_
  refine lv_iconst (v := 0) X.x X.b dX11_set_37 (by decide) ?_
  refine lv_iconst (v := 1) X.x X.b dX11_set_38 (by decide) ?_
  obtain ⟨y23, e22, hf⟩ := wBd_s hf
  refine ro_callsI (As := [.int a2, .int (0 : Int32), .int (1 : Int32)]) (g1 := g) (x := y23) X h (kX11_in l hS e22) mv_X11_in lk_X11_99 ⟨rfl, rfl⟩ ⟨(Nat.le_of_ble_eq_true rfl), (Nat.le_of_ble_eq_true rfl)⟩ rfl hl rfl (Nat.le_of_ble_eq_true rfl) ⟨Nat.zero_le _, Nat.zero_le _⟩ dX11_set_39 (fun H locs h => ?_)
  refine lv_goto (tgt := 65) X.x X.b dX11_set_42 (by decide) ?_
  exact wX11_set_b65 hS X h (lv_sub hl [0, 1, 2] rfl) hf JR
set_option maxHeartbeats 4000000 in
set_option maxRecDepth 20000 in
theorem wX11_set_b64 {k : En} {S : Nat → Prop} (hS : ∀ t, S t) {a1 : Int32} {a2 : Int32} {res : Mm × Int32} (X : Cx YR S k p s m args meth c cX11_set 6 (some .int) RX11) {g : Mm} {H : Heap} {locs : List Loc} {ls : Array Slot} (h : Hx YR S k s g H locs) (hl : lv_has ls 6 [(0, .ref (k.1 + adR 0 0 0)), (1, .int a1), (2, .int a2)]) {r : Mm × Int32} (hf : fX11_set_b64 g a1 a2 = some r) (JR : r = res) :
    W p l e (RmN 1 22) s m args below meth c H locs 0 0 (Fin YR S k args s below (some (.int res.2)) res.1) (F0 m 64 ls []) := by
  unfold fX11_set_b64 at hf
  refine lv_iconst (v := 0) X.x X.b dX11_set_64 (by decide) ?_
  exact wX11_set_b65 hS X h (lv_sub hl [0, 1, 2] rfl) hf JR
set_option maxHeartbeats 4000000 in
set_option maxRecDepth 20000 in
theorem kX11_set (l : Launch) {k : En} {S : Nat → Prop} (hS : ∀ t, S t) {a1 : Int32} {a2 : Int32} {res : Mm × Int32} {g : Mm} (hf : fX11_set g a1 a2 = some res) : Mt l yX11_set cX11_set 6 (some .int) (RmN 1 22) YR S k [.ref (k.1 + adR 0 0 0), .int a1, .int a2] g (some (.int res.2)) res.1 := by
  refine Mt.of (by decide) (Nat.le_of_ble_eq_true rfl) ?_
  intro p e s m args below meth c ls X _ h hl
  have X : Cx YR S k p s m args meth c cX11_set 6 (some .int) RX11 := X
  have hl : lv_has ls 6 [(0, .ref (k.1 + adR 0 0 0)), (1, .int a1), (2, .int a2)] := hl
  have JR : res = res := rfl
  unfold fX11_set at hf
  refine lv_iload_n X.x X.b dX11_set_0 rfl (lv_at hl 1 rfl) ?_
  refine lv_iconst (v := 0) X.x X.b dX11_set_1 (by decide) ?_
  refine lv_iconst (v := 4) X.x X.b dX11_set_2 (by decide) ?_
  obtain ⟨y2, e1, hf⟩ := wBd_s hf
  refine ro_callsI (As := [.int a1, .int (0 : Int32), .int (4 : Int32)]) (g1 := g) (x := y2) X h (kX11_in l hS e1) mv_X11_in lk_X11_99 ⟨rfl, rfl⟩ ⟨(Nat.le_of_ble_eq_true rfl), (Nat.le_of_ble_eq_true rfl)⟩ rfl hl rfl (Nat.le_of_ble_eq_true rfl) ⟨Nat.zero_le _, Nat.zero_le _⟩ dX11_set_3 (fun H locs h => ?_)
  refine lv_if_ne (tgt := 15) X.x X.b dX11_set_6 (by decide) (fun c3 => ?_) (fun c3 => ?_)
  · have hf := wF c3 hf
    exact wX11_set_b15 hS X h (lv_sub hl [0, 1, 2] rfl) hf JR
  · have hf := wT c3 hf
    refine lv_iload_n X.x X.b dX11_set_9 rfl (lv_at hl 1 rfl) ?_
    refine lv_bipush (v := 7) X.x X.b dX11_set_10 (by decide) ?_
    refine lv_icmp_ne (tgt := 25) X.x X.b dX11_set_12 (by decide) (fun c20 => ?_) (fun c20 => ?_)
    · have hf := wF c20 hf
      refine lv_iload_n X.x X.b dX11_set_25 rfl (lv_at hl 1 rfl) ?_
      refine lv_iconst (v := 5) X.x X.b dX11_set_26 (by decide) ?_
      refine lv_icmp_eq (tgt := 36) X.x X.b dX11_set_27 (by decide) (fun c21 => ?_) (fun c21 => ?_)
      · have hf := wT c21 hf
        exact wX11_set_b36 hS X h (lv_sub hl [0, 1, 2] rfl) hf JR
      · have hf := wF c21 hf
        refine lv_iload_n X.x X.b dX11_set_30 rfl (lv_at hl 1 rfl) ?_
        refine lv_bipush (v := 6) X.x X.b dX11_set_31 (by decide) ?_
        refine lv_icmp_ne (tgt := 45) X.x X.b dX11_set_33 (by decide) (fun c24 => ?_) (fun c24 => ?_)
        · have hf := wF c24 hf
          refine lv_iload_n X.x X.b dX11_set_45 rfl (lv_at hl 1 rfl) ?_
          refine lv_bipush (v := 8) X.x X.b dX11_set_46 (by decide) ?_
          refine lv_icmp_ne (tgt := 64) X.x X.b dX11_set_48 (by decide) (fun c25 => ?_) (fun c25 => ?_)
          · have hf := wF c25 hf
            exact wX11_set_b64 hS X h (lv_sub hl [0, 1, 2] rfl) hf JR
          · have hf := wT c25 hf
            refine lv_iload_n X.x X.b dX11_set_51 rfl (lv_at hl 2 rfl) ?_
            refine lv_iconst (v := 1) X.x X.b dX11_set_52 (by decide) ?_
            refine lv_iconst (v := 2) X.x X.b dX11_set_53 (by decide) ?_
            obtain ⟨y27, e26, hf⟩ := wBd_s hf
            refine ro_callsI (As := [.int a2, .int (1 : Int32), .int (2 : Int32)]) (g1 := g) (x := y27) X h (kX11_in l hS e26) mv_X11_in lk_X11_99 ⟨rfl, rfl⟩ ⟨(Nat.le_of_ble_eq_true rfl), (Nat.le_of_ble_eq_true rfl)⟩ rfl hl rfl (Nat.le_of_ble_eq_true rfl) ⟨Nat.zero_le _, Nat.zero_le _⟩ dX11_set_54 (fun H locs h => ?_)
            refine lv_if_eq (tgt := 64) X.x X.b dX11_set_57 (by decide) (fun c28 => ?_) (fun c28 => ?_)
            · have hf := wT c28 hf
              exact wX11_set_b64 hS X h (lv_sub hl [0, 1, 2] rfl) hf JR
            · have hf := wF c28 hf
              refine lv_iconst (v := 1) X.x X.b dX11_set_60 (by decide) ?_
              refine lv_goto (tgt := 65) X.x X.b dX11_set_61 (by decide) ?_
              exact wX11_set_b65 hS X h (lv_sub hl [0, 1, 2] rfl) hf JR
        · have hf := wT c24 hf
          exact wX11_set_b36 hS X h (lv_sub hl [0, 1, 2] rfl) hf JR
    · have hf := wT c20 hf
      exact wX11_set_b15 hS X h (lv_sub hl [0, 1, 2] rfl) hf JR
set_option maxHeartbeats 4000000 in
set_option maxRecDepth 20000 in
theorem wX11_visit_L79 {k : En} {S : Nat → Prop} (hS : ∀ t, S t) {a1 : Int32} {a2 : Int32} {a3 : Int32} {a4 : Int32} {res : Mm × Int32} (X : Cx YR S k p s m args meth c cX11_visit 7 (some .int) RX11) {x5 : Int32} {r : Mm × Int32} (JR : r = res) :
    ∀ (fu : Nat) (g : Mm) (x6 : Int32) (H : Heap) (locs : List Loc) (ls : Array Slot), Hx YR S k s g H locs → lv_has ls 7 [(0, .ref (k.1 + adR 0 0 0)), (1, .int a1), (2, .int a2), (3, .int a3), (4, .int a4), (5, .int x5), (6, .int x6)] → wLp (fun q => fX11_visit_B79 q.1 a1 a2 a3 a4 x5 q.2) fu (g, x6) = some r → W p l e (RmN 1 22) s m args below meth c H locs 0 0 (Fin YR S k args s below (some (.int res.2)) res.1) (F0 m 79 ls []) := by
  intro fu
  induction fu with
  | zero => intro g x6 H locs ls h hl hf; exact (wLp_0 hf).elim
  | succ fu ih1 =>
    intro g x6 H locs ls h hl hf
    obtain ⟨r1, hf, hr⟩ := wLp_s hf
    have J1n : ∀ (g : Mm) (x6 : Int32), r1 = .inl (g, x6) → ∀ (H : Heap) (locs : List Loc) (ls : Array Slot), Hx YR S k s g H locs → lv_has ls 7 [(0, .ref (k.1 + adR 0 0 0)), (1, .int a1), (2, .int a2), (3, .int a3), (4, .int a4), (5, .int x5), (6, .int x6)] → W p l e (RmN 1 22) s m args below meth c H locs 0 0 (Fin YR S k args s below (some (.int res.2)) res.1) (F0 m 79 ls []) := fun g x6 q H locs ls h hl => by subst q; exact ih1 _ _ _ _ _ h hl hr
    have JRn : ∀ t1, r1 = .inr t1 → t1 = res := fun t1 q => by subst q; obtain rfl := Option.some.inj hr; exact JR
    have J1 := J1n
    have JR := JRn
    clear J1n JRn
    have hf : fX11_visit_B79 g a1 a2 a3 a4 x5 x6 = some r1 := hf
    unfold fX11_visit_B79 at hf
    refine lv_iload X.x X.b dX11_visit_79 (lv_at hl 6 rfl) ?_
    refine lv_bipush (v := 30) X.x X.b dX11_visit_81 (by decide) ?_
    refine lv_icmp_ge (tgt := 103) X.x X.b dX11_visit_83 (by decide) (fun c19 => ?_) (fun c19 => ?_)
    · have hf := wT c19 hf
      obtain ⟨t20, hf, e21⟩ := wEx_s hf
      have JR := JR t20 e21
      refine lv_aload_n X.x X.b dX11_visit_103 rfl (lv_at hl 0 rfl) ?_
      refine gR_0_0 X h (hS 0) Nat.one_pos Nat.one_pos lk_X11_7 dX11_visit_104 ?_
      refine lv_iload X.x X.b dX11_visit_107 (lv_at hl 5 rfl) ?_
      refine lv_iload_n X.x X.b dX11_visit_109 rfl (lv_at hl 1 rfl) ?_
      obtain ⟨b22, hf⟩ := wGi_s hf
      obtain ⟨g23, e24, hf⟩ := wLe_s hf
      refine bR_1 X h (hS 1) Nat.one_pos Nat.one_pos e24 b22 dX11_visit_110 (fun H locs h => ?_)
      refine lv_aload_n X.x X.b dX11_visit_111 rfl (lv_at hl 0 rfl) ?_
      refine gR_0_0 X h (hS 0) Nat.one_pos Nat.one_pos lk_X11_7 dX11_visit_112 ?_
      refine lv_iload X.x X.b dX11_visit_115 (lv_at hl 5 rfl) ?_
      refine lv_iconst (v := 1) X.x X.b dX11_visit_117 (by decide) ?_
      refine lv_iadd X.x X.b dX11_visit_118 ?_
      refine lv_iload_n X.x X.b dX11_visit_119 rfl (lv_at hl 2 rfl) ?_
      obtain ⟨b25, hf⟩ := wGi_s hf
      obtain ⟨g26, e27, hf⟩ := wLe_s hf
      refine bR_1 X h (hS 1) Nat.one_pos Nat.one_pos e27 b25 dX11_visit_120 (fun H locs h => ?_)
      refine lv_aload_n X.x X.b dX11_visit_121 rfl (lv_at hl 0 rfl) ?_
      refine gR_0_0 X h (hS 0) Nat.one_pos Nat.one_pos lk_X11_7 dX11_visit_122 ?_
      refine lv_iload X.x X.b dX11_visit_125 (lv_at hl 5 rfl) ?_
      refine lv_iconst (v := 2) X.x X.b dX11_visit_127 (by decide) ?_
      refine lv_iadd X.x X.b dX11_visit_128 ?_
      refine lv_iload_n X.x X.b dX11_visit_129 rfl (lv_at hl 3 rfl) ?_
      obtain ⟨b28, hf⟩ := wGi_s hf
      obtain ⟨g29, e30, hf⟩ := wLe_s hf
      refine bR_1 X h (hS 1) Nat.one_pos Nat.one_pos e30 b28 dX11_visit_130 (fun H locs h => ?_)
      refine lv_aload_n X.x X.b dX11_visit_131 rfl (lv_at hl 0 rfl) ?_
      refine gR_0_0 X h (hS 0) Nat.one_pos Nat.one_pos lk_X11_7 dX11_visit_132 ?_
      refine lv_iload X.x X.b dX11_visit_135 (lv_at hl 5 rfl) ?_
      refine lv_iconst (v := 3) X.x X.b dX11_visit_137 (by decide) ?_
      refine lv_iadd X.x X.b dX11_visit_138 ?_
      refine lv_iload X.x X.b dX11_visit_139 (lv_at hl 4 rfl) ?_
      obtain ⟨b31, hf⟩ := wGi_s hf
      obtain ⟨g32, e33, hf⟩ := wLe_s hf
      refine bR_1 X h (hS 1) Nat.one_pos Nat.one_pos e33 b31 dX11_visit_141 (fun H locs h => ?_)
      refine lv_aload_n X.x X.b dX11_visit_142 rfl (lv_at hl 0 rfl) ?_
      refine gR_0_0 X h (hS 0) Nat.one_pos Nat.one_pos lk_X11_7 dX11_visit_143 ?_
      refine lv_iload X.x X.b dX11_visit_146 (lv_at hl 5 rfl) ?_
      refine lv_iconst (v := 4) X.x X.b dX11_visit_148 (by decide) ?_
      refine lv_iadd X.x X.b dX11_visit_149 ?_
      refine lv_iconst (v := (-1)) X.x X.b dX11_visit_150 (by decide) ?_
      obtain ⟨b34, hf⟩ := wGi_s hf
      obtain ⟨g35, e36, hf⟩ := wLe_s hf
      refine bR_1 X h (hS 1) Nat.one_pos Nat.one_pos e36 b34 dX11_visit_151 (fun H locs h => ?_)
      refine lv_aload_n X.x X.b dX11_visit_152 rfl (lv_at hl 0 rfl) ?_
      refine gR_0_0 X h (hS 0) Nat.one_pos Nat.one_pos lk_X11_7 dX11_visit_153 ?_
      refine lv_iload X.x X.b dX11_visit_156 (lv_at hl 5 rfl) ?_
      refine lv_bipush (v := 7) X.x X.b dX11_visit_158 (by decide) ?_
      refine lv_iadd X.x X.b dX11_visit_160 ?_
      refine lv_aload_n X.x X.b dX11_visit_161 rfl (lv_at hl 0 rfl) ?_
      refine gR_0_0 X h (hS 0) Nat.one_pos Nat.one_pos lk_X11_7 dX11_visit_162 ?_
      refine lv_sipush (v := 480) X.x X.b dX11_visit_165 (by decide) ?_
      obtain ⟨b37, hf⟩ := wGi_s hf
      refine aR_1 X h (hS 1) Nat.one_pos Nat.one_pos b37 dX11_visit_168 ?_
      obtain ⟨b38, hf⟩ := wGi_s hf
      obtain ⟨g39, e40, hf⟩ := wLe_s hf
      refine bR_1 X h (hS 1) Nat.one_pos Nat.one_pos e40 b38 dX11_visit_169 (fun H locs h => ?_)
      refine lv_aload_n X.x X.b dX11_visit_170 rfl (lv_at hl 0 rfl) ?_
      refine gR_0_0 X h (hS 0) Nat.one_pos Nat.one_pos lk_X11_7 dX11_visit_171 ?_
      refine lv_iload X.x X.b dX11_visit_174 (lv_at hl 5 rfl) ?_
      refine lv_bipush (v := 8) X.x X.b dX11_visit_176 (by decide) ?_
      refine lv_iadd X.x X.b dX11_visit_178 ?_
      refine lv_iconst (v := (-1)) X.x X.b dX11_visit_179 (by decide) ?_
      obtain ⟨b41, hf⟩ := wGi_s hf
      obtain ⟨g42, e43, hf⟩ := wLe_s hf
      refine bR_1 X h (hS 1) Nat.one_pos Nat.one_pos e43 b41 dX11_visit_180 (fun H locs h => ?_)
      refine lv_aload_n X.x X.b dX11_visit_181 rfl (lv_at hl 0 rfl) ?_
      refine gR_0_0 X h (hS 0) Nat.one_pos Nat.one_pos lk_X11_7 dX11_visit_182 ?_
      refine lv_iload X.x X.b dX11_visit_185 (lv_at hl 5 rfl) ?_
      refine lv_bipush (v := 10) X.x X.b dX11_visit_187 (by decide) ?_
      refine lv_iadd X.x X.b dX11_visit_189 ?_
      refine lv_sipush (v := (-1000)) X.x X.b dX11_visit_190 (by decide) ?_
      obtain ⟨b44, hf⟩ := wGi_s hf
      obtain ⟨g45, e46, hf⟩ := wLe_s hf
      refine bR_1 X h (hS 1) Nat.one_pos Nat.one_pos e46 b44 dX11_visit_193 (fun H locs h => ?_)
      refine lv_aload_n X.x X.b dX11_visit_194 rfl (lv_at hl 0 rfl) ?_
      refine lv_dup X.x X.b dX11_visit_195 rfl ?_
      refine gR_0_1 X h (hS 0) Nat.one_pos Nat.one_pos lk_X11_96 dX11_visit_196 ?_
      refine lv_iconst (v := 1) X.x X.b dX11_visit_199 (by decide) ?_
      refine lv_iadd X.x X.b dX11_visit_200 ?_
      obtain ⟨g47, e48, hf⟩ := wLe_s hf
      refine pR_0_1 X h (hS 0) Nat.one_pos Nat.one_pos lk_X11_96 e48 dX11_visit_201 (fun H locs h => ?_)
      refine lv_aload_n X.x X.b dX11_visit_204 rfl (lv_at hl 0 rfl) ?_
      refine gR_0_1 X h (hS 0) Nat.one_pos Nat.one_pos lk_X11_96 dX11_visit_205 ?_
      refine lv_iconst (v := 1) X.x X.b dX11_visit_208 (by decide) ?_
      refine lv_isub X.x X.b dX11_visit_209 ?_
      cases (Option.some.inj hf).trans JR
      exact ro_iret X h dX11_visit_210
    · have hf := wF c19 hf
      refine lv_aload_n X.x X.b dX11_visit_86 rfl (lv_at hl 0 rfl) ?_
      refine gR_0_0 X h (hS 0) Nat.one_pos Nat.one_pos lk_X11_7 dX11_visit_87 ?_
      refine lv_iload X.x X.b dX11_visit_90 (lv_at hl 5 rfl) ?_
      refine lv_iload X.x X.b dX11_visit_92 (lv_at hl 6 rfl) ?_
      refine lv_iadd X.x X.b dX11_visit_94 ?_
      refine lv_iconst (v := 0) X.x X.b dX11_visit_95 (by decide) ?_
      obtain ⟨b49, hf⟩ := wGi_s hf
      obtain ⟨g50, e51, hf⟩ := wLe_s hf
      refine bR_1 X h (hS 1) Nat.one_pos Nat.one_pos e51 b49 dX11_visit_96 (fun H locs h => ?_)
      obtain ⟨y52, e53, hf⟩ := wLe_s hf
      refine lv_iinc (v := y52) (lv' := [(6, .int y52), (0, .ref (k.1 + adR 0 0 0)), (1, .int a1), (2, .int a2), (3, .int a3), (4, .int a4), (5, .int x5)]) X.x X.b dX11_visit_97 hl (k := 6) rfl (by rw [e53]; rfl) (by decide) rfl (fun ls hl => ?_)
      refine lv_goto (tgt := 79) X.x X.b dX11_visit_100 (by decide) ?_
      exact J1 _ _ (Option.some.inj hf).symm _ _ _ h (lv_sub hl [1, 2, 3, 4, 5, 6, 0] rfl)
set_option maxHeartbeats 4000000 in
set_option maxRecDepth 20000 in
theorem kX11_visit (l : Launch) {k : En} {S : Nat → Prop} (hS : ∀ t, S t) {a1 : Int32} {a2 : Int32} {a3 : Int32} {a4 : Int32} {res : Mm × Int32} {g : Mm} (hf : fX11_visit g a1 a2 a3 a4 = some res) : Mt l yX11_visit cX11_visit 7 (some .int) (RmN 1 22) YR S k [.ref (k.1 + adR 0 0 0), .int a1, .int a2, .int a3, .int a4] g (some (.int res.2)) res.1 := by
  refine Mt.of (by decide) (Nat.le_of_ble_eq_true rfl) ?_
  intro p e s m args below meth c ls X _ h hl
  have X : Cx YR S k p s m args meth c cX11_visit 7 (some .int) RX11 := X
  have hl : lv_has ls 7 [(0, .ref (k.1 + adR 0 0 0)), (1, .int a1), (2, .int a2), (3, .int a3), (4, .int a4)] := hl
  have JR : res = res := rfl
  unfold fX11_visit at hf
  refine lv_iload_n X.x X.b dX11_visit_0 rfl (lv_at hl 1 rfl) ?_
  refine lv_iconst (v := 0) X.x X.b dX11_visit_1 (by decide) ?_
  refine lv_iconst (v := 5) X.x X.b dX11_visit_2 (by decide) ?_
  obtain ⟨y2, e1, hf⟩ := wBd_s hf
  refine ro_callsI (As := [.int a1, .int (0 : Int32), .int (5 : Int32)]) (g1 := g) (x := y2) X h (kX11_in l hS e1) mv_X11_in lk_X11_99 ⟨rfl, rfl⟩ ⟨(Nat.le_of_ble_eq_true rfl), (Nat.le_of_ble_eq_true rfl)⟩ rfl hl rfl (Nat.le_of_ble_eq_true rfl) ⟨Nat.zero_le _, Nat.zero_le _⟩ dX11_visit_3 (fun H locs h => ?_)
  refine lv_if_eq (tgt := 52) X.x X.b dX11_visit_6 (by decide) (fun c3 => ?_) (fun c3 => ?_)
  · have hf := wT c3 hf
    refine lv_bipush (v := (-2)) X.x X.b dX11_visit_52 (by decide) ?_
    cases (Option.some.inj hf).trans JR
    exact ro_iret X h dX11_visit_54
  · have hf := wF c3 hf
    refine lv_iload_n X.x X.b dX11_visit_9 rfl (lv_at hl 2 rfl) ?_
    refine lv_aload_n X.x X.b dX11_visit_10 rfl (lv_at hl 0 rfl) ?_
    refine gR_0_0 X h (hS 0) Nat.one_pos Nat.one_pos lk_X11_7 dX11_visit_11 ?_
    refine lv_sipush (v := 480) X.x X.b dX11_visit_14 (by decide) ?_
    obtain ⟨b4, hf⟩ := wGi_s hf
    refine aR_1 X h (hS 1) Nat.one_pos Nat.one_pos b4 dX11_visit_17 ?_
    refine lv_sipush (v := 9999) X.x X.b dX11_visit_18 (by decide) ?_
    obtain ⟨y6, e5, hf⟩ := wBd_s hf
    refine ro_callsI (As := [.int a2, .int (g 1 0 0 ((480 : Int32)).toNatClampNeg), .int (9999 : Int32)]) (g1 := g) (x := y6) X h (kX11_in l hS e5) mv_X11_in lk_X11_99 ⟨rfl, rfl⟩ ⟨(Nat.le_of_ble_eq_true rfl), (Nat.le_of_ble_eq_true rfl)⟩ rfl hl rfl (Nat.le_of_ble_eq_true rfl) ⟨Nat.zero_le _, Nat.zero_le _⟩ dX11_visit_21 (fun H locs h => ?_)
    refine lv_if_eq (tgt := 52) X.x X.b dX11_visit_24 (by decide) (fun c7 => ?_) (fun c7 => ?_)
    · have hf := wT c7 hf
      refine lv_bipush (v := (-2)) X.x X.b dX11_visit_52 (by decide) ?_
      cases (Option.some.inj hf).trans JR
      exact ro_iret X h dX11_visit_54
    · have hf := wF c7 hf
      refine lv_iload_n X.x X.b dX11_visit_27 rfl (lv_at hl 3 rfl) ?_
      refine lv_iload_n X.x X.b dX11_visit_28 rfl (lv_at hl 2 rfl) ?_
      refine lv_iconst (v := 1) X.x X.b dX11_visit_29 (by decide) ?_
      refine lv_iadd X.x X.b dX11_visit_30 ?_
      refine lv_sipush (v := 9999) X.x X.b dX11_visit_31 (by decide) ?_
      obtain ⟨y9, e8, hf⟩ := wBd_s hf
      refine ro_callsI (As := [.int a3, .int (a2 + (1 : Int32)), .int (9999 : Int32)]) (g1 := g) (x := y9) X h (kX11_in l hS e8) mv_X11_in lk_X11_99 ⟨rfl, rfl⟩ ⟨(Nat.le_of_ble_eq_true rfl), (Nat.le_of_ble_eq_true rfl)⟩ rfl hl rfl (Nat.le_of_ble_eq_true rfl) ⟨Nat.zero_le _, Nat.zero_le _⟩ dX11_visit_34 (fun H locs h => ?_)
      refine lv_if_eq (tgt := 52) X.x X.b dX11_visit_37 (by decide) (fun c10 => ?_) (fun c10 => ?_)
      · have hf := wT c10 hf
        refine lv_bipush (v := (-2)) X.x X.b dX11_visit_52 (by decide) ?_
        cases (Option.some.inj hf).trans JR
        exact ro_iret X h dX11_visit_54
      · have hf := wF c10 hf
        refine lv_iload X.x X.b dX11_visit_40 (lv_at hl 4 rfl) ?_
        refine lv_iconst (v := 1) X.x X.b dX11_visit_42 (by decide) ?_
        refine lv_sipush (v := 999) X.x X.b dX11_visit_43 (by decide) ?_
        obtain ⟨y12, e11, hf⟩ := wBd_s hf
        refine ro_callsI (As := [.int a4, .int (1 : Int32), .int (999 : Int32)]) (g1 := g) (x := y12) X h (kX11_in l hS e11) mv_X11_in lk_X11_99 ⟨rfl, rfl⟩ ⟨(Nat.le_of_ble_eq_true rfl), (Nat.le_of_ble_eq_true rfl)⟩ rfl hl rfl (Nat.le_of_ble_eq_true rfl) ⟨Nat.zero_le _, Nat.zero_le _⟩ dX11_visit_46 (fun H locs h => ?_)
        refine lv_if_ne (tgt := 55) X.x X.b dX11_visit_49 (by decide) (fun c13 => ?_) (fun c13 => ?_)
        · have hf := wF c13 hf
          refine lv_aload_n X.x X.b dX11_visit_55 rfl (lv_at hl 0 rfl) ?_
          refine gR_0_1 X h (hS 0) Nat.one_pos Nat.one_pos lk_X11_96 dX11_visit_56 ?_
          refine lv_bipush (v := 12) X.x X.b dX11_visit_59 (by decide) ?_
          refine lv_icmp_ne (tgt := 67) X.x X.b dX11_visit_61 (by decide) (fun c14 => ?_) (fun c14 => ?_)
          · have hf := wF c14 hf
            refine lv_bipush (v := 30) X.x X.b dX11_visit_67 (by decide) ?_
            refine lv_aload_n X.x X.b dX11_visit_69 rfl (lv_at hl 0 rfl) ?_
            refine gR_0_1 X h (hS 0) Nat.one_pos Nat.one_pos lk_X11_96 dX11_visit_70 ?_
            refine lv_imul X.x X.b dX11_visit_73 ?_
            obtain ⟨y15, e16, hf⟩ := wLe_s hf
            refine lv_nmi e16 ?_
            refine lv_istore (lv' := [(5, .int y15), (0, .ref (k.1 + adR 0 0 0)), (1, .int a1), (2, .int a2), (3, .int a3), (4, .int a4)]) X.x X.b dX11_visit_74 hl (by decide) rfl (fun ls hl => ?_)
            refine lv_iconst (v := 0) X.x X.b dX11_visit_76 (by decide) ?_
            obtain ⟨y17, e18, hf⟩ := wLe_s hf
            refine lv_nmi e18 ?_
            refine lv_istore (lv' := [(6, .int y17), (5, .int y15), (0, .ref (k.1 + adR 0 0 0)), (1, .int a1), (2, .int a2), (3, .int a3), (4, .int a4)]) X.x X.b dX11_visit_77 hl (by decide) rfl (fun ls hl => ?_)
            exact wX11_visit_L79 hS X JR _ _ _ _ _ _ h (lv_sub hl [2, 3, 4, 5, 6, 1, 0] rfl) hf
          · have hf := wT c14 hf
            refine lv_bipush (v := (-4)) X.x X.b dX11_visit_64 (by decide) ?_
            cases (Option.some.inj hf).trans JR
            exact ro_iret X h dX11_visit_66
        · have hf := wT c13 hf
          refine lv_bipush (v := (-2)) X.x X.b dX11_visit_52 (by decide) ?_
          cases (Option.some.inj hf).trans JR
          exact ro_iret X h dX11_visit_54
set_option maxHeartbeats 4000000 in
set_option maxRecDepth 20000 in
theorem kX11_late (l : Launch) {k : En} {S : Nat → Prop} (hS : ∀ t, S t) {a1 : Int32} {a2 : Int32} {res : Mm × Int32} {g : Mm} (hf : fX11_late g a1 a2 = some res) : Mt l yX11_late cX11_late 4 (some .int) (RmN 2 43) YR S k [.ref (k.1 + adR 0 0 0), .int a1, .int a2] g (some (.int res.2)) res.1 := by
  refine Mt.of (by decide) (Nat.le_of_ble_eq_true rfl) ?_
  intro p e s m args below meth c ls X _ h hl
  have X : Cx YR S k p s m args meth c cX11_late 4 (some .int) RX11 := X
  have hl : lv_has ls 4 [(0, .ref (k.1 + adR 0 0 0)), (1, .int a1), (2, .int a2)] := hl
  have JR : res = res := rfl
  unfold fX11_late at hf
  refine lv_aload_n X.x X.b dX11_late_0 rfl (lv_at hl 0 rfl) ?_
  refine lv_iload_n X.x X.b dX11_late_1 rfl (lv_at hl 1 rfl) ?_
  obtain ⟨y2, e1, hf⟩ := wBd_s hf
  refine ro_callvI (As := [.int a1]) (g1 := g) (x := y2) X h (kX11_isVisit l hS e1) mv_X11_isVisit lk_X11_114 ⟨rfl, rfl⟩ ⟨(Nat.le_of_ble_eq_true rfl), (Nat.le_of_ble_eq_true rfl)⟩ (rR_0 X h (hS 0) Nat.one_pos Nat.one_pos) rfl hl rfl (Nat.le_of_ble_eq_true rfl) ⟨Nat.zero_le _, Nat.zero_le _⟩ dX11_late_2 (fun H locs h => ?_)
  refine lv_if_ne (tgt := 10) X.x X.b dX11_late_5 (by decide) (fun c3 => ?_) (fun c3 => ?_)
  · have hf := wF c3 hf
    refine lv_iload_n X.x X.b dX11_late_10 rfl (lv_at hl 2 rfl) ?_
    refine lv_iconst (v := 0) X.x X.b dX11_late_11 (by decide) ?_
    refine lv_sipush (v := 999) X.x X.b dX11_late_12 (by decide) ?_
    obtain ⟨y5, e4, hf⟩ := wBd_s hf
    refine ro_callsI (As := [.int a2, .int (0 : Int32), .int (999 : Int32)]) (g1 := g) (x := y5) X h (kX11_in l hS e4) mv_X11_in lk_X11_99 ⟨rfl, rfl⟩ ⟨(Nat.le_of_ble_eq_true rfl), (Nat.le_of_ble_eq_true rfl)⟩ rfl hl rfl (Nat.le_of_ble_eq_true rfl) ⟨Nat.zero_le _, Nat.zero_le _⟩ dX11_late_15 (fun H locs h => ?_)
    refine lv_if_ne (tgt := 24) X.x X.b dX11_late_18 (by decide) (fun c6 => ?_) (fun c6 => ?_)
    · have hf := wF c6 hf
      refine lv_aload_n X.x X.b dX11_late_24 rfl (lv_at hl 0 rfl) ?_
      refine lv_iload_n X.x X.b dX11_late_25 rfl (lv_at hl 1 rfl) ?_
      refine lv_bipush (v := 6) X.x X.b dX11_late_26 (by decide) ?_
      obtain ⟨y8, e7, hf⟩ := wBd_s hf
      refine ro_callvI (As := [.int a1, .int (6 : Int32)]) (g1 := g) (x := y8) X h (kX11_of l hS e7) mv_X11_of lk_X11_106 ⟨rfl, rfl⟩ ⟨(Nat.le_of_ble_eq_true rfl), (Nat.le_of_ble_eq_true rfl)⟩ (rR_0 X h (hS 0) Nat.one_pos Nat.one_pos) rfl hl rfl (Nat.le_of_ble_eq_true rfl) ⟨Nat.zero_le _, Nat.zero_le _⟩ dX11_late_28 (fun H locs h => ?_)
      refine lv_if_eq (tgt := 37) X.x X.b dX11_late_31 (by decide) (fun c9 => ?_) (fun c9 => ?_)
      · have hf := wT c9 hf
        refine lv_aload_n X.x X.b dX11_late_37 rfl (lv_at hl 0 rfl) ?_
        refine lv_iload_n X.x X.b dX11_late_38 rfl (lv_at hl 1 rfl) ?_
        refine lv_iconst (v := 5) X.x X.b dX11_late_39 (by decide) ?_
        obtain ⟨y11, e10, hf⟩ := wBd_s hf
        refine ro_callvI (As := [.int a1, .int (5 : Int32)]) (g1 := g) (x := y11) X h (kX11_of l hS e10) mv_X11_of lk_X11_106 ⟨rfl, rfl⟩ ⟨(Nat.le_of_ble_eq_true rfl), (Nat.le_of_ble_eq_true rfl)⟩ (rR_0 X h (hS 0) Nat.one_pos Nat.one_pos) rfl hl rfl (Nat.le_of_ble_eq_true rfl) ⟨Nat.zero_le _, Nat.zero_le _⟩ dX11_late_40 (fun H locs h => ?_)
        refine lv_istore_n (lv' := [(3, .int y11), (0, .ref (k.1 + adR 0 0 0)), (1, .int a1), (2, .int a2)]) X.x X.b dX11_late_43 rfl hl (by decide) rfl (fun ls hl => ?_)
        refine lv_aload_n X.x X.b dX11_late_44 rfl (lv_at hl 1 rfl) ?_
        refine gR_0_0 X h (hS 0) Nat.one_pos Nat.one_pos lk_X11_7 dX11_late_45 ?_
        refine lv_bipush (v := 30) X.x X.b dX11_late_48 (by decide) ?_
        refine lv_iload_n X.x X.b dX11_late_50 rfl (lv_at hl 2 rfl) ?_
        refine lv_imul X.x X.b dX11_late_51 ?_
        refine lv_iconst (v := 5) X.x X.b dX11_late_52 (by decide) ?_
        refine lv_iadd X.x X.b dX11_late_53 ?_
        refine lv_iload_n X.x X.b dX11_late_54 rfl (lv_at hl 3 rfl) ?_
        obtain ⟨b12, hf⟩ := wGi_s hf
        obtain ⟨g13, e14, hf⟩ := wLe_s hf
        refine bR_1 X h (hS 1) Nat.one_pos Nat.one_pos e14 b12 dX11_late_55 (fun H locs h => ?_)
        refine lv_iload_n X.x X.b dX11_late_56 rfl (lv_at hl 0 rfl) ?_
        cases (Option.some.inj hf).trans JR
        exact ro_iret X h dX11_late_57
      · have hf := wF c9 hf
        refine lv_bipush (v := (-3)) X.x X.b dX11_late_34 (by decide) ?_
        cases (Option.some.inj hf).trans JR
        exact ro_iret X h dX11_late_36
    · have hf := wT c6 hf
      refine lv_bipush (v := (-2)) X.x X.b dX11_late_21 (by decide) ?_
      cases (Option.some.inj hf).trans JR
      exact ro_iret X h dX11_late_23
  · have hf := wT c3 hf
    refine lv_iconst (v := (-1)) X.x X.b dX11_late_8 (by decide) ?_
    cases (Option.some.inj hf).trans JR
    exact ro_iret X h dX11_late_9
set_option maxHeartbeats 4000000 in
set_option maxRecDepth 20000 in
theorem kX11_isAhead (l : Launch) {k : En} {S : Nat → Prop} (hS : ∀ t, S t) {g0 : Mm} {a1 : Int32} {res : Int32} (hf : fX11_isAhead g0 a1 = some res) : Mt l yX11_isAhead cX11_isAhead 2 (some .boolean) (RmN 1 22) YR S k [.ref (k.1 + adR 0 0 0), .int a1] g0 (some (.int res)) g0 := by
  refine Mt.of (by decide) (Nat.le_of_ble_eq_true rfl) ?_
  intro p e s m args below meth c ls X _ h hl
  have X : Cx YR S k p s m args meth c cX11_isAhead 2 (some .boolean) RX11 := X
  have hl : lv_has ls 2 [(0, .ref (k.1 + adR 0 0 0)), (1, .int a1)] := hl
  have JR : res = res := rfl
  unfold fX11_isAhead at hf
  refine lv_aload_n X.x X.b dX11_isAhead_0 rfl (lv_at hl 0 rfl) ?_
  refine lv_iload_n X.x X.b dX11_isAhead_1 rfl (lv_at hl 1 rfl) ?_
  refine lv_bipush (v := 6) X.x X.b dX11_isAhead_2 (by decide) ?_
  obtain ⟨y2, e1, hf⟩ := wBd_s hf
  refine ro_callvI (As := [.int a1, .int (6 : Int32)]) (g1 := g0) (x := y2) X h (kX11_of l hS e1) mv_X11_of lk_X11_106 ⟨rfl, rfl⟩ ⟨(Nat.le_of_ble_eq_true rfl), (Nat.le_of_ble_eq_true rfl)⟩ (rR_0 X h (hS 0) Nat.one_pos Nat.one_pos) rfl hl rfl (Nat.le_of_ble_eq_true rfl) ⟨Nat.zero_le _, Nat.zero_le _⟩ dX11_isAhead_4 (fun H locs h => ?_)
  refine lv_iconst (v := 1) X.x X.b dX11_isAhead_7 (by decide) ?_
  refine lv_icmp_gt (tgt := 15) X.x X.b dX11_isAhead_8 (by decide) (fun c3 => ?_) (fun c3 => ?_)
  · have hf := wT c3 hf
    refine lv_iconst (v := 0) X.x X.b dX11_isAhead_15 (by decide) ?_
    cases (Option.some.inj hf).trans JR
    exact ro_zret X h (Or.inl rfl) dX11_isAhead_16
  · have hf := wF c3 hf
    refine lv_iconst (v := 1) X.x X.b dX11_isAhead_11 (by decide) ?_
    refine lv_goto (tgt := 16) X.x X.b dX11_isAhead_12 (by decide) ?_
    cases (Option.some.inj hf).trans JR
    exact ro_zret X h (Or.inr rfl) dX11_isAhead_16
set_option maxHeartbeats 4000000 in
set_option maxRecDepth 20000 in
theorem wX11_wish_b55 {k : En} {S : Nat → Prop} (hS : ∀ t, S t) {a1 : Int32} {a2 : Int32} {res : Mm × Int32} (X : Cx YR S k p s m args meth c cX11_wish 4 (some .int) RX11) {g : Mm} {H : Heap} {locs : List Loc} {ls : Array Slot} (h : Hx YR S k s g H locs) (hl : lv_has ls 4 [(0, .ref (k.1 + adR 0 0 0)), (1, .int a1), (2, .int a2)]) {r : Mm × Int32} (hf : fX11_wish_b55 g a1 a2 = some r) (JR : r = res) :
    W p l e (RmN 2 43) s m args below meth c H locs 0 0 (Fin YR S k args s below (some (.int res.2)) res.1) (F0 m 55 ls []) := by
  unfold fX11_wish_b55 at hf
  refine lv_aload_n X.x X.b dX11_wish_55 rfl (lv_at hl 0 rfl) ?_
  refine lv_iload_n X.x X.b dX11_wish_56 rfl (lv_at hl 1 rfl) ?_
  obtain ⟨y7, e6, hf⟩ := wBd_s hf
  refine ro_callvI (As := [.int a1]) (g1 := g) (x := y7) X h (kX11_isAhead l hS e6) mv_X11_isAhead lk_X11_121 ⟨rfl, rfl⟩ ⟨(Nat.le_of_ble_eq_true rfl), (Nat.le_of_ble_eq_true rfl)⟩ (rR_0 X h (hS 0) Nat.one_pos Nat.one_pos) rfl hl rfl (Nat.le_of_ble_eq_true rfl) ⟨Nat.zero_le _, Nat.zero_le _⟩ dX11_wish_57 (fun H locs h => ?_)
  refine lv_if_ne (tgt := 66) X.x X.b dX11_wish_60 (by decide) (fun c8 => ?_) (fun c8 => ?_)
  · have hf := wF c8 hf
    refine lv_aload_n X.x X.b dX11_wish_66 rfl (lv_at hl 0 rfl) ?_
    refine lv_iload_n X.x X.b dX11_wish_67 rfl (lv_at hl 1 rfl) ?_
    refine lv_iconst (v := 4) X.x X.b dX11_wish_68 (by decide) ?_
    obtain ⟨y10, e9, hf⟩ := wBd_s hf
    refine ro_callvI (As := [.int a1, .int (4 : Int32)]) (g1 := g) (x := y10) X h (kX11_of l hS e9) mv_X11_of lk_X11_106 ⟨rfl, rfl⟩ ⟨(Nat.le_of_ble_eq_true rfl), (Nat.le_of_ble_eq_true rfl)⟩ (rR_0 X h (hS 0) Nat.one_pos Nat.one_pos) rfl hl rfl (Nat.le_of_ble_eq_true rfl) ⟨Nat.zero_le _, Nat.zero_le _⟩ dX11_wish_69 (fun H locs h => ?_)
    refine lv_istore_n (lv' := [(3, .int y10), (0, .ref (k.1 + adR 0 0 0)), (1, .int a1), (2, .int a2)]) X.x X.b dX11_wish_72 rfl hl (by decide) rfl (fun ls hl => ?_)
    refine lv_aload_n X.x X.b dX11_wish_73 rfl (lv_at hl 1 rfl) ?_
    refine gR_0_0 X h (hS 0) Nat.one_pos Nat.one_pos lk_X11_7 dX11_wish_74 ?_
    refine lv_bipush (v := 30) X.x X.b dX11_wish_77 (by decide) ?_
    refine lv_iload_n X.x X.b dX11_wish_79 rfl (lv_at hl 2 rfl) ?_
    refine lv_imul X.x X.b dX11_wish_80 ?_
    refine lv_iconst (v := 4) X.x X.b dX11_wish_81 (by decide) ?_
    refine lv_iadd X.x X.b dX11_wish_82 ?_
    refine lv_iload_n X.x X.b dX11_wish_83 rfl (lv_at hl 3 rfl) ?_
    obtain ⟨b11, hf⟩ := wGi_s hf
    obtain ⟨g12, e13, hf⟩ := wLe_s hf
    refine bR_1 X h (hS 1) Nat.one_pos Nat.one_pos e13 b11 dX11_wish_84 (fun H locs h => ?_)
    refine lv_iload_n X.x X.b dX11_wish_85 rfl (lv_at hl 0 rfl) ?_
    refine lv_iconst (v := (-1)) X.x X.b dX11_wish_86 (by decide) ?_
    refine lv_icmp_ne (tgt := 95) X.x X.b dX11_wish_87 (by decide) (fun c14 => ?_) (fun c14 => ?_)
    · have hf := wF c14 hf
      refine lv_iload_n X.x X.b dX11_wish_95 rfl (lv_at hl 0 rfl) ?_
      cases (Option.some.inj hf).trans JR
      exact ro_iret X h dX11_wish_96
    · have hf := wT c14 hf
      refine lv_bipush (v := 6) X.x X.b dX11_wish_90 (by decide) ?_
      refine lv_goto (tgt := 96) X.x X.b dX11_wish_92 (by decide) ?_
      cases (Option.some.inj hf).trans JR
      exact ro_iret X h dX11_wish_96
  · have hf := wT c8 hf
    refine lv_bipush (v := (-3)) X.x X.b dX11_wish_63 (by decide) ?_
    cases (Option.some.inj hf).trans JR
    exact ro_iret X h dX11_wish_65
set_option maxHeartbeats 4000000 in
set_option maxRecDepth 20000 in
theorem wX11_wish_b23 {k : En} {S : Nat → Prop} (hS : ∀ t, S t) {a1 : Int32} {a2 : Int32} {res : Mm × Int32} (X : Cx YR S k p s m args meth c cX11_wish 4 (some .int) RX11) {g : Mm} {H : Heap} {locs : List Loc} {ls : Array Slot} (h : Hx YR S k s g H locs) (hl : lv_has ls 4 [(0, .ref (k.1 + adR 0 0 0)), (1, .int a1), (2, .int a2)]) {r : Mm × Int32} (hf : fX11_wish_b23 g a1 a2 = some r) (JR : r = res) :
    W p l e (RmN 2 43) s m args below meth c H locs 0 0 (Fin YR S k args s below (some (.int res.2)) res.1) (F0 m 23 ls []) := by
  unfold fX11_wish_b23 at hf
  refine lv_iload_n X.x X.b dX11_wish_23 rfl (lv_at hl 2 rfl) ?_
  refine lv_iconst (v := (-1)) X.x X.b dX11_wish_24 (by decide) ?_
  refine lv_icmp_eq (tgt := 55) X.x X.b dX11_wish_25 (by decide) (fun c5 => ?_) (fun c5 => ?_)
  · have hf := wT c5 hf
    exact wX11_wish_b55 hS X h (lv_sub hl [0, 1, 2] rfl) hf JR
  · have hf := wF c5 hf
    refine lv_aload_n X.x X.b dX11_wish_28 rfl (lv_at hl 0 rfl) ?_
    refine gR_0_0 X h (hS 0) Nat.one_pos Nat.one_pos lk_X11_7 dX11_wish_29 ?_
    refine lv_sipush (v := 490) X.x X.b dX11_wish_32 (by decide) ?_
    refine lv_iload_n X.x X.b dX11_wish_35 rfl (lv_at hl 2 rfl) ?_
    refine lv_iadd X.x X.b dX11_wish_36 ?_
    obtain ⟨b15, hf⟩ := wGi_s hf
    refine aR_1 X h (hS 1) Nat.one_pos Nat.one_pos b15 dX11_wish_37 ?_
    refine lv_aload_n X.x X.b dX11_wish_38 rfl (lv_at hl 0 rfl) ?_
    refine gR_0_21 X h (hS 0) Nat.one_pos Nat.one_pos lk_X11_53 dX11_wish_39 ?_
    refine lv_aload_n X.x X.b dX11_wish_42 rfl (lv_at hl 0 rfl) ?_
    refine lv_iload_n X.x X.b dX11_wish_43 rfl (lv_at hl 1 rfl) ?_
    refine lv_iconst (v := 0) X.x X.b dX11_wish_44 (by decide) ?_
    obtain ⟨y17, e16, hf⟩ := wBd_s hf
    refine ro_callvI (As := [.int a1, .int (0 : Int32)]) (g1 := g) (x := y17) X h (kX11_of l hS e16) mv_X11_of lk_X11_106 ⟨rfl, rfl⟩ ⟨(Nat.le_of_ble_eq_true rfl), (Nat.le_of_ble_eq_true rfl)⟩ (rR_0 X h (hS 0) Nat.one_pos Nat.one_pos) rfl hl rfl (Nat.le_of_ble_eq_true rfl) ⟨Nat.zero_le _, Nat.zero_le _⟩ dX11_wish_45 (fun H locs h => ?_)
    obtain ⟨b18, hf⟩ := wGi_s hf
    refine aR_14 X h (hS 14) Nat.one_pos Nat.one_pos b18 dX11_wish_48 ?_
    refine lv_icmp_ge (tgt := 55) X.x X.b dX11_wish_49 (by decide) (fun c19 => ?_) (fun c19 => ?_)
    · have hf := wT c19 hf
      exact wX11_wish_b55 hS X h (lv_sub hl [0, 1, 2] rfl) hf JR
    · have hf := wF c19 hf
      refine lv_bipush (v := (-2)) X.x X.b dX11_wish_52 (by decide) ?_
      cases (Option.some.inj hf).trans JR
      exact ro_iret X h dX11_wish_54
set_option maxHeartbeats 4000000 in
set_option maxRecDepth 20000 in
theorem kX11_wish (l : Launch) {k : En} {S : Nat → Prop} (hS : ∀ t, S t) {a1 : Int32} {a2 : Int32} {res : Mm × Int32} {g : Mm} (hf : fX11_wish g a1 a2 = some res) : Mt l yX11_wish cX11_wish 4 (some .int) (RmN 2 43) YR S k [.ref (k.1 + adR 0 0 0), .int a1, .int a2] g (some (.int res.2)) res.1 := by
  refine Mt.of (by decide) (Nat.le_of_ble_eq_true rfl) ?_
  intro p e s m args below meth c ls X _ h hl
  have X : Cx YR S k p s m args meth c cX11_wish 4 (some .int) RX11 := X
  have hl : lv_has ls 4 [(0, .ref (k.1 + adR 0 0 0)), (1, .int a1), (2, .int a2)] := hl
  have JR : res = res := rfl
  unfold fX11_wish at hf
  refine lv_aload_n X.x X.b dX11_wish_0 rfl (lv_at hl 0 rfl) ?_
  refine lv_iload_n X.x X.b dX11_wish_1 rfl (lv_at hl 1 rfl) ?_
  obtain ⟨y2, e1, hf⟩ := wBd_s hf
  refine ro_callvI (As := [.int a1]) (g1 := g) (x := y2) X h (kX11_isVisit l hS e1) mv_X11_isVisit lk_X11_114 ⟨rfl, rfl⟩ ⟨(Nat.le_of_ble_eq_true rfl), (Nat.le_of_ble_eq_true rfl)⟩ (rR_0 X h (hS 0) Nat.one_pos Nat.one_pos) rfl hl rfl (Nat.le_of_ble_eq_true rfl) ⟨Nat.zero_le _, Nat.zero_le _⟩ dX11_wish_2 (fun H locs h => ?_)
  refine lv_if_eq (tgt := 21) X.x X.b dX11_wish_5 (by decide) (fun c3 => ?_) (fun c3 => ?_)
  · have hf := wT c3 hf
    refine lv_iconst (v := (-1)) X.x X.b dX11_wish_21 (by decide) ?_
    cases (Option.some.inj hf).trans JR
    exact ro_iret X h dX11_wish_22
  · have hf := wF c3 hf
    refine lv_iload_n X.x X.b dX11_wish_8 rfl (lv_at hl 2 rfl) ?_
    refine lv_iconst (v := (-1)) X.x X.b dX11_wish_9 (by decide) ?_
    refine lv_icmp_eq (tgt := 23) X.x X.b dX11_wish_10 (by decide) (fun c4 => ?_) (fun c4 => ?_)
    · have hf := wT c4 hf
      exact wX11_wish_b23 hS X h (lv_sub hl [0, 1, 2] rfl) hf JR
    · have hf := wF c4 hf
      refine lv_aload_n X.x X.b dX11_wish_13 rfl (lv_at hl 0 rfl) ?_
      refine lv_iload_n X.x X.b dX11_wish_14 rfl (lv_at hl 2 rfl) ?_
      obtain ⟨y21, e20, hf⟩ := wBd_s hf
      refine ro_callvI (As := [.int a2]) (g1 := g) (x := y21) X h (kX11_isStand l hS e20) mv_X11_isStand lk_X11_118 ⟨rfl, rfl⟩ ⟨(Nat.le_of_ble_eq_true rfl), (Nat.le_of_ble_eq_true rfl)⟩ (rR_0 X h (hS 0) Nat.one_pos Nat.one_pos) rfl hl rfl (Nat.le_of_ble_eq_true rfl) ⟨Nat.zero_le _, Nat.zero_le _⟩ dX11_wish_15 (fun H locs h => ?_)
      refine lv_if_ne (tgt := 23) X.x X.b dX11_wish_18 (by decide) (fun c22 => ?_) (fun c22 => ?_)
      · have hf := wF c22 hf
        exact wX11_wish_b23 hS X h (lv_sub hl [0, 1, 2] rfl) hf JR
      · have hf := wT c22 hf
        refine lv_iconst (v := (-1)) X.x X.b dX11_wish_21 (by decide) ?_
        cases (Option.some.inj hf).trans JR
        exact ro_iret X h dX11_wish_22
set_option maxHeartbeats 4000000 in
set_option maxRecDepth 20000 in
theorem kX11_feed (l : Launch) {k : En} {S : Nat → Prop} (hS : ∀ t, S t) {a1 : Int32} {a2 : Int32} {a3 : Int32} {a4 : Int32} {res : Mm × Int32} {g : Mm} (hf : fX11_feed g a1 a2 a3 a4 = some res) : Mt l yX11_feed cX11_feed 6 (some .int) (RmN 2 43) YR S k [.ref (k.1 + adR 0 0 0), .int a1, .int a2, .int a3, .int a4] g (some (.int res.2)) res.1 := by
  refine Mt.of (by decide) (Nat.le_of_ble_eq_true rfl) ?_
  intro p e s m args below meth c ls X _ h hl
  have X : Cx YR S k p s m args meth c cX11_feed 6 (some .int) RX11 := X
  have hl : lv_has ls 6 [(0, .ref (k.1 + adR 0 0 0)), (1, .int a1), (2, .int a2), (3, .int a3), (4, .int a4)] := hl
  have JR : res = res := rfl
  unfold fX11_feed at hf
  refine lv_aload_n X.x X.b dX11_feed_0 rfl (lv_at hl 0 rfl) ?_
  refine lv_iload_n X.x X.b dX11_feed_1 rfl (lv_at hl 1 rfl) ?_
  obtain ⟨y2, e1, hf⟩ := wBd_s hf
  refine ro_callvI (As := [.int a1]) (g1 := g) (x := y2) X h (kX11_isVisit l hS e1) mv_X11_isVisit lk_X11_114 ⟨rfl, rfl⟩ ⟨(Nat.le_of_ble_eq_true rfl), (Nat.le_of_ble_eq_true rfl)⟩ (rR_0 X h (hS 0) Nat.one_pos Nat.one_pos) rfl hl rfl (Nat.le_of_ble_eq_true rfl) ⟨Nat.zero_le _, Nat.zero_le _⟩ dX11_feed_2 (fun H locs h => ?_)
  refine lv_if_eq (tgt := 16) X.x X.b dX11_feed_5 (by decide) (fun c3 => ?_) (fun c3 => ?_)
  · have hf := wT c3 hf
    refine lv_iconst (v := (-1)) X.x X.b dX11_feed_16 (by decide) ?_
    cases (Option.some.inj hf).trans JR
    exact ro_iret X h dX11_feed_17
  · have hf := wF c3 hf
    refine lv_aload_n X.x X.b dX11_feed_8 rfl (lv_at hl 0 rfl) ?_
    refine lv_iload_n X.x X.b dX11_feed_9 rfl (lv_at hl 2 rfl) ?_
    obtain ⟨y5, e4, hf⟩ := wBd_s hf
    refine ro_callvI (As := [.int a2]) (g1 := g) (x := y5) X h (kX11_isVisit l hS e4) mv_X11_isVisit lk_X11_114 ⟨rfl, rfl⟩ ⟨(Nat.le_of_ble_eq_true rfl), (Nat.le_of_ble_eq_true rfl)⟩ (rR_0 X h (hS 0) Nat.one_pos Nat.one_pos) rfl hl rfl (Nat.le_of_ble_eq_true rfl) ⟨Nat.zero_le _, Nat.zero_le _⟩ dX11_feed_10 (fun H locs h => ?_)
    refine lv_if_ne (tgt := 18) X.x X.b dX11_feed_13 (by decide) (fun c6 => ?_) (fun c6 => ?_)
    · have hf := wF c6 hf
      refine lv_iload_n X.x X.b dX11_feed_18 rfl (lv_at hl 1 rfl) ?_
      refine lv_iload_n X.x X.b dX11_feed_19 rfl (lv_at hl 2 rfl) ?_
      refine lv_icmp_eq (tgt := 44) X.x X.b dX11_feed_20 (by decide) (fun c7 => ?_) (fun c7 => ?_)
      · have hf := wT c7 hf
        refine lv_bipush (v := (-2)) X.x X.b dX11_feed_44 (by decide) ?_
        cases (Option.some.inj hf).trans JR
        exact ro_iret X h dX11_feed_46
      · have hf := wF c7 hf
        refine lv_iload_n X.x X.b dX11_feed_23 rfl (lv_at hl 3 rfl) ?_
        refine lv_iconst (v := 1) X.x X.b dX11_feed_24 (by decide) ?_
        refine lv_bipush (v := 99) X.x X.b dX11_feed_25 (by decide) ?_
        obtain ⟨y9, e8, hf⟩ := wBd_s hf
        refine ro_callsI (As := [.int a3, .int (1 : Int32), .int (99 : Int32)]) (g1 := g) (x := y9) X h (kX11_in l hS e8) mv_X11_in lk_X11_99 ⟨rfl, rfl⟩ ⟨(Nat.le_of_ble_eq_true rfl), (Nat.le_of_ble_eq_true rfl)⟩ rfl hl rfl (Nat.le_of_ble_eq_true rfl) ⟨Nat.zero_le _, Nat.zero_le _⟩ dX11_feed_27 (fun H locs h => ?_)
        refine lv_if_eq (tgt := 44) X.x X.b dX11_feed_30 (by decide) (fun c10 => ?_) (fun c10 => ?_)
        · have hf := wT c10 hf
          refine lv_bipush (v := (-2)) X.x X.b dX11_feed_44 (by decide) ?_
          cases (Option.some.inj hf).trans JR
          exact ro_iret X h dX11_feed_46
        · have hf := wF c10 hf
          refine lv_iload X.x X.b dX11_feed_33 (lv_at hl 4 rfl) ?_
          refine lv_iconst (v := 1) X.x X.b dX11_feed_35 (by decide) ?_
          refine lv_bipush (v := 99) X.x X.b dX11_feed_36 (by decide) ?_
          obtain ⟨y12, e11, hf⟩ := wBd_s hf
          refine ro_callsI (As := [.int a4, .int (1 : Int32), .int (99 : Int32)]) (g1 := g) (x := y12) X h (kX11_in l hS e11) mv_X11_in lk_X11_99 ⟨rfl, rfl⟩ ⟨(Nat.le_of_ble_eq_true rfl), (Nat.le_of_ble_eq_true rfl)⟩ rfl hl rfl (Nat.le_of_ble_eq_true rfl) ⟨Nat.zero_le _, Nat.zero_le _⟩ dX11_feed_38 (fun H locs h => ?_)
          refine lv_if_ne (tgt := 47) X.x X.b dX11_feed_41 (by decide) (fun c13 => ?_) (fun c13 => ?_)
          · have hf := wF c13 hf
            refine lv_aload_n X.x X.b dX11_feed_47 rfl (lv_at hl 0 rfl) ?_
            refine lv_iload_n X.x X.b dX11_feed_48 rfl (lv_at hl 1 rfl) ?_
            refine lv_bipush (v := 6) X.x X.b dX11_feed_49 (by decide) ?_
            obtain ⟨y15, e14, hf⟩ := wBd_s hf
            refine ro_callvI (As := [.int a1, .int (6 : Int32)]) (g1 := g) (x := y15) X h (kX11_of l hS e14) mv_X11_of lk_X11_106 ⟨rfl, rfl⟩ ⟨(Nat.le_of_ble_eq_true rfl), (Nat.le_of_ble_eq_true rfl)⟩ (rR_0 X h (hS 0) Nat.one_pos Nat.one_pos) rfl hl rfl (Nat.le_of_ble_eq_true rfl) ⟨Nat.zero_le _, Nat.zero_le _⟩ dX11_feed_51 (fun H locs h => ?_)
            refine lv_if_ne (tgt := 67) X.x X.b dX11_feed_54 (by decide) (fun c16 => ?_) (fun c16 => ?_)
            · have hf := wF c16 hf
              refine lv_bipush (v := (-3)) X.x X.b dX11_feed_67 (by decide) ?_
              cases (Option.some.inj hf).trans JR
              exact ro_iret X h dX11_feed_69
            · have hf := wT c16 hf
              refine lv_aload_n X.x X.b dX11_feed_57 rfl (lv_at hl 0 rfl) ?_
              refine lv_iload_n X.x X.b dX11_feed_58 rfl (lv_at hl 2 rfl) ?_
              refine lv_bipush (v := 6) X.x X.b dX11_feed_59 (by decide) ?_
              obtain ⟨y18, e17, hf⟩ := wBd_s hf
              refine ro_callvI (As := [.int a2, .int (6 : Int32)]) (g1 := g) (x := y18) X h (kX11_of l hS e17) mv_X11_of lk_X11_106 ⟨rfl, rfl⟩ ⟨(Nat.le_of_ble_eq_true rfl), (Nat.le_of_ble_eq_true rfl)⟩ (rR_0 X h (hS 0) Nat.one_pos Nat.one_pos) rfl hl rfl (Nat.le_of_ble_eq_true rfl) ⟨Nat.zero_le _, Nat.zero_le _⟩ dX11_feed_61 (fun H locs h => ?_)
              refine lv_if_eq (tgt := 70) X.x X.b dX11_feed_64 (by decide) (fun c19 => ?_) (fun c19 => ?_)
              · have hf := wT c19 hf
                refine lv_aload_n X.x X.b dX11_feed_70 rfl (lv_at hl 0 rfl) ?_
                refine gR_0_2 X h (hS 0) Nat.one_pos Nat.one_pos lk_X11_124 dX11_feed_71 ?_
                refine lv_bipush (v := 16) X.x X.b dX11_feed_74 (by decide) ?_
                refine lv_icmp_ne (tgt := 82) X.x X.b dX11_feed_76 (by decide) (fun c20 => ?_) (fun c20 => ?_)
                · have hf := wF c20 hf
                  refine lv_sipush (v := 360) X.x X.b dX11_feed_82 (by decide) ?_
                  refine lv_bipush (v := 6) X.x X.b dX11_feed_85 (by decide) ?_
                  refine lv_aload_n X.x X.b dX11_feed_87 rfl (lv_at hl 0 rfl) ?_
                  refine gR_0_2 X h (hS 0) Nat.one_pos Nat.one_pos lk_X11_124 dX11_feed_88 ?_
                  refine lv_imul X.x X.b dX11_feed_91 ?_
                  refine lv_iadd X.x X.b dX11_feed_92 ?_
                  obtain ⟨y21, e22, hf⟩ := wLe_s hf
                  refine lv_nmi e22 ?_
                  refine lv_istore (lv' := [(5, .int y21), (0, .ref (k.1 + adR 0 0 0)), (1, .int a1), (2, .int a2), (3, .int a3), (4, .int a4)]) X.x X.b dX11_feed_93 hl (by decide) rfl (fun ls hl => ?_)
                  refine lv_aload_n X.x X.b dX11_feed_95 rfl (lv_at hl 1 rfl) ?_
                  refine gR_0_0 X h (hS 0) Nat.one_pos Nat.one_pos lk_X11_7 dX11_feed_96 ?_
                  refine lv_iload X.x X.b dX11_feed_99 (lv_at hl 0 rfl) ?_
                  refine lv_iload_n X.x X.b dX11_feed_101 rfl (lv_at hl 2 rfl) ?_
                  obtain ⟨b23, hf⟩ := wGi_s hf
                  obtain ⟨g24, e25, hf⟩ := wLe_s hf
                  refine bR_1 X h (hS 1) Nat.one_pos Nat.one_pos e25 b23 dX11_feed_102 (fun H locs h => ?_)
                  refine lv_aload_n X.x X.b dX11_feed_103 rfl (lv_at hl 1 rfl) ?_
                  refine gR_0_0 X h (hS 0) Nat.one_pos Nat.one_pos lk_X11_7 dX11_feed_104 ?_
                  refine lv_iload X.x X.b dX11_feed_107 (lv_at hl 0 rfl) ?_
                  refine lv_iconst (v := 1) X.x X.b dX11_feed_109 (by decide) ?_
                  refine lv_iadd X.x X.b dX11_feed_110 ?_
                  refine lv_iload_n X.x X.b dX11_feed_111 rfl (lv_at hl 3 rfl) ?_
                  obtain ⟨b26, hf⟩ := wGi_s hf
                  obtain ⟨g27, e28, hf⟩ := wLe_s hf
                  refine bR_1 X h (hS 1) Nat.one_pos Nat.one_pos e28 b26 dX11_feed_112 (fun H locs h => ?_)
                  refine lv_aload_n X.x X.b dX11_feed_113 rfl (lv_at hl 1 rfl) ?_
                  refine gR_0_0 X h (hS 0) Nat.one_pos Nat.one_pos lk_X11_7 dX11_feed_114 ?_
                  refine lv_iload X.x X.b dX11_feed_117 (lv_at hl 0 rfl) ?_
                  refine lv_iconst (v := 2) X.x X.b dX11_feed_119 (by decide) ?_
                  refine lv_iadd X.x X.b dX11_feed_120 ?_
                  refine lv_iload_n X.x X.b dX11_feed_121 rfl (lv_at hl 4 rfl) ?_
                  obtain ⟨b29, hf⟩ := wGi_s hf
                  obtain ⟨g30, e31, hf⟩ := wLe_s hf
                  refine bR_1 X h (hS 1) Nat.one_pos Nat.one_pos e31 b29 dX11_feed_122 (fun H locs h => ?_)
                  refine lv_aload_n X.x X.b dX11_feed_123 rfl (lv_at hl 1 rfl) ?_
                  refine gR_0_0 X h (hS 0) Nat.one_pos Nat.one_pos lk_X11_7 dX11_feed_124 ?_
                  refine lv_iload X.x X.b dX11_feed_127 (lv_at hl 0 rfl) ?_
                  refine lv_iconst (v := 3) X.x X.b dX11_feed_129 (by decide) ?_
                  refine lv_iadd X.x X.b dX11_feed_130 ?_
                  refine lv_iload X.x X.b dX11_feed_131 (lv_at hl 5 rfl) ?_
                  obtain ⟨b32, hf⟩ := wGi_s hf
                  obtain ⟨g33, e34, hf⟩ := wLe_s hf
                  refine bR_1 X h (hS 1) Nat.one_pos Nat.one_pos e34 b32 dX11_feed_133 (fun H locs h => ?_)
                  refine lv_aload_n X.x X.b dX11_feed_134 rfl (lv_at hl 1 rfl) ?_
                  refine gR_0_0 X h (hS 0) Nat.one_pos Nat.one_pos lk_X11_7 dX11_feed_135 ?_
                  refine lv_iload X.x X.b dX11_feed_138 (lv_at hl 0 rfl) ?_
                  refine lv_iconst (v := 4) X.x X.b dX11_feed_140 (by decide) ?_
                  refine lv_iadd X.x X.b dX11_feed_141 ?_
                  refine lv_iconst (v := 0) X.x X.b dX11_feed_142 (by decide) ?_
                  obtain ⟨b35, hf⟩ := wGi_s hf
                  obtain ⟨g36, e37, hf⟩ := wLe_s hf
                  refine bR_1 X h (hS 1) Nat.one_pos Nat.one_pos e37 b35 dX11_feed_143 (fun H locs h => ?_)
                  refine lv_aload_n X.x X.b dX11_feed_144 rfl (lv_at hl 1 rfl) ?_
                  refine gR_0_0 X h (hS 0) Nat.one_pos Nat.one_pos lk_X11_7 dX11_feed_145 ?_
                  refine lv_iload X.x X.b dX11_feed_148 (lv_at hl 0 rfl) ?_
                  refine lv_iconst (v := 5) X.x X.b dX11_feed_150 (by decide) ?_
                  refine lv_iadd X.x X.b dX11_feed_151 ?_
                  refine lv_iconst (v := (-1)) X.x X.b dX11_feed_152 (by decide) ?_
                  obtain ⟨b38, hf⟩ := wGi_s hf
                  obtain ⟨g39, e40, hf⟩ := wLe_s hf
                  refine bR_1 X h (hS 1) Nat.one_pos Nat.one_pos e40 b38 dX11_feed_153 (fun H locs h => ?_)
                  refine lv_aload_n X.x X.b dX11_feed_154 rfl (lv_at hl 1 rfl) ?_
                  refine lv_dup X.x X.b dX11_feed_155 rfl ?_
                  refine gR_0_2 X h (hS 0) Nat.one_pos Nat.one_pos lk_X11_124 dX11_feed_156 ?_
                  refine lv_iconst (v := 1) X.x X.b dX11_feed_159 (by decide) ?_
                  refine lv_iadd X.x X.b dX11_feed_160 ?_
                  obtain ⟨g41, e42, hf⟩ := wLe_s hf
                  refine pR_0_2 X h (hS 0) Nat.one_pos Nat.one_pos lk_X11_124 e42 dX11_feed_161 (fun H locs h => ?_)
                  refine lv_aload_n X.x X.b dX11_feed_164 rfl (lv_at hl 1 rfl) ?_
                  refine gR_0_2 X h (hS 0) Nat.one_pos Nat.one_pos lk_X11_124 dX11_feed_165 ?_
                  refine lv_iconst (v := 1) X.x X.b dX11_feed_168 (by decide) ?_
                  refine lv_isub X.x X.b dX11_feed_169 ?_
                  cases (Option.some.inj hf).trans JR
                  exact ro_iret X h dX11_feed_170
                · have hf := wT c20 hf
                  refine lv_bipush (v := (-4)) X.x X.b dX11_feed_79 (by decide) ?_
                  cases (Option.some.inj hf).trans JR
                  exact ro_iret X h dX11_feed_81
              · have hf := wF c19 hf
                refine lv_bipush (v := (-3)) X.x X.b dX11_feed_67 (by decide) ?_
                cases (Option.some.inj hf).trans JR
                exact ro_iret X h dX11_feed_69
          · have hf := wT c13 hf
            refine lv_bipush (v := (-2)) X.x X.b dX11_feed_44 (by decide) ?_
            cases (Option.some.inj hf).trans JR
            exact ro_iret X h dX11_feed_46
    · have hf := wT c6 hf
      refine lv_iconst (v := (-1)) X.x X.b dX11_feed_16 (by decide) ?_
      cases (Option.some.inj hf).trans JR
      exact ro_iret X h dX11_feed_17
set_option maxHeartbeats 4000000 in
set_option maxRecDepth 20000 in
theorem wX11_feedTape_L33 {k : En} {S : Nat → Prop} (hS : ∀ t, S t) {a1 : Int64} {a3 : Int32} {res : Mm × Int32} (X : Cx YR S k p s m args meth c cX11_feedTape 5 (some .int) RX11) {r : Mm × Int32} (JR : r = res) :
    ∀ (fu : Nat) (g : Mm) (x4 : Int32) (H : Heap) (locs : List Loc) (ls : Array Slot), Hx YR S k s g H locs → lv_has ls 5 [(0, .ref (k.1 + adR 0 0 0)), (1, .long a1), (4, .int x4)] → wLp (fun q => fX11_feedTape_B33 q.1 a1 a3 q.2) fu (g, x4) = some r → W p l e (RmN 1 22) s m args below meth c H locs 0 0 (Fin YR S k args s below (some (.int res.2)) res.1) (F0 m 33 ls []) := by
  intro fu
  induction fu with
  | zero => intro g x4 H locs ls h hl hf; exact (wLp_0 hf).elim
  | succ fu ih1 =>
    intro g x4 H locs ls h hl hf
    obtain ⟨r1, hf, hr⟩ := wLp_s hf
    have J1n : ∀ (g : Mm) (x4 : Int32), r1 = .inl (g, x4) → ∀ (H : Heap) (locs : List Loc) (ls : Array Slot), Hx YR S k s g H locs → lv_has ls 5 [(0, .ref (k.1 + adR 0 0 0)), (1, .long a1), (4, .int x4)] → W p l e (RmN 1 22) s m args below meth c H locs 0 0 (Fin YR S k args s below (some (.int res.2)) res.1) (F0 m 33 ls []) := fun g x4 q H locs ls h hl => by subst q; exact ih1 _ _ _ _ _ h hl hr
    have JRn : ∀ t1, r1 = .inr t1 → t1 = res := fun t1 q => by subst q; obtain rfl := Option.some.inj hr; exact JR
    have J1 := J1n
    have JR := JRn
    clear J1n JRn
    have hf : fX11_feedTape_B33 g a1 a3 x4 = some r1 := hf
    unfold fX11_feedTape_B33 at hf
    refine lv_iload X.x X.b dX11_feedTape_33 (lv_at hl 2 rfl) ?_
    refine lv_if_lt (tgt := 75) X.x X.b dX11_feedTape_35 (by decide) (fun c7 => ?_) (fun c7 => ?_)
    · have hf := wT c7 hf
      obtain ⟨t8, hf, e9⟩ := wEx_s hf
      have JR := JR t8 e9
      refine lv_aload_n X.x X.b dX11_feedTape_75 rfl (lv_at hl 0 rfl) ?_
      refine gR_0_11 X h (hS 0) Nat.one_pos Nat.one_pos lk_X11_127 dX11_feedTape_76 ?_
      cases (Option.some.inj hf).trans JR
      exact ro_iret X h dX11_feedTape_79
    · have hf := wF c7 hf
      refine lv_aload_n X.x X.b dX11_feedTape_38 rfl (lv_at hl 0 rfl) ?_
      refine gR_0_10 X h (hS 0) Nat.one_pos Nat.one_pos lk_X11_25 dX11_feedTape_39 ?_
      refine lv_aload_n X.x X.b dX11_feedTape_42 rfl (lv_at hl 0 rfl) ?_
      refine gR_0_11 X h (hS 0) Nat.one_pos Nat.one_pos lk_X11_127 dX11_feedTape_43 ?_
      refine lv_lload_n X.x X.b dX11_feedTape_46 rfl (lv_at hl 1 rfl) ?_
      refine lv_bipush (v := 8) X.x X.b dX11_feedTape_47 (by decide) ?_
      refine lv_iload X.x X.b dX11_feedTape_49 (lv_at hl 2 rfl) ?_
      refine lv_imul X.x X.b dX11_feedTape_51 ?_
      refine lv_lshr X.x X.b dX11_feedTape_52 rfl ?_
      refine ro_ldc2 X lc_X11_130 dX11_feedTape_53 ?_
      refine lv_land X.x X.b dX11_feedTape_56 ?_
      refine lv_l2i X.x X.b dX11_feedTape_57 rfl ?_
      obtain ⟨b10, hf⟩ := wGi_s hf
      obtain ⟨g11, e12, hf⟩ := wLe_s hf
      refine bR_6 X h (hS 6) Nat.one_pos Nat.one_pos e12 b10 dX11_feedTape_58 (fun H locs h => ?_)
      refine lv_aload_n X.x X.b dX11_feedTape_59 rfl (lv_at hl 0 rfl) ?_
      refine lv_dup X.x X.b dX11_feedTape_60 rfl ?_
      refine gR_0_11 X h (hS 0) Nat.one_pos Nat.one_pos lk_X11_127 dX11_feedTape_61 ?_
      refine lv_iconst (v := 1) X.x X.b dX11_feedTape_64 (by decide) ?_
      refine lv_iadd X.x X.b dX11_feedTape_65 ?_
      obtain ⟨g13, e14, hf⟩ := wLe_s hf
      refine pR_0_11 X h (hS 0) Nat.one_pos Nat.one_pos lk_X11_127 e14 dX11_feedTape_66 (fun H locs h => ?_)
      obtain ⟨y15, e16, hf⟩ := wLe_s hf
      refine lv_iinc (v := y15) (lv' := [(4, .int y15), (0, .ref (k.1 + adR 0 0 0)), (1, .long a1)]) X.x X.b dX11_feedTape_69 hl (k := 2) rfl (by rw [e16]; rfl) (by decide) rfl (fun ls hl => ?_)
      refine lv_goto (tgt := 33) X.x X.b dX11_feedTape_72 (by decide) ?_
      exact J1 _ _ (Option.some.inj hf).symm _ _ _ h (lv_sub hl [1, 2, 0] rfl)
set_option maxHeartbeats 4000000 in
set_option maxRecDepth 20000 in
theorem kX11_feedTape (l : Launch) {k : En} {S : Nat → Prop} (hS : ∀ t, S t) {a1 : Int64} {a3 : Int32} {res : Mm × Int32} {g : Mm} (hf : fX11_feedTape g a1 a3 = some res) : Mt l yX11_feedTape cX11_feedTape 5 (some .int) (RmN 1 22) YR S k [.ref (k.1 + adR 0 0 0), .long a1, .int a3] g (some (.int res.2)) res.1 := by
  refine Mt.of (by decide) (Nat.le_of_ble_eq_true rfl) ?_
  intro p e s m args below meth c ls X _ h hl
  have X : Cx YR S k p s m args meth c cX11_feedTape 5 (some .int) RX11 := X
  have hl : lv_has ls 5 [(0, .ref (k.1 + adR 0 0 0)), (1, .long a1), (3, .int a3)] := hl
  have JR : res = res := rfl
  unfold fX11_feedTape at hf
  refine lv_iload_n X.x X.b dX11_feedTape_0 rfl (lv_at hl 2 rfl) ?_
  refine lv_iconst (v := 1) X.x X.b dX11_feedTape_1 (by decide) ?_
  refine lv_bipush (v := 8) X.x X.b dX11_feedTape_2 (by decide) ?_
  obtain ⟨y2, e1, hf⟩ := wBd_s hf
  refine ro_callsI (As := [.int a3, .int (1 : Int32), .int (8 : Int32)]) (g1 := g) (x := y2) X h (kX11_in l hS e1) mv_X11_in lk_X11_99 ⟨rfl, rfl⟩ ⟨(Nat.le_of_ble_eq_true rfl), (Nat.le_of_ble_eq_true rfl)⟩ rfl hl rfl (Nat.le_of_ble_eq_true rfl) ⟨Nat.zero_le _, Nat.zero_le _⟩ dX11_feedTape_4 (fun H locs h => ?_)
  refine lv_if_ne (tgt := 13) X.x X.b dX11_feedTape_7 (by decide) (fun c3 => ?_) (fun c3 => ?_)
  · have hf := wF c3 hf
    refine lv_aload_n X.x X.b dX11_feedTape_13 rfl (lv_at hl 0 rfl) ?_
    refine gR_0_11 X h (hS 0) Nat.one_pos Nat.one_pos lk_X11_127 dX11_feedTape_14 ?_
    refine lv_iload_n X.x X.b dX11_feedTape_17 rfl (lv_at hl 2 rfl) ?_
    refine lv_iadd X.x X.b dX11_feedTape_18 ?_
    refine lv_sipush (v := 160) X.x X.b dX11_feedTape_19 (by decide) ?_
    refine lv_icmp_le (tgt := 28) X.x X.b dX11_feedTape_22 (by decide) (fun c4 => ?_) (fun c4 => ?_)
    · have hf := wT c4 hf
      refine lv_iload_n X.x X.b dX11_feedTape_28 rfl (lv_at hl 2 rfl) ?_
      refine lv_iconst (v := 1) X.x X.b dX11_feedTape_29 (by decide) ?_
      refine lv_isub X.x X.b dX11_feedTape_30 ?_
      obtain ⟨y5, e6, hf⟩ := wLe_s hf
      refine lv_nmi e6 ?_
      refine lv_istore (lv' := [(4, .int y5), (0, .ref (k.1 + adR 0 0 0)), (1, .long a1), (3, .int a3)]) X.x X.b dX11_feedTape_31 hl (by decide) rfl (fun ls hl => ?_)
      exact wX11_feedTape_L33 hS X JR _ _ _ _ _ _ h (lv_sub hl [1, 2, 0] rfl) hf
    · have hf := wF c4 hf
      refine lv_bipush (v := (-4)) X.x X.b dX11_feedTape_25 (by decide) ?_
      cases (Option.some.inj hf).trans JR
      exact ro_iret X h dX11_feedTape_27
  · have hf := wT c3 hf
    refine lv_bipush (v := (-2)) X.x X.b dX11_feedTape_10 (by decide) ?_
    cases (Option.some.inj hf).trans JR
    exact ro_iret X h dX11_feedTape_12
set_option maxHeartbeats 4000000 in
set_option maxRecDepth 20000 in
theorem wX11_letters_b76 {k : En} {S : Nat → Prop} (hS : ∀ t, S t) {res : Mm × Int32} (X : Cx YR S k p s m args meth c cX11_letters 4 (some .int) RX11) {g : Mm} {x1 : Int64} {x3 : Int32} {H : Heap} {locs : List Loc} {ls : Array Slot} (h : Hx YR S k s g H locs) (hl : lv_has ls 4 [(1, .long x1), (3, .int x3)]) {r : Mm × Int32} (hf : fX11_letters_b76 g x1 x3 = some r) (JR : r = res) :
    W p l e (RmN 1 22) s m args below meth c H locs 0 0 (Fin YR S k args s below (some (.int res.2)) res.1) (F0 m 76 ls []) := by
  unfold fX11_letters_b76 at hf
  refine lv_iload_n X.x X.b dX11_letters_76 rfl (lv_at hl 1 rfl) ?_
  refine lv_iconst (v := 4) X.x X.b dX11_letters_77 (by decide) ?_
  refine lv_icmp_le (tgt := 85) X.x X.b dX11_letters_78 (by decide) (fun c8 => ?_) (fun c8 => ?_)
  · have hf := wT c8 hf
    refine lv_lload_n X.x X.b dX11_letters_85 rfl (lv_at hl 0 rfl) ?_
    refine lv_l2i X.x X.b dX11_letters_86 rfl ?_
    cases (Option.some.inj hf).trans JR
    exact ro_iret X h dX11_letters_87
  · have hf := wF c8 hf
    refine lv_iconst (v := 0) X.x X.b dX11_letters_81 (by decide) ?_
    refine lv_goto (tgt := 87) X.x X.b dX11_letters_82 (by decide) ?_
    cases (Option.some.inj hf).trans JR
    exact ro_iret X h dX11_letters_87
set_option maxHeartbeats 4000000 in
set_option maxRecDepth 20000 in
theorem wX11_letters_b59 {k : En} {S : Nat → Prop} (hS : ∀ t, S t) {res : Mm × Int32} (X : Cx YR S k p s m args meth c cX11_letters 4 (some .int) RX11) {g : Mm} {x3 : Int32} {z0 : Int64} {H : Heap} {locs : List Loc} {ls : Array Slot} (h : Hx YR S k s g H locs) (hl : lv_has ls 4 [(0, .ref (k.1 + adR 0 0 0)), (3, .int x3)]) {r : (Mm × Int64 × Int32) ⊕ (Mm × Int32)} (hf : fX11_letters_b59 g x3 z0 = some r) (J1 : ∀ (g : Mm) (x1 : Int64) (x3 : Int32), r = .inl (g, x1, x3) → ∀ (H : Heap) (locs : List Loc) (ls : Array Slot), Hx YR S k s g H locs → lv_has ls 4 [(0, .ref (k.1 + adR 0 0 0)), (1, .long x1), (3, .int x3)] → W p l e (RmN 1 22) s m args below meth c H locs 0 0 (Fin YR S k args s below (some (.int res.2)) res.1) (F0 m 4 ls [])) (JR : ∀ t1, r = .inr t1 → t1 = res) :
    W p l e (RmN 1 22) s m args below meth c H locs 0 0 (Fin YR S k args s below (some (.int res.2)) res.1) (F0 m 59 ls [.long z0]) := by
  unfold fX11_letters_b59 at hf
  refine lv_lstore_n (lv' := [(1, .long z0), (0, .ref (k.1 + adR 0 0 0)), (3, .int x3)]) X.x X.b dX11_letters_59 rfl hl (by decide) rfl (fun ls hl => ?_)
  obtain ⟨y16, e17, hf⟩ := wLe_s hf
  refine lv_iinc (v := y16) (lv' := [(3, .int y16), (1, .long z0), (0, .ref (k.1 + adR 0 0 0))]) X.x X.b dX11_letters_60 hl (k := 2) rfl (by rw [e17]; rfl) (by decide) rfl (fun ls hl => ?_)
  refine lv_aload_n X.x X.b dX11_letters_63 rfl (lv_at hl 2 rfl) ?_
  refine lv_dup X.x X.b dX11_letters_64 rfl ?_
  refine gR_0_25 X h (hS 0) Nat.one_pos Nat.one_pos lk_X11_132 dX11_letters_65 ?_
  refine lv_iconst (v := 1) X.x X.b dX11_letters_68 (by decide) ?_
  refine lv_iadd X.x X.b dX11_letters_69 ?_
  obtain ⟨g18, e19, hf⟩ := wLe_s hf
  refine pR_0_25 X h (hS 0) Nat.one_pos Nat.one_pos lk_X11_132 e19 dX11_letters_70 (fun H locs h => ?_)
  refine lv_goto (tgt := 4) X.x X.b dX11_letters_73 (by decide) ?_
  exact J1 _ _ _ (Option.some.inj hf).symm _ _ _ h (lv_sub hl [2, 1, 0] rfl)
set_option maxHeartbeats 4000000 in
set_option maxRecDepth 20000 in
theorem wX11_letters_L4 {k : En} {S : Nat → Prop} (hS : ∀ t, S t) {res : Mm × Int32} (X : Cx YR S k p s m args meth c cX11_letters 4 (some .int) RX11) {r : Mm × Int32} (JR : r = res) :
    ∀ (fu : Nat) (g : Mm) (x1 : Int64) (x3 : Int32) (H : Heap) (locs : List Loc) (ls : Array Slot), Hx YR S k s g H locs → lv_has ls 4 [(0, .ref (k.1 + adR 0 0 0)), (1, .long x1), (3, .int x3)] → wLp (fun q => fX11_letters_B4 q.1 q.2.1 q.2.2) fu (g, x1, x3) = some r → W p l e (RmN 1 22) s m args below meth c H locs 0 0 (Fin YR S k args s below (some (.int res.2)) res.1) (F0 m 4 ls []) := by
  intro fu
  induction fu with
  | zero => intro g x1 x3 H locs ls h hl hf; exact (wLp_0 hf).elim
  | succ fu ih1 =>
    intro g x1 x3 H locs ls h hl hf
    obtain ⟨r1, hf, hr⟩ := wLp_s hf
    have J1n : ∀ (g : Mm) (x1 : Int64) (x3 : Int32), r1 = .inl (g, x1, x3) → ∀ (H : Heap) (locs : List Loc) (ls : Array Slot), Hx YR S k s g H locs → lv_has ls 4 [(0, .ref (k.1 + adR 0 0 0)), (1, .long x1), (3, .int x3)] → W p l e (RmN 1 22) s m args below meth c H locs 0 0 (Fin YR S k args s below (some (.int res.2)) res.1) (F0 m 4 ls []) := fun g x1 x3 q H locs ls h hl => by subst q; exact ih1 _ _ _ _ _ _ h hl hr
    have JRn : ∀ t1, r1 = .inr t1 → t1 = res := fun t1 q => by subst q; obtain rfl := Option.some.inj hr; exact JR
    have J1 := J1n
    have JR := JRn
    clear J1n JRn
    have hf : fX11_letters_B4 g x1 x3 = some r1 := hf
    unfold fX11_letters_B4 at hf
    refine lv_aload_n X.x X.b dX11_letters_4 rfl (lv_at hl 0 rfl) ?_
    refine gR_0_25 X h (hS 0) Nat.one_pos Nat.one_pos lk_X11_132 dX11_letters_5 ?_
    refine lv_aload_n X.x X.b dX11_letters_8 rfl (lv_at hl 0 rfl) ?_
    refine gR_0_11 X h (hS 0) Nat.one_pos Nat.one_pos lk_X11_127 dX11_letters_9 ?_
    refine lv_icmp_ge (tgt := 76) X.x X.b dX11_letters_12 (by decide) (fun c5 => ?_) (fun c5 => ?_)
    · have hf := wT c5 hf
      obtain ⟨t6, hf, e7⟩ := wEx_s hf
      have JR := JR t6 e7
      exact wX11_letters_b76 hS X h (lv_sub hl [1, 2] rfl) hf JR
    · have hf := wF c5 hf
      refine lv_aload_n X.x X.b dX11_letters_15 rfl (lv_at hl 0 rfl) ?_
      refine gR_0_10 X h (hS 0) Nat.one_pos Nat.one_pos lk_X11_25 dX11_letters_16 ?_
      refine lv_aload_n X.x X.b dX11_letters_19 rfl (lv_at hl 0 rfl) ?_
      refine gR_0_25 X h (hS 0) Nat.one_pos Nat.one_pos lk_X11_132 dX11_letters_20 ?_
      obtain ⟨b9, hf⟩ := wGi_s hf
      refine aR_6 X h (hS 6) Nat.one_pos Nat.one_pos b9 dX11_letters_23 ?_
      refine lv_bipush (v := 97) X.x X.b dX11_letters_24 (by decide) ?_
      refine lv_bipush (v := 122) X.x X.b dX11_letters_26 (by decide) ?_
      obtain ⟨y11, e10, hf⟩ := wBd_s hf
      refine ro_callsI (As := [.int (g 6 0 0 (g 0 0 0 25).toNatClampNeg), .int (97 : Int32), .int (122 : Int32)]) (g1 := g) (x := y11) X h (kX11_in l hS e10) mv_X11_in lk_X11_99 ⟨rfl, rfl⟩ ⟨(Nat.le_of_ble_eq_true rfl), (Nat.le_of_ble_eq_true rfl)⟩ rfl hl rfl (Nat.le_of_ble_eq_true rfl) ⟨Nat.zero_le _, Nat.zero_le _⟩ dX11_letters_28 (fun H locs h => ?_)
      refine lv_if_eq (tgt := 76) X.x X.b dX11_letters_31 (by decide) (fun c12 => ?_) (fun c12 => ?_)
      · have hf := wT c12 hf
        obtain ⟨t13, hf, e14⟩ := wEx_s hf
        have JR := JR t13 e14
        exact wX11_letters_b76 hS X h (lv_sub hl [1, 2] rfl) hf JR
      · have hf := wF c12 hf
        refine lv_iload_n X.x X.b dX11_letters_34 rfl (lv_at hl 2 rfl) ?_
        refine lv_bipush (v := 8) X.x X.b dX11_letters_35 (by decide) ?_
        refine lv_icmp_ge (tgt := 58) X.x X.b dX11_letters_37 (by decide) (fun c15 => ?_) (fun c15 => ?_)
        · have hf := wT c15 hf
          refine lv_lload_n X.x X.b dX11_letters_58 rfl (lv_at hl 1 rfl) ?_
          exact wX11_letters_b59 hS X h (lv_sub hl [0, 2] rfl) hf J1 JR
        · have hf := wF c15 hf
          refine lv_lload_n X.x X.b dX11_letters_40 rfl (lv_at hl 1 rfl) ?_
          refine lv_bipush (v := 8) X.x X.b dX11_letters_41 (by decide) ?_
          refine lv_lshl X.x X.b dX11_letters_43 rfl ?_
          refine lv_aload_n X.x X.b dX11_letters_44 rfl (lv_at hl 0 rfl) ?_
          refine gR_0_10 X h (hS 0) Nat.one_pos Nat.one_pos lk_X11_25 dX11_letters_45 ?_
          refine lv_aload_n X.x X.b dX11_letters_48 rfl (lv_at hl 0 rfl) ?_
          refine gR_0_25 X h (hS 0) Nat.one_pos Nat.one_pos lk_X11_132 dX11_letters_49 ?_
          obtain ⟨b20, hf⟩ := wGi_s hf
          refine aR_6 X h (hS 6) Nat.one_pos Nat.one_pos b20 dX11_letters_52 ?_
          refine lv_i2l X.x X.b dX11_letters_53 rfl ?_
          refine lv_lor X.x X.b dX11_letters_54 ?_
          refine lv_goto (tgt := 59) X.x X.b dX11_letters_55 (by decide) ?_
          exact wX11_letters_b59 hS X h (lv_sub hl [0, 2] rfl) hf J1 JR
set_option maxHeartbeats 4000000 in
set_option maxRecDepth 20000 in
theorem kX11_letters (l : Launch) {k : En} {S : Nat → Prop} (hS : ∀ t, S t) {res : Mm × Int32} {g : Mm} (hf : fX11_letters g = some res) : Mt l yX11_letters cX11_letters 4 (some .int) (RmN 1 22) YR S k [.ref (k.1 + adR 0 0 0)] g (some (.int res.2)) res.1 := by
  refine Mt.of (by decide) (Nat.le_of_ble_eq_true rfl) ?_
  intro p e s m args below meth c ls X _ h hl
  have X : Cx YR S k p s m args meth c cX11_letters 4 (some .int) RX11 := X
  have hl : lv_has ls 4 [(0, .ref (k.1 + adR 0 0 0))] := hl
  have JR : res = res := rfl
  unfold fX11_letters at hf
  refine lv_lconst (v := 0) X.x X.b dX11_letters_0 (by decide) ?_
  obtain ⟨y1, e2, hf⟩ := wLe_s hf
  refine lv_nml e2 ?_
  refine lv_lstore_n (lv' := [(1, .long y1), (0, .ref (k.1 + adR 0 0 0))]) X.x X.b dX11_letters_1 rfl hl (by decide) rfl (fun ls hl => ?_)
  refine lv_iconst (v := 0) X.x X.b dX11_letters_2 (by decide) ?_
  obtain ⟨y3, e4, hf⟩ := wLe_s hf
  refine lv_nmi e4 ?_
  refine lv_istore_n (lv' := [(3, .int y3), (1, .long y1), (0, .ref (k.1 + adR 0 0 0))]) X.x X.b dX11_letters_3 rfl hl (by decide) rfl (fun ls hl => ?_)
  exact wX11_letters_L4 hS X JR _ _ _ _ _ _ _ h (lv_sub hl [2, 1, 0] rfl) hf
set_option maxHeartbeats 4000000 in
set_option maxRecDepth 20000 in
theorem wX11_next_b363 {k : En} {S : Nat → Prop} (hS : ∀ t, S t) {res : Mm} (X : Cx YR S k p s m args meth c cX11_next 4 none RX11) {g : Mm} {z1 : Int32} {H : Heap} {locs : List Loc} {ls : Array Slot} (h : Hx YR S k s g H locs) (hl : lv_has ls 4 [(0, .ref (k.1 + adR 0 0 0))]) {r : Mm} (hf : fX11_next_b363 g z1 = some r) (JR : r = res) :
    W p l e (RmN 2 45) s m args below meth c H locs 0 0 (Fin YR S k args s below none res) (F0 m 363 ls [.int z1, .ref (k.1 + adR 0 0 0)]) := by
  unfold fX11_next_b363 at hf
  obtain ⟨g22, e23, hf⟩ := wLe_s hf
  refine pR_0_27 X h (hS 0) Nat.one_pos Nat.one_pos lk_X11_138 e23 dX11_next_363 (fun H locs h => ?_)
  refine lv_aload_n X.x X.b dX11_next_366 rfl (lv_at hl 0 rfl) ?_
  refine lv_dup X.x X.b dX11_next_367 rfl ?_
  refine gR_0_25 X h (hS 0) Nat.one_pos Nat.one_pos lk_X11_132 dX11_next_368 ?_
  refine lv_iconst (v := 1) X.x X.b dX11_next_371 (by decide) ?_
  refine lv_iadd X.x X.b dX11_next_372 ?_
  obtain ⟨g24, e25, hf⟩ := wLe_s hf
  refine pR_0_25 X h (hS 0) Nat.one_pos Nat.one_pos lk_X11_132 e25 dX11_next_373 (fun H locs h => ?_)
  cases (Option.some.inj hf).trans JR
  exact ro_vret X h dX11_next_376
set_option maxHeartbeats 4000000 in
set_option maxRecDepth 20000 in
theorem wX11_next_b352 {k : En} {S : Nat → Prop} (hS : ∀ t, S t) {res : Mm} (X : Cx YR S k p s m args meth c cX11_next 4 none RX11) {g : Mm} {x1 : Int32} {z0 : Int32} {H : Heap} {locs : List Loc} {ls : Array Slot} (h : Hx YR S k s g H locs) (hl : lv_has ls 4 [(0, .ref (k.1 + adR 0 0 0)), (1, .int x1)]) {r : Mm} (hf : fX11_next_b352 g x1 z0 = some r) (JR : r = res) :
    W p l e (RmN 2 45) s m args below meth c H locs 0 0 (Fin YR S k args s below none res) (F0 m 352 ls [.int z0]) := by
  unfold fX11_next_b352 at hf
  refine lv_istore_n (lv' := [(2, .int z0), (0, .ref (k.1 + adR 0 0 0)), (1, .int x1)]) X.x X.b dX11_next_352 rfl hl (by decide) rfl (fun ls hl => ?_)
  refine lv_aload_n X.x X.b dX11_next_353 rfl (lv_at hl 1 rfl) ?_
  refine lv_iload_n X.x X.b dX11_next_354 rfl (lv_at hl 0 rfl) ?_
  refine lv_if_eq (tgt := 362) X.x X.b dX11_next_355 (by decide) (fun c21 => ?_) (fun c21 => ?_)
  · have hf := wT c21 hf
    refine lv_iconst (v := (-1)) X.x X.b dX11_next_362 (by decide) ?_
    exact wX11_next_b363 hS X h (lv_sub hl [1] rfl) hf JR
  · have hf := wF c21 hf
    refine lv_iload_n X.x X.b dX11_next_358 rfl (lv_at hl 2 rfl) ?_
    refine lv_goto (tgt := 363) X.x X.b dX11_next_359 (by decide) ?_
    exact wX11_next_b363 hS X h (lv_sub hl [1] rfl) hf JR
set_option maxHeartbeats 4000000 in
set_option maxRecDepth 20000 in
theorem wX11_next_b347 {k : En} {S : Nat → Prop} (hS : ∀ t, S t) {res : Mm} (X : Cx YR S k p s m args meth c cX11_next 4 none RX11) {g : Mm} {x1 : Int32} {H : Heap} {locs : List Loc} {ls : Array Slot} (h : Hx YR S k s g H locs) (hl : lv_has ls 4 [(0, .ref (k.1 + adR 0 0 0)), (1, .int x1)]) {r : Mm} (hf : fX11_next_b347 g x1 = some r) (JR : r = res) :
    W p l e (RmN 2 45) s m args below meth c H locs 0 0 (Fin YR S k args s below none res) (F0 m 347 ls []) := by
  unfold fX11_next_b347 at hf
  refine lv_iconst (v := 1) X.x X.b dX11_next_347 (by decide) ?_
  refine lv_goto (tgt := 352) X.x X.b dX11_next_348 (by decide) ?_
  exact wX11_next_b352 hS X h (lv_sub hl [0, 1] rfl) hf JR
set_option maxHeartbeats 4000000 in
set_option maxRecDepth 20000 in
theorem wX11_next_b282 {k : En} {S : Nat → Prop} (hS : ∀ t, S t) {res : Mm} (X : Cx YR S k p s m args meth c cX11_next 4 none RX11) {g : Mm} {x2 : Int32} {H : Heap} {locs : List Loc} {ls : Array Slot} (h : Hx YR S k s g H locs) (hl : lv_has ls 4 [(0, .ref (k.1 + adR 0 0 0)), (2, .int x2)]) {r : Mm} (hf : fX11_next_b282 g x2 = some r) (JR : r = res) :
    W p l e (RmN 2 45) s m args below meth c H locs 0 0 (Fin YR S k args s below none res) (F0 m 282 ls []) := by
  unfold fX11_next_b282 at hf
  refine lv_aload_n X.x X.b dX11_next_282 rfl (lv_at hl 0 rfl) ?_
  refine lv_iload_n X.x X.b dX11_next_283 rfl (lv_at hl 1 rfl) ?_
  refine lv_iconst (v := 4) X.x X.b dX11_next_284 (by decide) ?_
  refine lv_icmp_le (tgt := 292) X.x X.b dX11_next_285 (by decide) (fun c38 => ?_) (fun c38 => ?_)
  · have hf := wT c38 hf
    refine lv_iconst (v := 1) X.x X.b dX11_next_292 (by decide) ?_
    obtain ⟨g39, e40, hf⟩ := wLe_s hf
    refine pR_0_27 X h (hS 0) Nat.one_pos Nat.one_pos lk_X11_138 e40 dX11_next_293 (fun H locs h => ?_)
    refine lv_goto (tgt := 376) X.x X.b dX11_next_296 (by decide) ?_
    cases (Option.some.inj hf).trans JR
    exact ro_vret X h dX11_next_376
  · have hf := wF c38 hf
    refine lv_iconst (v := (-1)) X.x X.b dX11_next_288 (by decide) ?_
    refine lv_goto (tgt := 293) X.x X.b dX11_next_289 (by decide) ?_
    obtain ⟨g41, e42, hf⟩ := wLe_s hf
    refine pR_0_27 X h (hS 0) Nat.one_pos Nat.one_pos lk_X11_138 e42 dX11_next_293 (fun H locs h => ?_)
    refine lv_goto (tgt := 376) X.x X.b dX11_next_296 (by decide) ?_
    cases (Option.some.inj hf).trans JR
    exact ro_vret X h dX11_next_376
set_option maxHeartbeats 4000000 in
set_option maxRecDepth 20000 in
theorem wX11_next_b263 {k : En} {S : Nat → Prop} (hS : ∀ t, S t) {res : Mm} (X : Cx YR S k p s m args meth c cX11_next 4 none RX11) {g : Mm} {x2 : Int32} {z1 : Int32} {H : Heap} {locs : List Loc} {ls : Array Slot} (h : Hx YR S k s g H locs) (hl : lv_has ls 4 [(0, .ref (k.1 + adR 0 0 0)), (2, .int x2)]) {r : (Mm × Int32) ⊕ (Mm)} (hf : fX11_next_b263 g x2 z1 = some r) (J1 : ∀ (g : Mm) (x2 : Int32), r = .inl (g, x2) → ∀ (H : Heap) (locs : List Loc) (ls : Array Slot), Hx YR S k s g H locs → lv_has ls 4 [(0, .ref (k.1 + adR 0 0 0)), (2, .int x2)] → W p l e (RmN 2 45) s m args below meth c H locs 0 0 (Fin YR S k args s below none res) (F0 m 203 ls [])) (JR : ∀ t1, r = .inr t1 → t1 = res) :
    W p l e (RmN 2 45) s m args below meth c H locs 0 0 (Fin YR S k args s below none res) (F0 m 263 ls [.int z1, .ref (k.1 + adR 0 0 0)]) := by
  unfold fX11_next_b263 at hf
  obtain ⟨g50, e51, hf⟩ := wLe_s hf
  refine pR_0_28 X h (hS 0) Nat.one_pos Nat.one_pos lk_X11_141 e51 dX11_next_263 (fun H locs h => ?_)
  obtain ⟨y52, e53, hf⟩ := wLe_s hf
  refine lv_iinc (v := y52) (lv' := [(2, .int y52), (0, .ref (k.1 + adR 0 0 0))]) X.x X.b dX11_next_266 hl (k := 1) rfl (by rw [e53]; rfl) (by decide) rfl (fun ls hl => ?_)
  refine lv_aload_n X.x X.b dX11_next_269 rfl (lv_at hl 1 rfl) ?_
  refine lv_dup X.x X.b dX11_next_270 rfl ?_
  refine gR_0_25 X h (hS 0) Nat.one_pos Nat.one_pos lk_X11_132 dX11_next_271 ?_
  refine lv_iconst (v := 1) X.x X.b dX11_next_274 (by decide) ?_
  refine lv_iadd X.x X.b dX11_next_275 ?_
  obtain ⟨g54, e55, hf⟩ := wLe_s hf
  refine pR_0_25 X h (hS 0) Nat.one_pos Nat.one_pos lk_X11_132 e55 dX11_next_276 (fun H locs h => ?_)
  refine lv_goto (tgt := 203) X.x X.b dX11_next_279 (by decide) ?_
  exact J1 _ _ (Option.some.inj hf).symm _ _ _ h (lv_sub hl [1, 0] rfl)
set_option maxHeartbeats 4000000 in
set_option maxRecDepth 20000 in
theorem wX11_next_L203 {k : En} {S : Nat → Prop} (hS : ∀ t, S t) {res : Mm} (X : Cx YR S k p s m args meth c cX11_next 4 none RX11) {r : Mm} (JR : r = res) :
    ∀ (fu : Nat) (g : Mm) (x2 : Int32) (H : Heap) (locs : List Loc) (ls : Array Slot), Hx YR S k s g H locs → lv_has ls 4 [(0, .ref (k.1 + adR 0 0 0)), (2, .int x2)] → wLp (fun q => fX11_next_B203 q.1 q.2) fu (g, x2) = some r → W p l e (RmN 2 45) s m args below meth c H locs 0 0 (Fin YR S k args s below none res) (F0 m 203 ls []) := by
  intro fu
  induction fu with
  | zero => intro g x2 H locs ls h hl hf; exact (wLp_0 hf).elim
  | succ fu ih1 =>
    intro g x2 H locs ls h hl hf
    obtain ⟨r1, hf, hr⟩ := wLp_s hf
    have J1n : ∀ (g : Mm) (x2 : Int32), r1 = .inl (g, x2) → ∀ (H : Heap) (locs : List Loc) (ls : Array Slot), Hx YR S k s g H locs → lv_has ls 4 [(0, .ref (k.1 + adR 0 0 0)), (2, .int x2)] → W p l e (RmN 2 45) s m args below meth c H locs 0 0 (Fin YR S k args s below none res) (F0 m 203 ls []) := fun g x2 q H locs ls h hl => by subst q; exact ih1 _ _ _ _ _ h hl hr
    have JRn : ∀ t1, r1 = .inr t1 → t1 = res := fun t1 q => by subst q; obtain rfl := Option.some.inj hr; exact JR
    have J1 := J1n
    have JR := JRn
    clear J1n JRn
    have hf : fX11_next_B203 g x2 = some r1 := hf
    unfold fX11_next_B203 at hf
    refine lv_aload_n X.x X.b dX11_next_203 rfl (lv_at hl 0 rfl) ?_
    refine gR_0_25 X h (hS 0) Nat.one_pos Nat.one_pos lk_X11_132 dX11_next_204 ?_
    refine lv_aload_n X.x X.b dX11_next_207 rfl (lv_at hl 0 rfl) ?_
    refine gR_0_11 X h (hS 0) Nat.one_pos Nat.one_pos lk_X11_127 dX11_next_208 ?_
    refine lv_icmp_ge (tgt := 282) X.x X.b dX11_next_211 (by decide) (fun c35 => ?_) (fun c35 => ?_)
    · have hf := wT c35 hf
      obtain ⟨t36, hf, e37⟩ := wEx_s hf
      have JR := JR t36 e37
      exact wX11_next_b282 hS X h (lv_sub hl [0, 1] rfl) hf JR
    · have hf := wF c35 hf
      refine lv_aload_n X.x X.b dX11_next_214 rfl (lv_at hl 0 rfl) ?_
      refine gR_0_10 X h (hS 0) Nat.one_pos Nat.one_pos lk_X11_25 dX11_next_215 ?_
      refine lv_aload_n X.x X.b dX11_next_218 rfl (lv_at hl 0 rfl) ?_
      refine gR_0_25 X h (hS 0) Nat.one_pos Nat.one_pos lk_X11_132 dX11_next_219 ?_
      obtain ⟨b43, hf⟩ := wGi_s hf
      refine aR_6 X h (hS 6) Nat.one_pos Nat.one_pos b43 dX11_next_222 ?_
      refine lv_bipush (v := 48) X.x X.b dX11_next_223 (by decide) ?_
      refine lv_bipush (v := 57) X.x X.b dX11_next_225 (by decide) ?_
      obtain ⟨y45, e44, hf⟩ := wBd_s hf
      refine ro_callsI (As := [.int (g 6 0 0 (g 0 0 0 25).toNatClampNeg), .int (48 : Int32), .int (57 : Int32)]) (g1 := g) (x := y45) X h (kX11_in l hS e44) mv_X11_in lk_X11_99 ⟨rfl, rfl⟩ ⟨(Nat.le_of_ble_eq_true rfl), (Nat.le_of_ble_eq_true rfl)⟩ rfl hl rfl (Nat.le_of_ble_eq_true rfl) ⟨Nat.zero_le _, Nat.zero_le _⟩ dX11_next_227 (fun H locs h => ?_)
      refine lv_if_eq (tgt := 282) X.x X.b dX11_next_230 (by decide) (fun c46 => ?_) (fun c46 => ?_)
      · have hf := wT c46 hf
        obtain ⟨t47, hf, e48⟩ := wEx_s hf
        have JR := JR t47 e48
        exact wX11_next_b282 hS X h (lv_sub hl [0, 1] rfl) hf JR
      · have hf := wF c46 hf
        refine lv_aload_n X.x X.b dX11_next_233 rfl (lv_at hl 0 rfl) ?_
        refine lv_iload_n X.x X.b dX11_next_234 rfl (lv_at hl 1 rfl) ?_
        refine lv_iconst (v := 4) X.x X.b dX11_next_235 (by decide) ?_
        refine lv_icmp_ge (tgt := 262) X.x X.b dX11_next_236 (by decide) (fun c49 => ?_) (fun c49 => ?_)
        · have hf := wT c49 hf
          refine lv_iconst (v := 0) X.x X.b dX11_next_262 (by decide) ?_
          exact wX11_next_b263 hS X h (lv_sub hl [0, 1] rfl) hf J1 JR
        · have hf := wF c49 hf
          refine lv_bipush (v := 10) X.x X.b dX11_next_239 (by decide) ?_
          refine lv_aload_n X.x X.b dX11_next_241 rfl (lv_at hl 0 rfl) ?_
          refine gR_0_28 X h (hS 0) Nat.one_pos Nat.one_pos lk_X11_141 dX11_next_242 ?_
          refine lv_imul X.x X.b dX11_next_245 ?_
          refine lv_aload_n X.x X.b dX11_next_246 rfl (lv_at hl 0 rfl) ?_
          refine gR_0_10 X h (hS 0) Nat.one_pos Nat.one_pos lk_X11_25 dX11_next_247 ?_
          refine lv_aload_n X.x X.b dX11_next_250 rfl (lv_at hl 0 rfl) ?_
          refine gR_0_25 X h (hS 0) Nat.one_pos Nat.one_pos lk_X11_132 dX11_next_251 ?_
          obtain ⟨b56, hf⟩ := wGi_s hf
          refine aR_6 X h (hS 6) Nat.one_pos Nat.one_pos b56 dX11_next_254 ?_
          refine lv_iadd X.x X.b dX11_next_255 ?_
          refine lv_bipush (v := 48) X.x X.b dX11_next_256 (by decide) ?_
          refine lv_isub X.x X.b dX11_next_258 ?_
          refine lv_goto (tgt := 263) X.x X.b dX11_next_259 (by decide) ?_
          exact wX11_next_b263 hS X h (lv_sub hl [0, 1] rfl) hf J1 JR
set_option maxHeartbeats 4000000 in
set_option maxRecDepth 20000 in
theorem wX11_next_b168 {k : En} {S : Nat → Prop} (hS : ∀ t, S t) {res : Mm} (X : Cx YR S k p s m args meth c cX11_next 4 none RX11) {g : Mm} {x3 : Int32} {z1 : Int32} {H : Heap} {locs : List Loc} {ls : Array Slot} (h : Hx YR S k s g H locs) (hl : lv_has ls 4 [(0, .ref (k.1 + adR 0 0 0)), (3, .int x3)]) {r : Mm} (hf : fX11_next_b168 g x3 z1 = some r) (JR : r = res) :
    W p l e (RmN 2 45) s m args below meth c H locs 0 0 (Fin YR S k args s below none res) (F0 m 168 ls [.int z1, .ref (k.1 + adR 0 0 0)]) := by
  unfold fX11_next_b168 at hf
  obtain ⟨g68, e69, hf⟩ := wLe_s hf
  refine pR_0_27 X h (hS 0) Nat.one_pos Nat.one_pos lk_X11_138 e69 dX11_next_168 (fun H locs h => ?_)
  refine lv_aload_n X.x X.b dX11_next_171 rfl (lv_at hl 0 rfl) ?_
  refine lv_iload_n X.x X.b dX11_next_172 rfl (lv_at hl 1 rfl) ?_
  refine lv_iconst (v := 3) X.x X.b dX11_next_173 (by decide) ?_
  refine lv_icmp_ge (tgt := 181) X.x X.b dX11_next_174 (by decide) (fun c70 => ?_) (fun c70 => ?_)
  · have hf := wT c70 hf
    refine lv_iload_n X.x X.b dX11_next_181 rfl (lv_at hl 1 rfl) ?_
    refine lv_iconst (v := 3) X.x X.b dX11_next_182 (by decide) ?_
    refine lv_isub X.x X.b dX11_next_183 ?_
    obtain ⟨g71, e72, hf⟩ := wLe_s hf
    refine pR_0_28 X h (hS 0) Nat.one_pos Nat.one_pos lk_X11_141 e72 dX11_next_184 (fun H locs h => ?_)
    refine lv_goto (tgt := 376) X.x X.b dX11_next_187 (by decide) ?_
    cases (Option.some.inj hf).trans JR
    exact ro_vret X h dX11_next_376
  · have hf := wF c70 hf
    refine lv_iload_n X.x X.b dX11_next_177 rfl (lv_at hl 1 rfl) ?_
    refine lv_goto (tgt := 184) X.x X.b dX11_next_178 (by decide) ?_
    obtain ⟨g73, e74, hf⟩ := wLe_s hf
    refine pR_0_28 X h (hS 0) Nat.one_pos Nat.one_pos lk_X11_141 e74 dX11_next_184 (fun H locs h => ?_)
    refine lv_goto (tgt := 376) X.x X.b dX11_next_187 (by decide) ?_
    cases (Option.some.inj hf).trans JR
    exact ro_vret X h dX11_next_376
set_option maxHeartbeats 4000000 in
set_option maxRecDepth 20000 in
theorem wX11_next_b132 {k : En} {S : Nat → Prop} (hS : ∀ t, S t) {res : Mm} (X : Cx YR S k p s m args meth c cX11_next 4 none RX11) {g : Mm} {x3 : Int32} {H : Heap} {locs : List Loc} {ls : Array Slot} (h : Hx YR S k s g H locs) (hl : lv_has ls 4 [(0, .ref (k.1 + adR 0 0 0)), (3, .int x3)]) {r : Mm} (hf : fX11_next_b132 g x3 = some r) (JR : r = res) :
    W p l e (RmN 2 45) s m args below meth c H locs 0 0 (Fin YR S k args s below none res) (F0 m 132 ls []) := by
  unfold fX11_next_b132 at hf
  refine lv_aload_n X.x X.b dX11_next_132 rfl (lv_at hl 0 rfl) ?_
  refine lv_iload_n X.x X.b dX11_next_133 rfl (lv_at hl 1 rfl) ?_
  refine lv_iconst (v := 3) X.x X.b dX11_next_134 (by decide) ?_
  refine lv_icmp_ge (tgt := 142) X.x X.b dX11_next_135 (by decide) (fun c65 => ?_) (fun c65 => ?_)
  · have hf := wT c65 hf
    refine lv_iload_n X.x X.b dX11_next_142 rfl (lv_at hl 1 rfl) ?_
    refine lv_bipush (v := 11) X.x X.b dX11_next_143 (by decide) ?_
    refine lv_icmp_ge (tgt := 152) X.x X.b dX11_next_145 (by decide) (fun c66 => ?_) (fun c66 => ?_)
    · have hf := wT c66 hf
      refine lv_iload_n X.x X.b dX11_next_152 rfl (lv_at hl 1 rfl) ?_
      refine lv_bipush (v := 14) X.x X.b dX11_next_153 (by decide) ?_
      refine lv_icmp_ne (tgt := 162) X.x X.b dX11_next_155 (by decide) (fun c67 => ?_) (fun c67 => ?_)
      · have hf := wF c67 hf
        refine lv_iconst (v := 4) X.x X.b dX11_next_162 (by decide) ?_
        refine lv_iload_n X.x X.b dX11_next_163 rfl (lv_at hl 1 rfl) ?_
        refine lv_iadd X.x X.b dX11_next_164 ?_
        refine lv_bipush (v := 11) X.x X.b dX11_next_165 (by decide) ?_
        refine lv_isub X.x X.b dX11_next_167 ?_
        exact wX11_next_b168 hS X h (lv_sub hl [0, 1] rfl) hf JR
      · have hf := wT c67 hf
        refine lv_iconst (v := (-1)) X.x X.b dX11_next_158 (by decide) ?_
        refine lv_goto (tgt := 168) X.x X.b dX11_next_159 (by decide) ?_
        exact wX11_next_b168 hS X h (lv_sub hl [0, 1] rfl) hf JR
    · have hf := wF c66 hf
      refine lv_iconst (v := 2) X.x X.b dX11_next_148 (by decide) ?_
      refine lv_goto (tgt := 168) X.x X.b dX11_next_149 (by decide) ?_
      exact wX11_next_b168 hS X h (lv_sub hl [0, 1] rfl) hf JR
  · have hf := wF c65 hf
    refine lv_iconst (v := 3) X.x X.b dX11_next_138 (by decide) ?_
    refine lv_goto (tgt := 168) X.x X.b dX11_next_139 (by decide) ?_
    exact wX11_next_b168 hS X h (lv_sub hl [0, 1] rfl) hf JR
set_option maxHeartbeats 4000000 in
set_option maxRecDepth 20000 in
theorem wX11_next_L110 {k : En} {S : Nat → Prop} (hS : ∀ t, S t) {res : Mm} (X : Cx YR S k p s m args meth c cX11_next 4 none RX11) {x2 : Int32} {r : Mm} (JR : r = res) :
    ∀ (fu : Nat) (g : Mm) (x3 : Int32) (H : Heap) (locs : List Loc) (ls : Array Slot), Hx YR S k s g H locs → lv_has ls 4 [(0, .ref (k.1 + adR 0 0 0)), (2, .int x2), (3, .int x3)] → wLp (fun q => fX11_next_B110 q.1 x2 q.2) fu (g, x3) = some r → W p l e (RmN 2 45) s m args below meth c H locs 0 0 (Fin YR S k args s below none res) (F0 m 110 ls []) := by
  intro fu
  induction fu with
  | zero => intro g x3 H locs ls h hl hf; exact (wLp_0 hf).elim
  | succ fu ih1 =>
    intro g x3 H locs ls h hl hf
    obtain ⟨r1, hf, hr⟩ := wLp_s hf
    have J1n : ∀ (g : Mm) (x3 : Int32), r1 = .inl (g, x3) → ∀ (H : Heap) (locs : List Loc) (ls : Array Slot), Hx YR S k s g H locs → lv_has ls 4 [(0, .ref (k.1 + adR 0 0 0)), (2, .int x2), (3, .int x3)] → W p l e (RmN 2 45) s m args below meth c H locs 0 0 (Fin YR S k args s below none res) (F0 m 110 ls []) := fun g x3 q H locs ls h hl => by subst q; exact ih1 _ _ _ _ _ h hl hr
    have JRn : ∀ t1, r1 = .inr t1 → t1 = res := fun t1 q => by subst q; obtain rfl := Option.some.inj hr; exact JR
    have J1 := J1n
    have JR := JRn
    clear J1n JRn
    have hf : fX11_next_B110 g x2 x3 = some r1 := hf
    unfold fX11_next_B110 at hf
    refine lv_iload_n X.x X.b dX11_next_110 rfl (lv_at hl 2 rfl) ?_
    refine lv_bipush (v := 14) X.x X.b dX11_next_111 (by decide) ?_
    refine lv_icmp_ge (tgt := 132) X.x X.b dX11_next_113 (by decide) (fun c62 => ?_) (fun c62 => ?_)
    · have hf := wT c62 hf
      obtain ⟨t63, hf, e64⟩ := wEx_s hf
      have JR := JR t63 e64
      exact wX11_next_b132 hS X h (lv_sub hl [0, 2] rfl) hf JR
    · have hf := wF c62 hf
      refine lv_aload_n X.x X.b dX11_next_116 rfl (lv_at hl 0 rfl) ?_
      refine gR_0_29 X h (hS 0) Nat.one_pos Nat.one_pos lk_X11_77 dX11_next_117 ?_
      refine lv_iload_n X.x X.b dX11_next_120 rfl (lv_at hl 2 rfl) ?_
      obtain ⟨b75, hf⟩ := wGi_s hf
      refine aR_18 X h (hS 18) Nat.one_pos Nat.one_pos b75 dX11_next_121 ?_
      refine lv_iload_n X.x X.b dX11_next_122 rfl (lv_at hl 1 rfl) ?_
      refine lv_icmp_eq (tgt := 132) X.x X.b dX11_next_123 (by decide) (fun c76 => ?_) (fun c76 => ?_)
      · have hf := wT c76 hf
        obtain ⟨t77, hf, e78⟩ := wEx_s hf
        have JR := JR t77 e78
        exact wX11_next_b132 hS X h (lv_sub hl [0, 2] rfl) hf JR
      · have hf := wF c76 hf
        obtain ⟨y79, e80, hf⟩ := wLe_s hf
        refine lv_iinc (v := y79) (lv' := [(3, .int y79), (0, .ref (k.1 + adR 0 0 0)), (2, .int x2)]) X.x X.b dX11_next_126 hl (k := 2) rfl (by rw [e80]; rfl) (by decide) rfl (fun ls hl => ?_)
        refine lv_goto (tgt := 110) X.x X.b dX11_next_129 (by decide) ?_
        exact J1 _ _ (Option.some.inj hf).symm _ _ _ h (lv_sub hl [1, 2, 0] rfl)
set_option maxHeartbeats 4000000 in
set_option maxRecDepth 20000 in
theorem wX11_next_b52 {k : En} {S : Nat → Prop} (hS : ∀ t, S t) {res : Mm} (X : Cx YR S k p s m args meth c cX11_next 4 none RX11) {g : Mm} {H : Heap} {locs : List Loc} {ls : Array Slot} (h : Hx YR S k s g H locs) (hl : lv_has ls 4 [(0, .ref (k.1 + adR 0 0 0))]) {r : Mm} (hf : fX11_next_b52 g = some r) (JR : r = res) :
    W p l e (RmN 2 45) s m args below meth c H locs 0 0 (Fin YR S k args s below none res) (F0 m 52 ls []) := by
  unfold fX11_next_b52 at hf
  refine lv_aload_n X.x X.b dX11_next_52 rfl (lv_at hl 0 rfl) ?_
  refine lv_aload_n X.x X.b dX11_next_53 rfl (lv_at hl 0 rfl) ?_
  refine gR_0_25 X h (hS 0) Nat.one_pos Nat.one_pos lk_X11_132 dX11_next_54 ?_
  obtain ⟨g4, e5, hf⟩ := wLe_s hf
  refine pR_0_26 X h (hS 0) Nat.one_pos Nat.one_pos lk_X11_135 e5 dX11_next_57 (fun H locs h => ?_)
  refine lv_aload_n X.x X.b dX11_next_60 rfl (lv_at hl 0 rfl) ?_
  refine lv_iconst (v := 0) X.x X.b dX11_next_61 (by decide) ?_
  obtain ⟨g6, e7, hf⟩ := wLe_s hf
  refine pR_0_27 X h (hS 0) Nat.one_pos Nat.one_pos lk_X11_138 e7 dX11_next_62 (fun H locs h => ?_)
  refine lv_aload_n X.x X.b dX11_next_65 rfl (lv_at hl 0 rfl) ?_
  refine lv_iconst (v := 0) X.x X.b dX11_next_66 (by decide) ?_
  obtain ⟨g8, e9, hf⟩ := wLe_s hf
  refine pR_0_28 X h (hS 0) Nat.one_pos Nat.one_pos lk_X11_141 e9 dX11_next_67 (fun H locs h => ?_)
  refine lv_aload_n X.x X.b dX11_next_70 rfl (lv_at hl 0 rfl) ?_
  refine gR_0_25 X h (hS 0) Nat.one_pos Nat.one_pos lk_X11_132 dX11_next_71 ?_
  refine lv_aload_n X.x X.b dX11_next_74 rfl (lv_at hl 0 rfl) ?_
  refine gR_0_11 X h (hS 0) Nat.one_pos Nat.one_pos lk_X11_127 dX11_next_75 ?_
  refine lv_icmp_ne (tgt := 82) X.x X.b dX11_next_78 (by decide) (fun c10 => ?_) (fun c10 => ?_)
  · have hf := wF c10 hf
    refine lv_aload_n X.x X.b dX11_next_82 rfl (lv_at hl 0 rfl) ?_
    refine gR_0_10 X h (hS 0) Nat.one_pos Nat.one_pos lk_X11_25 dX11_next_83 ?_
    refine lv_aload_n X.x X.b dX11_next_86 rfl (lv_at hl 0 rfl) ?_
    refine gR_0_25 X h (hS 0) Nat.one_pos Nat.one_pos lk_X11_132 dX11_next_87 ?_
    obtain ⟨b11, hf⟩ := wGi_s hf
    refine aR_6 X h (hS 6) Nat.one_pos Nat.one_pos b11 dX11_next_90 ?_
    obtain ⟨y12, e13, hf⟩ := wLe_s hf
    refine lv_nmi e13 ?_
    refine lv_istore_n (lv' := [(1, .int y12), (0, .ref (k.1 + adR 0 0 0))]) X.x X.b dX11_next_91 rfl hl (by decide) rfl (fun ls hl => ?_)
    refine lv_iload_n X.x X.b dX11_next_92 rfl (lv_at hl 0 rfl) ?_
    refine lv_bipush (v := 97) X.x X.b dX11_next_93 (by decide) ?_
    refine lv_bipush (v := 122) X.x X.b dX11_next_95 (by decide) ?_
    obtain ⟨y15, e14, hf⟩ := wBd_s hf
    refine ro_callsI (As := [.int y12, .int (97 : Int32), .int (122 : Int32)]) (g1 := g8) (x := y15) X h (kX11_in l hS e14) mv_X11_in lk_X11_99 ⟨rfl, rfl⟩ ⟨(Nat.le_of_ble_eq_true rfl), (Nat.le_of_ble_eq_true rfl)⟩ rfl hl rfl (Nat.le_of_ble_eq_true rfl) ⟨Nat.zero_le _, Nat.zero_le _⟩ dX11_next_97 (fun H locs h => ?_)
    refine lv_if_eq (tgt := 190) X.x X.b dX11_next_100 (by decide) (fun c16 => ?_) (fun c16 => ?_)
    · have hf := wT c16 hf
      refine lv_iload_n X.x X.b dX11_next_190 rfl (lv_at hl 0 rfl) ?_
      refine lv_bipush (v := 48) X.x X.b dX11_next_191 (by decide) ?_
      refine lv_bipush (v := 57) X.x X.b dX11_next_193 (by decide) ?_
      obtain ⟨y18, e17, hf⟩ := wBd_s hf
      refine ro_callsI (As := [.int y12, .int (48 : Int32), .int (57 : Int32)]) (g1 := g8) (x := y18) X h (kX11_in l hS e17) mv_X11_in lk_X11_99 ⟨rfl, rfl⟩ ⟨(Nat.le_of_ble_eq_true rfl), (Nat.le_of_ble_eq_true rfl)⟩ rfl hl rfl (Nat.le_of_ble_eq_true rfl) ⟨Nat.zero_le _, Nat.zero_le _⟩ dX11_next_195 (fun H locs h => ?_)
      refine lv_if_eq (tgt := 299) X.x X.b dX11_next_198 (by decide) (fun c19 => ?_) (fun c19 => ?_)
      · have hf := wT c19 hf
        refine lv_iload_n X.x X.b dX11_next_299 rfl (lv_at hl 0 rfl) ?_
        refine lv_bipush (v := 40) X.x X.b dX11_next_300 (by decide) ?_
        refine lv_icmp_eq (tgt := 347) X.x X.b dX11_next_302 (by decide) (fun c20 => ?_) (fun c20 => ?_)
        · have hf := wT c20 hf
          exact wX11_next_b347 hS X h (lv_sub hl [1, 0] rfl) hf JR
        · have hf := wF c20 hf
          refine lv_iload_n X.x X.b dX11_next_305 rfl (lv_at hl 0 rfl) ?_
          refine lv_bipush (v := 41) X.x X.b dX11_next_306 (by decide) ?_
          refine lv_icmp_eq (tgt := 347) X.x X.b dX11_next_308 (by decide) (fun c26 => ?_) (fun c26 => ?_)
          · have hf := wT c26 hf
            exact wX11_next_b347 hS X h (lv_sub hl [1, 0] rfl) hf JR
          · have hf := wF c26 hf
            refine lv_iload_n X.x X.b dX11_next_311 rfl (lv_at hl 0 rfl) ?_
            refine lv_bipush (v := 59) X.x X.b dX11_next_312 (by decide) ?_
            refine lv_icmp_eq (tgt := 347) X.x X.b dX11_next_314 (by decide) (fun c27 => ?_) (fun c27 => ?_)
            · have hf := wT c27 hf
              exact wX11_next_b347 hS X h (lv_sub hl [1, 0] rfl) hf JR
            · have hf := wF c27 hf
              refine lv_iload_n X.x X.b dX11_next_317 rfl (lv_at hl 0 rfl) ?_
              refine lv_bipush (v := 43) X.x X.b dX11_next_318 (by decide) ?_
              refine lv_icmp_eq (tgt := 347) X.x X.b dX11_next_320 (by decide) (fun c28 => ?_) (fun c28 => ?_)
              · have hf := wT c28 hf
                exact wX11_next_b347 hS X h (lv_sub hl [1, 0] rfl) hf JR
              · have hf := wF c28 hf
                refine lv_iload_n X.x X.b dX11_next_323 rfl (lv_at hl 0 rfl) ?_
                refine lv_bipush (v := 45) X.x X.b dX11_next_324 (by decide) ?_
                refine lv_icmp_eq (tgt := 347) X.x X.b dX11_next_326 (by decide) (fun c29 => ?_) (fun c29 => ?_)
                · have hf := wT c29 hf
                  exact wX11_next_b347 hS X h (lv_sub hl [1, 0] rfl) hf JR
                · have hf := wF c29 hf
                  refine lv_iload_n X.x X.b dX11_next_329 rfl (lv_at hl 0 rfl) ?_
                  refine lv_bipush (v := 42) X.x X.b dX11_next_330 (by decide) ?_
                  refine lv_icmp_eq (tgt := 347) X.x X.b dX11_next_332 (by decide) (fun c30 => ?_) (fun c30 => ?_)
                  · have hf := wT c30 hf
                    exact wX11_next_b347 hS X h (lv_sub hl [1, 0] rfl) hf JR
                  · have hf := wF c30 hf
                    refine lv_iload_n X.x X.b dX11_next_335 rfl (lv_at hl 0 rfl) ?_
                    refine lv_bipush (v := 60) X.x X.b dX11_next_336 (by decide) ?_
                    refine lv_icmp_eq (tgt := 347) X.x X.b dX11_next_338 (by decide) (fun c31 => ?_) (fun c31 => ?_)
                    · have hf := wT c31 hf
                      exact wX11_next_b347 hS X h (lv_sub hl [1, 0] rfl) hf JR
                    · have hf := wF c31 hf
                      refine lv_iload_n X.x X.b dX11_next_341 rfl (lv_at hl 0 rfl) ?_
                      refine lv_bipush (v := 61) X.x X.b dX11_next_342 (by decide) ?_
                      refine lv_icmp_ne (tgt := 351) X.x X.b dX11_next_344 (by decide) (fun c32 => ?_) (fun c32 => ?_)
                      · have hf := wF c32 hf
                        refine lv_iconst (v := 0) X.x X.b dX11_next_351 (by decide) ?_
                        exact wX11_next_b352 hS X h (lv_sub hl [1, 0] rfl) hf JR
                      · have hf := wT c32 hf
                        exact wX11_next_b347 hS X h (lv_sub hl [1, 0] rfl) hf JR
      · have hf := wF c19 hf
        refine lv_iconst (v := 0) X.x X.b dX11_next_201 (by decide) ?_
        obtain ⟨y33, e34, hf⟩ := wLe_s hf
        refine lv_nmi e34 ?_
        refine lv_istore_n (lv' := [(2, .int y33), (1, .int y12), (0, .ref (k.1 + adR 0 0 0))]) X.x X.b dX11_next_202 rfl hl (by decide) rfl (fun ls hl => ?_)
        exact wX11_next_L203 hS X JR _ _ _ _ _ _ h (lv_sub hl [2, 0] rfl) hf
    · have hf := wF c16 hf
      refine lv_aload_n X.x X.b dX11_next_103 rfl (lv_at hl 1 rfl) ?_
      obtain ⟨g59, y58, e57, hf⟩ := wB2_s hf
      refine ro_callvI (As := []) (g1 := g59) (x := y58) X h (kX11_letters l hS e57) mv_X11_letters lk_X11_144 ⟨rfl, rfl⟩ ⟨(Nat.le_of_ble_eq_true rfl), (Nat.le_of_ble_eq_true rfl)⟩ (rR_0 X h (hS 0) Nat.one_pos Nat.one_pos) rfl hl rfl (Nat.le_of_ble_eq_true rfl) ⟨Nat.zero_le _, Nat.zero_le _⟩ dX11_next_104 (fun H locs h => ?_)
      refine lv_istore_n (lv' := [(2, .int y58), (1, .int y12), (0, .ref (k.1 + adR 0 0 0))]) X.x X.b dX11_next_107 rfl hl (by decide) rfl (fun ls hl => ?_)
      refine lv_iconst (v := 0) X.x X.b dX11_next_108 (by decide) ?_
      obtain ⟨y60, e61, hf⟩ := wLe_s hf
      refine lv_nmi e61 ?_
      refine lv_istore_n (lv' := [(3, .int y60), (2, .int y58), (1, .int y12), (0, .ref (k.1 + adR 0 0 0))]) X.x X.b dX11_next_109 rfl hl (by decide) rfl (fun ls hl => ?_)
      exact wX11_next_L110 hS X JR _ _ _ _ _ _ h (lv_sub hl [3, 1, 0] rfl) hf
  · have hf := wT c10 hf
    cases (Option.some.inj hf).trans JR
    exact ro_vret X h dX11_next_81
set_option maxHeartbeats 4000000 in
set_option maxRecDepth 20000 in
theorem wX11_next_b39 {k : En} {S : Nat → Prop} (hS : ∀ t, S t) {res : Mm} (X : Cx YR S k p s m args meth c cX11_next 4 none RX11) {g : Mm} {H : Heap} {locs : List Loc} {ls : Array Slot} (h : Hx YR S k s g H locs) (hl : lv_has ls 4 [(0, .ref (k.1 + adR 0 0 0))]) {r : (Mm) ⊕ (Mm)} (hf : fX11_next_b39 g = some r) (J1 : ∀ (g : Mm), r = .inl g → ∀ (H : Heap) (locs : List Loc) (ls : Array Slot), Hx YR S k s g H locs → lv_has ls 4 [(0, .ref (k.1 + adR 0 0 0))] → W p l e (RmN 2 45) s m args below meth c H locs 0 0 (Fin YR S k args s below none res) (F0 m 0 ls [])) (JR : ∀ t1, r = .inr t1 → t1 = res) :
    W p l e (RmN 2 45) s m args below meth c H locs 0 0 (Fin YR S k args s below none res) (F0 m 39 ls []) := by
  unfold fX11_next_b39 at hf
  refine lv_aload_n X.x X.b dX11_next_39 rfl (lv_at hl 0 rfl) ?_
  refine lv_dup X.x X.b dX11_next_40 rfl ?_
  refine gR_0_25 X h (hS 0) Nat.one_pos Nat.one_pos lk_X11_132 dX11_next_41 ?_
  refine lv_iconst (v := 1) X.x X.b dX11_next_44 (by decide) ?_
  refine lv_iadd X.x X.b dX11_next_45 ?_
  obtain ⟨g83, e84, hf⟩ := wLe_s hf
  refine pR_0_25 X h (hS 0) Nat.one_pos Nat.one_pos lk_X11_132 e84 dX11_next_46 (fun H locs h => ?_)
  refine lv_goto (tgt := 0) X.x X.b dX11_next_49 (by decide) ?_
  exact J1 _ (Option.some.inj hf).symm _ _ _ h (lv_sub hl [0] rfl)
set_option maxHeartbeats 4000000 in
set_option maxRecDepth 20000 in
theorem wX11_next_L0 {k : En} {S : Nat → Prop} (hS : ∀ t, S t) {res : Mm} (X : Cx YR S k p s m args meth c cX11_next 4 none RX11) {r : Mm} (JR : r = res) :
    ∀ (fu : Nat) (g : Mm) (H : Heap) (locs : List Loc) (ls : Array Slot), Hx YR S k s g H locs → lv_has ls 4 [(0, .ref (k.1 + adR 0 0 0))] → wLp (fun q => fX11_next_B0 q) fu g = some r → W p l e (RmN 2 45) s m args below meth c H locs 0 0 (Fin YR S k args s below none res) (F0 m 0 ls []) := by
  intro fu
  induction fu with
  | zero => intro g H locs ls h hl hf; exact (wLp_0 hf).elim
  | succ fu ih1 =>
    intro g H locs ls h hl hf
    obtain ⟨r1, hf, hr⟩ := wLp_s hf
    have J1n : ∀ (g : Mm), r1 = .inl g → ∀ (H : Heap) (locs : List Loc) (ls : Array Slot), Hx YR S k s g H locs → lv_has ls 4 [(0, .ref (k.1 + adR 0 0 0))] → W p l e (RmN 2 45) s m args below meth c H locs 0 0 (Fin YR S k args s below none res) (F0 m 0 ls []) := fun g q H locs ls h hl => by subst q; exact ih1 _ _ _ _ h hl hr
    have JRn : ∀ t1, r1 = .inr t1 → t1 = res := fun t1 q => by subst q; obtain rfl := Option.some.inj hr; exact JR
    have J1 := J1n
    have JR := JRn
    clear J1n JRn
    have hf : fX11_next_B0 g = some r1 := hf
    unfold fX11_next_B0 at hf
    refine lv_aload_n X.x X.b dX11_next_0 rfl (lv_at hl 0 rfl) ?_
    refine gR_0_25 X h (hS 0) Nat.one_pos Nat.one_pos lk_X11_132 dX11_next_1 ?_
    refine lv_aload_n X.x X.b dX11_next_4 rfl (lv_at hl 0 rfl) ?_
    refine gR_0_11 X h (hS 0) Nat.one_pos Nat.one_pos lk_X11_127 dX11_next_5 ?_
    refine lv_icmp_ge (tgt := 52) X.x X.b dX11_next_8 (by decide) (fun c1 => ?_) (fun c1 => ?_)
    · have hf := wT c1 hf
      obtain ⟨t2, hf, e3⟩ := wEx_s hf
      have JR := JR t2 e3
      exact wX11_next_b52 hS X h (lv_sub hl [0] rfl) hf JR
    · have hf := wF c1 hf
      refine lv_aload_n X.x X.b dX11_next_11 rfl (lv_at hl 0 rfl) ?_
      refine gR_0_10 X h (hS 0) Nat.one_pos Nat.one_pos lk_X11_25 dX11_next_12 ?_
      refine lv_aload_n X.x X.b dX11_next_15 rfl (lv_at hl 0 rfl) ?_
      refine gR_0_25 X h (hS 0) Nat.one_pos Nat.one_pos lk_X11_132 dX11_next_16 ?_
      obtain ⟨b81, hf⟩ := wGi_s hf
      refine aR_6 X h (hS 6) Nat.one_pos Nat.one_pos b81 dX11_next_19 ?_
      refine lv_bipush (v := 32) X.x X.b dX11_next_20 (by decide) ?_
      refine lv_icmp_eq (tgt := 39) X.x X.b dX11_next_22 (by decide) (fun c82 => ?_) (fun c82 => ?_)
      · have hf := wT c82 hf
        exact wX11_next_b39 hS X h (lv_sub hl [0] rfl) hf J1 JR
      · have hf := wF c82 hf
        refine lv_aload_n X.x X.b dX11_next_25 rfl (lv_at hl 0 rfl) ?_
        refine gR_0_10 X h (hS 0) Nat.one_pos Nat.one_pos lk_X11_25 dX11_next_26 ?_
        refine lv_aload_n X.x X.b dX11_next_29 rfl (lv_at hl 0 rfl) ?_
        refine gR_0_25 X h (hS 0) Nat.one_pos Nat.one_pos lk_X11_132 dX11_next_30 ?_
        obtain ⟨b85, hf⟩ := wGi_s hf
        refine aR_6 X h (hS 6) Nat.one_pos Nat.one_pos b85 dX11_next_33 ?_
        refine lv_bipush (v := 10) X.x X.b dX11_next_34 (by decide) ?_
        refine lv_icmp_ne (tgt := 52) X.x X.b dX11_next_36 (by decide) (fun c86 => ?_) (fun c86 => ?_)
        · have hf := wF c86 hf
          obtain ⟨t87, hf, e88⟩ := wEx_s hf
          have JR := JR t87 e88
          exact wX11_next_b52 hS X h (lv_sub hl [0] rfl) hf JR
        · have hf := wT c86 hf
          exact wX11_next_b39 hS X h (lv_sub hl [0] rfl) hf J1 JR
set_option maxHeartbeats 4000000 in
set_option maxRecDepth 20000 in
theorem kX11_next (l : Launch) {k : En} {S : Nat → Prop} (hS : ∀ t, S t) {res : Mm} {g : Mm} (hf : fX11_next g = some res) : Mt l yX11_next cX11_next 4 none (RmN 2 45) YR S k [.ref (k.1 + adR 0 0 0)] g none res := by
  refine Mt.of (by decide) (Nat.le_of_ble_eq_true rfl) ?_
  intro p e s m args below meth c ls X _ h hl
  have X : Cx YR S k p s m args meth c cX11_next 4 none RX11 := X
  have hl : lv_has ls 4 [(0, .ref (k.1 + adR 0 0 0))] := hl
  have JR : res = res := rfl
  unfold fX11_next at hf
  exact wX11_next_L0 hS X JR _ _ _ _ _ h (lv_sub hl [0] rfl) hf
set_option maxHeartbeats 4000000 in
set_option maxRecDepth 20000 in
theorem kX11_rank (l : Launch) {k : En} {S : Nat → Prop} (hS : ∀ t, S t) {g0 : Mm} {a0 : Int32} {res : Int32} (hf : fX11_rank g0 a0 = some res) : Mt l yX11_rank cX11_rank 1 (some .int) (RmN 0 0) YR S k [.int a0] g0 (some (.int res)) g0 := by
  refine Mt.of (by decide) (Nat.le_of_ble_eq_true rfl) ?_
  intro p e s m args below meth c ls X _ h hl
  have X : Cx YR S k p s m args meth c cX11_rank 1 (some .int) RX11 := X
  have hl : lv_has ls 1 [(0, .int a0)] := hl
  have JR : res = res := rfl
  unfold fX11_rank at hf
  refine lv_iload_n X.x X.b dX11_rank_0 rfl (lv_at hl 0 rfl) ?_
  refine lv_if_ne (tgt := 8) X.x X.b dX11_rank_1 (by decide) (fun c1 => ?_) (fun c1 => ?_)
  · have hf := wF c1 hf
    refine lv_iload_n X.x X.b dX11_rank_8 rfl (lv_at hl 0 rfl) ?_
    refine lv_bipush (v := 11) X.x X.b dX11_rank_9 (by decide) ?_
    refine lv_icmp_ne (tgt := 18) X.x X.b dX11_rank_11 (by decide) (fun c2 => ?_) (fun c2 => ?_)
    · have hf := wF c2 hf
      refine lv_iload_n X.x X.b dX11_rank_18 rfl (lv_at hl 0 rfl) ?_
      refine lv_bipush (v := 12) X.x X.b dX11_rank_19 (by decide) ?_
      refine lv_icmp_ne (tgt := 28) X.x X.b dX11_rank_21 (by decide) (fun c3 => ?_) (fun c3 => ?_)
      · have hf := wF c3 hf
        refine lv_iload_n X.x X.b dX11_rank_28 rfl (lv_at hl 0 rfl) ?_
        refine lv_bipush (v := 13) X.x X.b dX11_rank_29 (by decide) ?_
        refine lv_icmp_ne (tgt := 38) X.x X.b dX11_rank_31 (by decide) (fun c4 => ?_) (fun c4 => ?_)
        · have hf := wF c4 hf
          refine lv_iload_n X.x X.b dX11_rank_38 rfl (lv_at hl 0 rfl) ?_
          refine lv_bipush (v := 15) X.x X.b dX11_rank_39 (by decide) ?_
          refine lv_icmp_gt (tgt := 48) X.x X.b dX11_rank_41 (by decide) (fun c5 => ?_) (fun c5 => ?_)
          · have hf := wT c5 hf
            refine lv_iload_n X.x X.b dX11_rank_48 rfl (lv_at hl 0 rfl) ?_
            refine lv_bipush (v := 17) X.x X.b dX11_rank_49 (by decide) ?_
            refine lv_icmp_gt (tgt := 58) X.x X.b dX11_rank_51 (by decide) (fun c6 => ?_) (fun c6 => ?_)
            · have hf := wT c6 hf
              refine lv_iload_n X.x X.b dX11_rank_58 rfl (lv_at hl 0 rfl) ?_
              refine lv_bipush (v := 18) X.x X.b dX11_rank_59 (by decide) ?_
              refine lv_icmp_ne (tgt := 69) X.x X.b dX11_rank_61 (by decide) (fun c7 => ?_) (fun c7 => ?_)
              · have hf := wF c7 hf
                refine lv_bipush (v := 7) X.x X.b dX11_rank_69 (by decide) ?_
                cases (Option.some.inj hf).trans JR
                exact ro_iret X h dX11_rank_71
              · have hf := wT c7 hf
                refine lv_bipush (v := 6) X.x X.b dX11_rank_64 (by decide) ?_
                refine lv_goto (tgt := 71) X.x X.b dX11_rank_66 (by decide) ?_
                cases (Option.some.inj hf).trans JR
                exact ro_iret X h dX11_rank_71
            · have hf := wF c6 hf
              refine lv_iconst (v := 5) X.x X.b dX11_rank_54 (by decide) ?_
              refine lv_goto (tgt := 71) X.x X.b dX11_rank_55 (by decide) ?_
              cases (Option.some.inj hf).trans JR
              exact ro_iret X h dX11_rank_71
          · have hf := wF c5 hf
            refine lv_iconst (v := 4) X.x X.b dX11_rank_44 (by decide) ?_
            refine lv_goto (tgt := 71) X.x X.b dX11_rank_45 (by decide) ?_
            cases (Option.some.inj hf).trans JR
            exact ro_iret X h dX11_rank_71
        · have hf := wT c4 hf
          refine lv_iconst (v := 3) X.x X.b dX11_rank_34 (by decide) ?_
          refine lv_goto (tgt := 71) X.x X.b dX11_rank_35 (by decide) ?_
          cases (Option.some.inj hf).trans JR
          exact ro_iret X h dX11_rank_71
      · have hf := wT c3 hf
        refine lv_iconst (v := 2) X.x X.b dX11_rank_24 (by decide) ?_
        refine lv_goto (tgt := 71) X.x X.b dX11_rank_25 (by decide) ?_
        cases (Option.some.inj hf).trans JR
        exact ro_iret X h dX11_rank_71
    · have hf := wT c2 hf
      refine lv_iconst (v := 1) X.x X.b dX11_rank_14 (by decide) ?_
      refine lv_goto (tgt := 71) X.x X.b dX11_rank_15 (by decide) ?_
      cases (Option.some.inj hf).trans JR
      exact ro_iret X h dX11_rank_71
  · have hf := wT c1 hf
    refine lv_iconst (v := 0) X.x X.b dX11_rank_4 (by decide) ?_
    refine lv_goto (tgt := 71) X.x X.b dX11_rank_5 (by decide) ?_
    cases (Option.some.inj hf).trans JR
    exact ro_iret X h dX11_rank_71
set_option maxHeartbeats 4000000 in
set_option maxRecDepth 20000 in
theorem kX11_puts (l : Launch) {k : En} {S : Nat → Prop} (hS : ∀ t, S t) {a1 : Int32} {res : Mm} {g : Mm} (hf : fX11_puts g a1 = some res) : Mt l yX11_puts cX11_puts 2 none (RmN 0 0) YR S k [.ref (k.1 + adR 0 0 0), .int a1] g none res := by
  refine Mt.of (by decide) (Nat.le_of_ble_eq_true rfl) ?_
  intro p e s m args below meth c ls X _ h hl
  have X : Cx YR S k p s m args meth c cX11_puts 2 none RX11 := X
  have hl : lv_has ls 2 [(0, .ref (k.1 + adR 0 0 0)), (1, .int a1)] := hl
  have JR : res = res := rfl
  unfold fX11_puts at hf
  refine lv_aload_n X.x X.b dX11_puts_0 rfl (lv_at hl 0 rfl) ?_
  refine gR_0_14 X h (hS 0) Nat.one_pos Nat.one_pos lk_X11_28 dX11_puts_1 ?_
  refine lv_sipush (v := 200) X.x X.b dX11_puts_4 (by decide) ?_
  refine lv_aload_n X.x X.b dX11_puts_7 rfl (lv_at hl 0 rfl) ?_
  refine gR_0_12 X h (hS 0) Nat.one_pos Nat.one_pos lk_X11_92 dX11_puts_8 ?_
  refine lv_imul X.x X.b dX11_puts_11 ?_
  refine lv_aload_n X.x X.b dX11_puts_12 rfl (lv_at hl 0 rfl) ?_
  refine gR_0_33 X h (hS 0) Nat.one_pos Nat.one_pos lk_X11_148 dX11_puts_13 ?_
  refine lv_iadd X.x X.b dX11_puts_16 ?_
  refine lv_iload_n X.x X.b dX11_puts_17 rfl (lv_at hl 1 rfl) ?_
  obtain ⟨b1, hf⟩ := wGi_s hf
  obtain ⟨g2, e3, hf⟩ := wLe_s hf
  refine bR_7 X h (hS 7) Nat.one_pos Nat.one_pos e3 b1 dX11_puts_18 (fun H locs h => ?_)
  refine lv_aload_n X.x X.b dX11_puts_19 rfl (lv_at hl 0 rfl) ?_
  refine lv_dup X.x X.b dX11_puts_20 rfl ?_
  refine gR_0_33 X h (hS 0) Nat.one_pos Nat.one_pos lk_X11_148 dX11_puts_21 ?_
  refine lv_iconst (v := 1) X.x X.b dX11_puts_24 (by decide) ?_
  refine lv_iadd X.x X.b dX11_puts_25 ?_
  obtain ⟨g4, e5, hf⟩ := wLe_s hf
  refine pR_0_33 X h (hS 0) Nat.one_pos Nat.one_pos lk_X11_148 e5 dX11_puts_26 (fun H locs h => ?_)
  cases (Option.some.inj hf).trans JR
  exact ro_vret X h dX11_puts_29
set_option maxHeartbeats 4000000 in
set_option maxRecDepth 20000 in
theorem wX11_unwinds_b67 {k : En} {S : Nat → Prop} (hS : ∀ t, S t) {a1 : Int32} {res : Mm} (X : Cx YR S k p s m args meth c cX11_unwinds 3 none RX11) {g : Mm} {x2 : Int32} {z1 : Int32} {z2 : Int32} {H : Heap} {locs : List Loc} {ls : Array Slot} (h : Hx YR S k s g H locs) (hl : lv_has ls 3 [(0, .ref (k.1 + adR 0 0 0)), (1, .int a1), (2, .int x2)]) {r : (Mm) ⊕ (Mm)} (hf : fX11_unwinds_b67 g a1 x2 z1 z2 = some r) (J1 : ∀ (g : Mm), r = .inl g → ∀ (H : Heap) (locs : List Loc) (ls : Array Slot), Hx YR S k s g H locs → lv_has ls 3 [(0, .ref (k.1 + adR 0 0 0)), (1, .int a1)] → W p l e (RmN 1 21) s m args below meth c H locs 0 0 (Fin YR S k args s below none res) (F0 m 0 ls [])) (JR : ∀ t1, r = .inr t1 → t1 = res) :
    W p l e (RmN 1 21) s m args below meth c H locs 0 0 (Fin YR S k args s below none res) (F0 m 67 ls [.int z2, .int z1, .ref (k.1 + adR 0 0 0)]) := by
  unfold fX11_unwinds_b67 at hf
  refine lv_isub X.x X.b dX11_unwinds_67 ?_
  obtain ⟨g16, e17, hf⟩ := wLe_s hf
  refine pR_0_32 X h (hS 0) Nat.one_pos Nat.one_pos lk_X11_157 e17 dX11_unwinds_68 (fun H locs h => ?_)
  refine lv_aload_n X.x X.b dX11_unwinds_71 rfl (lv_at hl 0 rfl) ?_
  refine lv_iload_n X.x X.b dX11_unwinds_72 rfl (lv_at hl 2 rfl) ?_
  obtain ⟨g20, e18, hf⟩ := wBd_s hf
  refine ro_callvV (As := [.int x2]) (g1 := g20) X h (kX11_puts l hS e18) mv_X11_puts lk_X11_160 ⟨rfl, rfl⟩ ⟨(Nat.le_of_ble_eq_true rfl), (Nat.le_of_ble_eq_true rfl)⟩ (rR_0 X h (hS 0) Nat.one_pos Nat.one_pos) rfl hl rfl (Nat.le_of_ble_eq_true rfl) ⟨Nat.zero_le _, Nat.zero_le _⟩ dX11_unwinds_73 (fun H locs h => ?_)
  refine lv_goto (tgt := 0) X.x X.b dX11_unwinds_76 (by decide) ?_
  exact J1 _ (Option.some.inj hf).symm _ _ _ h (lv_sub hl [0, 1] rfl)
set_option maxHeartbeats 4000000 in
set_option maxRecDepth 20000 in
theorem wX11_unwinds_b62 {k : En} {S : Nat → Prop} (hS : ∀ t, S t) {a1 : Int32} {res : Mm} (X : Cx YR S k p s m args meth c cX11_unwinds 3 none RX11) {g : Mm} {x2 : Int32} {z1 : Int32} {H : Heap} {locs : List Loc} {ls : Array Slot} (h : Hx YR S k s g H locs) (hl : lv_has ls 3 [(0, .ref (k.1 + adR 0 0 0)), (1, .int a1), (2, .int x2)]) {r : (Mm) ⊕ (Mm)} (hf : fX11_unwinds_b62 g a1 x2 z1 = some r) (J1 : ∀ (g : Mm), r = .inl g → ∀ (H : Heap) (locs : List Loc) (ls : Array Slot), Hx YR S k s g H locs → lv_has ls 3 [(0, .ref (k.1 + adR 0 0 0)), (1, .int a1)] → W p l e (RmN 1 21) s m args below meth c H locs 0 0 (Fin YR S k args s below none res) (F0 m 0 ls [])) (JR : ∀ t1, r = .inr t1 → t1 = res) :
    W p l e (RmN 1 21) s m args below meth c H locs 0 0 (Fin YR S k args s below none res) (F0 m 62 ls [.int z1, .ref (k.1 + adR 0 0 0)]) := by
  unfold fX11_unwinds_b62 at hf
  refine lv_iconst (v := 1) X.x X.b dX11_unwinds_62 (by decide) ?_
  refine lv_goto (tgt := 67) X.x X.b dX11_unwinds_63 (by decide) ?_
  exact wX11_unwinds_b67 hS X h (lv_sub hl [0, 1, 2] rfl) hf J1 JR
set_option maxHeartbeats 4000000 in
set_option maxRecDepth 20000 in
theorem wX11_unwinds_L0 {k : En} {S : Nat → Prop} (hS : ∀ t, S t) {a1 : Int32} {res : Mm} (X : Cx YR S k p s m args meth c cX11_unwinds 3 none RX11) {r : Mm} (JR : r = res) :
    ∀ (fu : Nat) (g : Mm) (H : Heap) (locs : List Loc) (ls : Array Slot), Hx YR S k s g H locs → lv_has ls 3 [(0, .ref (k.1 + adR 0 0 0)), (1, .int a1)] → wLp (fun q => fX11_unwinds_B0 q a1) fu g = some r → W p l e (RmN 1 21) s m args below meth c H locs 0 0 (Fin YR S k args s below none res) (F0 m 0 ls []) := by
  intro fu
  induction fu with
  | zero => intro g H locs ls h hl hf; exact (wLp_0 hf).elim
  | succ fu ih1 =>
    intro g H locs ls h hl hf
    obtain ⟨r1, hf, hr⟩ := wLp_s hf
    have J1n : ∀ (g : Mm), r1 = .inl g → ∀ (H : Heap) (locs : List Loc) (ls : Array Slot), Hx YR S k s g H locs → lv_has ls 3 [(0, .ref (k.1 + adR 0 0 0)), (1, .int a1)] → W p l e (RmN 1 21) s m args below meth c H locs 0 0 (Fin YR S k args s below none res) (F0 m 0 ls []) := fun g q H locs ls h hl => by subst q; exact ih1 _ _ _ _ h hl hr
    have JRn : ∀ t1, r1 = .inr t1 → t1 = res := fun t1 q => by subst q; obtain rfl := Option.some.inj hr; exact JR
    have J1 := J1n
    have JR := JRn
    clear J1n JRn
    have hf : fX11_unwinds_B0 g a1 = some r1 := hf
    unfold fX11_unwinds_B0 at hf
    refine lv_aload_n X.x X.b dX11_unwinds_0 rfl (lv_at hl 0 rfl) ?_
    refine gR_0_31 X h (hS 0) Nat.one_pos Nat.one_pos lk_X11_151 dX11_unwinds_1 ?_
    refine lv_if_le (tgt := 79) X.x X.b dX11_unwinds_4 (by decide) (fun c1 => ?_) (fun c1 => ?_)
    · have hf := wT c1 hf
      obtain ⟨t2, hf, e3⟩ := wEx_s hf
      have JR := JR t2 e3
      cases (Option.some.inj hf).trans JR
      exact ro_vret X h dX11_unwinds_79
    · have hf := wF c1 hf
      refine lv_aload_n X.x X.b dX11_unwinds_7 rfl (lv_at hl 0 rfl) ?_
      refine gR_0_30 X h (hS 0) Nat.one_pos Nat.one_pos lk_X11_80 dX11_unwinds_8 ?_
      refine lv_aload_n X.x X.b dX11_unwinds_11 rfl (lv_at hl 0 rfl) ?_
      refine gR_0_31 X h (hS 0) Nat.one_pos Nat.one_pos lk_X11_151 dX11_unwinds_12 ?_
      refine lv_iconst (v := 1) X.x X.b dX11_unwinds_15 (by decide) ?_
      refine lv_isub X.x X.b dX11_unwinds_16 ?_
      obtain ⟨b4, hf⟩ := wGi_s hf
      refine aR_19 X h (hS 19) Nat.one_pos Nat.one_pos b4 dX11_unwinds_17 ?_
      obtain ⟨y6, e5, hf⟩ := wBd_s hf
      refine ro_callsI (As := [.int (g 19 0 0 ((g 0 0 0 31) - (1 : Int32)).toNatClampNeg)]) (g1 := g) (x := y6) X h (kX11_rank l hS e5) mv_X11_rank lk_X11_154 ⟨rfl, rfl⟩ ⟨(Nat.le_of_ble_eq_true rfl), (Nat.le_of_ble_eq_true rfl)⟩ rfl hl rfl (Nat.le_of_ble_eq_true rfl) ⟨Nat.zero_le _, Nat.zero_le _⟩ dX11_unwinds_18 (fun H locs h => ?_)
      refine lv_iload_n X.x X.b dX11_unwinds_21 rfl (lv_at hl 1 rfl) ?_
      refine lv_icmp_lt (tgt := 79) X.x X.b dX11_unwinds_22 (by decide) (fun c7 => ?_) (fun c7 => ?_)
      · have hf := wT c7 hf
        obtain ⟨t8, hf, e9⟩ := wEx_s hf
        have JR := JR t8 e9
        cases (Option.some.inj hf).trans JR
        exact ro_vret X h dX11_unwinds_79
      · have hf := wF c7 hf
        refine lv_aload_n X.x X.b dX11_unwinds_25 rfl (lv_at hl 0 rfl) ?_
        refine lv_dup X.x X.b dX11_unwinds_26 rfl ?_
        refine gR_0_31 X h (hS 0) Nat.one_pos Nat.one_pos lk_X11_151 dX11_unwinds_27 ?_
        refine lv_iconst (v := 1) X.x X.b dX11_unwinds_30 (by decide) ?_
        refine lv_isub X.x X.b dX11_unwinds_31 ?_
        obtain ⟨g10, e11, hf⟩ := wLe_s hf
        refine pR_0_31 X h (hS 0) Nat.one_pos Nat.one_pos lk_X11_151 e11 dX11_unwinds_32 (fun H locs h => ?_)
        refine lv_aload_n X.x X.b dX11_unwinds_35 rfl (lv_at hl 0 rfl) ?_
        refine gR_0_30 X h (hS 0) Nat.one_pos Nat.one_pos lk_X11_80 dX11_unwinds_36 ?_
        refine lv_aload_n X.x X.b dX11_unwinds_39 rfl (lv_at hl 0 rfl) ?_
        refine gR_0_31 X h (hS 0) Nat.one_pos Nat.one_pos lk_X11_151 dX11_unwinds_40 ?_
        obtain ⟨b12, hf⟩ := wGi_s hf
        refine aR_19 X h (hS 19) Nat.one_pos Nat.one_pos b12 dX11_unwinds_43 ?_
        obtain ⟨y13, e14, hf⟩ := wLe_s hf
        refine lv_nmi e14 ?_
        refine lv_istore_n (lv' := [(2, .int y13), (0, .ref (k.1 + adR 0 0 0)), (1, .int a1)]) X.x X.b dX11_unwinds_44 rfl hl (by decide) rfl (fun ls hl => ?_)
        refine lv_aload_n X.x X.b dX11_unwinds_45 rfl (lv_at hl 1 rfl) ?_
        refine lv_dup X.x X.b dX11_unwinds_46 rfl ?_
        refine gR_0_32 X h (hS 0) Nat.one_pos Nat.one_pos lk_X11_157 dX11_unwinds_47 ?_
        refine lv_iload_n X.x X.b dX11_unwinds_50 rfl (lv_at hl 0 rfl) ?_
        refine lv_bipush (v := 13) X.x X.b dX11_unwinds_51 (by decide) ?_
        refine lv_icmp_eq (tgt := 62) X.x X.b dX11_unwinds_53 (by decide) (fun c15 => ?_) (fun c15 => ?_)
        · have hf := wT c15 hf
          exact wX11_unwinds_b62 hS X h (lv_sub hl [1, 2, 0] rfl) hf J1 JR
        · have hf := wF c15 hf
          refine lv_iload_n X.x X.b dX11_unwinds_56 rfl (lv_at hl 0 rfl) ?_
          refine lv_bipush (v := 19) X.x X.b dX11_unwinds_57 (by decide) ?_
          refine lv_icmp_ne (tgt := 66) X.x X.b dX11_unwinds_59 (by decide) (fun c21 => ?_) (fun c21 => ?_)
          · have hf := wF c21 hf
            refine lv_iconst (v := 0) X.x X.b dX11_unwinds_66 (by decide) ?_
            exact wX11_unwinds_b67 hS X h (lv_sub hl [1, 2, 0] rfl) hf J1 JR
          · have hf := wT c21 hf
            exact wX11_unwinds_b62 hS X h (lv_sub hl [1, 2, 0] rfl) hf J1 JR
set_option maxHeartbeats 4000000 in
set_option maxRecDepth 20000 in
theorem kX11_unwinds (l : Launch) {k : En} {S : Nat → Prop} (hS : ∀ t, S t) {a1 : Int32} {res : Mm} {g : Mm} (hf : fX11_unwinds g a1 = some res) : Mt l yX11_unwinds cX11_unwinds 3 none (RmN 1 21) YR S k [.ref (k.1 + adR 0 0 0), .int a1] g none res := by
  refine Mt.of (by decide) (Nat.le_of_ble_eq_true rfl) ?_
  intro p e s m args below meth c ls X _ h hl
  have X : Cx YR S k p s m args meth c cX11_unwinds 3 none RX11 := X
  have hl : lv_has ls 3 [(0, .ref (k.1 + adR 0 0 0)), (1, .int a1)] := hl
  have JR : res = res := rfl
  unfold fX11_unwinds at hf
  exact wX11_unwinds_L0 hS X JR _ _ _ _ _ h (lv_sub hl [0, 1] rfl) hf
set_option maxHeartbeats 4000000 in
set_option maxRecDepth 20000 in
theorem kX11_holds (l : Launch) {k : En} {S : Nat → Prop} (hS : ∀ t, S t) {a1 : Int32} {res : Mm} {g : Mm} (hf : fX11_holds g a1 = some res) : Mt l yX11_holds cX11_holds 2 none (RmN 0 0) YR S k [.ref (k.1 + adR 0 0 0), .int a1] g none res := by
  refine Mt.of (by decide) (Nat.le_of_ble_eq_true rfl) ?_
  intro p e s m args below meth c ls X _ h hl
  have X : Cx YR S k p s m args meth c cX11_holds 2 none RX11 := X
  have hl : lv_has ls 2 [(0, .ref (k.1 + adR 0 0 0)), (1, .int a1)] := hl
  have JR : res = res := rfl
  unfold fX11_holds at hf
  refine lv_aload_n X.x X.b dX11_holds_0 rfl (lv_at hl 0 rfl) ?_
  refine gR_0_30 X h (hS 0) Nat.one_pos Nat.one_pos lk_X11_80 dX11_holds_1 ?_
  refine lv_aload_n X.x X.b dX11_holds_4 rfl (lv_at hl 0 rfl) ?_
  refine gR_0_31 X h (hS 0) Nat.one_pos Nat.one_pos lk_X11_151 dX11_holds_5 ?_
  refine lv_iload_n X.x X.b dX11_holds_8 rfl (lv_at hl 1 rfl) ?_
  obtain ⟨b1, hf⟩ := wGi_s hf
  obtain ⟨g2, e3, hf⟩ := wLe_s hf
  refine bR_19 X h (hS 19) Nat.one_pos Nat.one_pos e3 b1 dX11_holds_9 (fun H locs h => ?_)
  refine lv_aload_n X.x X.b dX11_holds_10 rfl (lv_at hl 0 rfl) ?_
  refine lv_dup X.x X.b dX11_holds_11 rfl ?_
  refine gR_0_31 X h (hS 0) Nat.one_pos Nat.one_pos lk_X11_151 dX11_holds_12 ?_
  refine lv_iconst (v := 1) X.x X.b dX11_holds_15 (by decide) ?_
  refine lv_iadd X.x X.b dX11_holds_16 ?_
  obtain ⟨g4, e5, hf⟩ := wLe_s hf
  refine pR_0_31 X h (hS 0) Nat.one_pos Nat.one_pos lk_X11_151 e5 dX11_holds_17 (fun H locs h => ?_)
  cases (Option.some.inj hf).trans JR
  exact ro_vret X h dX11_holds_20
set_option maxHeartbeats 4000000 in
set_option maxRecDepth 20000 in
theorem kX11_opensOne (l : Launch) {k : En} {S : Nat → Prop} (hS : ∀ t, S t) {a1 : Int32} {res : Mm × Int32} {g : Mm} (hf : fX11_opensOne g a1 = some res) : Mt l yX11_opensOne cX11_opensOne 2 (some .boolean) (RmN 1 21) YR S k [.ref (k.1 + adR 0 0 0), .int a1] g (some (.int res.2)) res.1 := by
  refine Mt.of (by decide) (Nat.le_of_ble_eq_true rfl) ?_
  intro p e s m args below meth c ls X _ h hl
  have X : Cx YR S k p s m args meth c cX11_opensOne 2 (some .boolean) RX11 := X
  have hl : lv_has ls 2 [(0, .ref (k.1 + adR 0 0 0)), (1, .int a1)] := hl
  have JR : res = res := rfl
  unfold fX11_opensOne at hf
  refine lv_aload_n X.x X.b dX11_opensOne_0 rfl (lv_at hl 0 rfl) ?_
  refine gR_0_32 X h (hS 0) Nat.one_pos Nat.one_pos lk_X11_157 dX11_opensOne_1 ?_
  refine lv_iconst (v := 5) X.x X.b dX11_opensOne_4 (by decide) ?_
  refine lv_icmp_ne (tgt := 10) X.x X.b dX11_opensOne_5 (by decide) (fun c1 => ?_) (fun c1 => ?_)
  · have hf := wF c1 hf
    refine lv_aload_n X.x X.b dX11_opensOne_10 rfl (lv_at hl 0 rfl) ?_
    refine lv_dup X.x X.b dX11_opensOne_11 rfl ?_
    refine gR_0_32 X h (hS 0) Nat.one_pos Nat.one_pos lk_X11_157 dX11_opensOne_12 ?_
    refine lv_iconst (v := 1) X.x X.b dX11_opensOne_15 (by decide) ?_
    refine lv_iadd X.x X.b dX11_opensOne_16 ?_
    obtain ⟨g2, e3, hf⟩ := wLe_s hf
    refine pR_0_32 X h (hS 0) Nat.one_pos Nat.one_pos lk_X11_157 e3 dX11_opensOne_17 (fun H locs h => ?_)
    refine lv_aload_n X.x X.b dX11_opensOne_20 rfl (lv_at hl 0 rfl) ?_
    refine lv_iload_n X.x X.b dX11_opensOne_21 rfl (lv_at hl 1 rfl) ?_
    obtain ⟨g6, e4, hf⟩ := wBd_s hf
    refine ro_callvV (As := [.int a1]) (g1 := g6) X h (kX11_holds l hS e4) mv_X11_holds lk_X11_164 ⟨rfl, rfl⟩ ⟨(Nat.le_of_ble_eq_true rfl), (Nat.le_of_ble_eq_true rfl)⟩ (rR_0 X h (hS 0) Nat.one_pos Nat.one_pos) rfl hl rfl (Nat.le_of_ble_eq_true rfl) ⟨Nat.zero_le _, Nat.zero_le _⟩ dX11_opensOne_22 (fun H locs h => ?_)
    refine lv_iconst (v := 1) X.x X.b dX11_opensOne_25 (by decide) ?_
    cases (Option.some.inj hf).trans JR
    exact ro_zret X h (Or.inr rfl) dX11_opensOne_26
  · have hf := wT c1 hf
    refine lv_iconst (v := 0) X.x X.b dX11_opensOne_8 (by decide) ?_
    cases (Option.some.inj hf).trans JR
    exact ro_zret X h (Or.inl rfl) dX11_opensOne_9
set_option maxHeartbeats 4000000 in
set_option maxRecDepth 20000 in
theorem wX11_between_b17 {k : En} {S : Nat → Prop} (hS : ∀ t, S t) {a1 : Int32} {res : Mm × Int32} (X : Cx YR S k p s m args meth c cX11_between 2 (some .boolean) RX11) {g : Mm} {z1 : Int32} {H : Heap} {locs : List Loc} {ls : Array Slot} (h : Hx YR S k s g H locs) (hl : lv_has ls 2 [(0, .ref (k.1 + adR 0 0 0)), (1, .int a1)]) {r : Mm × Int32} (hf : fX11_between_b17 g a1 z1 = some r) (JR : r = res) :
    W p l e (RmN 2 43) s m args below meth c H locs 0 0 (Fin YR S k args s below (some (.int res.2)) res.1) (F0 m 17 ls [.int z1, .ref (k.1 + adR 0 0 0)]) := by
  unfold fX11_between_b17 at hf
  obtain ⟨g8, e6, hf⟩ := wBd_s hf
  refine ro_callvV (As := [.int z1]) (g1 := g8) X h (kX11_unwinds l hS e6) mv_X11_unwinds lk_X11_167 ⟨rfl, rfl⟩ ⟨(Nat.le_of_ble_eq_true rfl), (Nat.le_of_ble_eq_true rfl)⟩ (rR_0 X h (hS 0) Nat.one_pos Nat.one_pos) rfl hl rfl (Nat.le_of_ble_eq_true rfl) ⟨Nat.zero_le _, Nat.zero_le _⟩ dX11_between_17 (fun H locs h => ?_)
  refine lv_iload_n X.x X.b dX11_between_20 rfl (lv_at hl 1 rfl) ?_
  obtain ⟨y10, e9, hf⟩ := wBd_s hf
  refine ro_callsI (As := [.int a1]) (g1 := g8) (x := y10) X h (kX11_rank l hS e9) mv_X11_rank lk_X11_154 ⟨rfl, rfl⟩ ⟨(Nat.le_of_ble_eq_true rfl), (Nat.le_of_ble_eq_true rfl)⟩ rfl hl rfl (Nat.le_of_ble_eq_true rfl) ⟨Nat.zero_le _, Nat.zero_le _⟩ dX11_between_21 (fun H locs h => ?_)
  refine lv_iconst (v := 4) X.x X.b dX11_between_24 (by decide) ?_
  refine lv_icmp_ne (tgt := 55) X.x X.b dX11_between_25 (by decide) (fun c11 => ?_) (fun c11 => ?_)
  · have hf := wF c11 hf
    refine lv_aload_n X.x X.b dX11_between_55 rfl (lv_at hl 0 rfl) ?_
    refine lv_iload_n X.x X.b dX11_between_56 rfl (lv_at hl 1 rfl) ?_
    obtain ⟨g14, e12, hf⟩ := wBd_s hf
    refine ro_callvV (As := [.int a1]) (g1 := g14) X h (kX11_holds l hS e12) mv_X11_holds lk_X11_164 ⟨rfl, rfl⟩ ⟨(Nat.le_of_ble_eq_true rfl), (Nat.le_of_ble_eq_true rfl)⟩ (rR_0 X h (hS 0) Nat.one_pos Nat.one_pos) rfl hl rfl (Nat.le_of_ble_eq_true rfl) ⟨Nat.zero_le _, Nat.zero_le _⟩ dX11_between_57 (fun H locs h => ?_)
    refine lv_iconst (v := 1) X.x X.b dX11_between_60 (by decide) ?_
    cases (Option.some.inj hf).trans JR
    exact ro_zret X h (Or.inr rfl) dX11_between_61
  · have hf := wT c11 hf
    refine lv_aload_n X.x X.b dX11_between_28 rfl (lv_at hl 0 rfl) ?_
    refine gR_0_31 X h (hS 0) Nat.one_pos Nat.one_pos lk_X11_151 dX11_between_29 ?_
    refine lv_if_le (tgt := 55) X.x X.b dX11_between_32 (by decide) (fun c15 => ?_) (fun c15 => ?_)
    · have hf := wT c15 hf
      refine lv_aload_n X.x X.b dX11_between_55 rfl (lv_at hl 0 rfl) ?_
      refine lv_iload_n X.x X.b dX11_between_56 rfl (lv_at hl 1 rfl) ?_
      obtain ⟨g18, e16, hf⟩ := wBd_s hf
      refine ro_callvV (As := [.int a1]) (g1 := g18) X h (kX11_holds l hS e16) mv_X11_holds lk_X11_164 ⟨rfl, rfl⟩ ⟨(Nat.le_of_ble_eq_true rfl), (Nat.le_of_ble_eq_true rfl)⟩ (rR_0 X h (hS 0) Nat.one_pos Nat.one_pos) rfl hl rfl (Nat.le_of_ble_eq_true rfl) ⟨Nat.zero_le _, Nat.zero_le _⟩ dX11_between_57 (fun H locs h => ?_)
      refine lv_iconst (v := 1) X.x X.b dX11_between_60 (by decide) ?_
      cases (Option.some.inj hf).trans JR
      exact ro_zret X h (Or.inr rfl) dX11_between_61
    · have hf := wF c15 hf
      refine lv_aload_n X.x X.b dX11_between_35 rfl (lv_at hl 0 rfl) ?_
      refine gR_0_30 X h (hS 0) Nat.one_pos Nat.one_pos lk_X11_80 dX11_between_36 ?_
      refine lv_aload_n X.x X.b dX11_between_39 rfl (lv_at hl 0 rfl) ?_
      refine gR_0_31 X h (hS 0) Nat.one_pos Nat.one_pos lk_X11_151 dX11_between_40 ?_
      refine lv_iconst (v := 1) X.x X.b dX11_between_43 (by decide) ?_
      refine lv_isub X.x X.b dX11_between_44 ?_
      obtain ⟨b19, hf⟩ := wGi_s hf
      refine aR_19 X h (hS 19) Nat.one_pos Nat.one_pos b19 dX11_between_45 ?_
      obtain ⟨y21, e20, hf⟩ := wBd_s hf
      refine ro_callsI (As := [.int (g8 19 0 0 ((g8 0 0 0 31) - (1 : Int32)).toNatClampNeg)]) (g1 := g8) (x := y21) X h (kX11_rank l hS e20) mv_X11_rank lk_X11_154 ⟨rfl, rfl⟩ ⟨(Nat.le_of_ble_eq_true rfl), (Nat.le_of_ble_eq_true rfl)⟩ rfl hl rfl (Nat.le_of_ble_eq_true rfl) ⟨Nat.zero_le _, Nat.zero_le _⟩ dX11_between_46 (fun H locs h => ?_)
      refine lv_iconst (v := 4) X.x X.b dX11_between_49 (by decide) ?_
      refine lv_icmp_ne (tgt := 55) X.x X.b dX11_between_50 (by decide) (fun c22 => ?_) (fun c22 => ?_)
      · have hf := wF c22 hf
        refine lv_aload_n X.x X.b dX11_between_55 rfl (lv_at hl 0 rfl) ?_
        refine lv_iload_n X.x X.b dX11_between_56 rfl (lv_at hl 1 rfl) ?_
        obtain ⟨g25, e23, hf⟩ := wBd_s hf
        refine ro_callvV (As := [.int a1]) (g1 := g25) X h (kX11_holds l hS e23) mv_X11_holds lk_X11_164 ⟨rfl, rfl⟩ ⟨(Nat.le_of_ble_eq_true rfl), (Nat.le_of_ble_eq_true rfl)⟩ (rR_0 X h (hS 0) Nat.one_pos Nat.one_pos) rfl hl rfl (Nat.le_of_ble_eq_true rfl) ⟨Nat.zero_le _, Nat.zero_le _⟩ dX11_between_57 (fun H locs h => ?_)
        refine lv_iconst (v := 1) X.x X.b dX11_between_60 (by decide) ?_
        cases (Option.some.inj hf).trans JR
        exact ro_zret X h (Or.inr rfl) dX11_between_61
      · have hf := wT c22 hf
        refine lv_iconst (v := 0) X.x X.b dX11_between_53 (by decide) ?_
        cases (Option.some.inj hf).trans JR
        exact ro_zret X h (Or.inl rfl) dX11_between_54
set_option maxHeartbeats 4000000 in
set_option maxRecDepth 20000 in
theorem kX11_between (l : Launch) {k : En} {S : Nat → Prop} (hS : ∀ t, S t) {a1 : Int32} {res : Mm × Int32} {g : Mm} (hf : fX11_between g a1 = some res) : Mt l yX11_between cX11_between 2 (some .boolean) (RmN 2 43) YR S k [.ref (k.1 + adR 0 0 0), .int a1] g (some (.int res.2)) res.1 := by
  refine Mt.of (by decide) (Nat.le_of_ble_eq_true rfl) ?_
  intro p e s m args below meth c ls X _ h hl
  have X : Cx YR S k p s m args meth c cX11_between 2 (some .boolean) RX11 := X
  have hl : lv_has ls 2 [(0, .ref (k.1 + adR 0 0 0)), (1, .int a1)] := hl
  have JR : res = res := rfl
  unfold fX11_between at hf
  refine lv_aload_n X.x X.b dX11_between_0 rfl (lv_at hl 0 rfl) ?_
  refine lv_iload_n X.x X.b dX11_between_1 rfl (lv_at hl 1 rfl) ?_
  obtain ⟨y2, e1, hf⟩ := wBd_s hf
  refine ro_callsI (As := [.int a1]) (g1 := g) (x := y2) X h (kX11_rank l hS e1) mv_X11_rank lk_X11_154 ⟨rfl, rfl⟩ ⟨(Nat.le_of_ble_eq_true rfl), (Nat.le_of_ble_eq_true rfl)⟩ rfl hl rfl (Nat.le_of_ble_eq_true rfl) ⟨Nat.zero_le _, Nat.zero_le _⟩ dX11_between_2 (fun H locs h => ?_)
  refine lv_iconst (v := 4) X.x X.b dX11_between_5 (by decide) ?_
  refine lv_icmp_ne (tgt := 13) X.x X.b dX11_between_6 (by decide) (fun c3 => ?_) (fun c3 => ?_)
  · have hf := wF c3 hf
    refine lv_iload_n X.x X.b dX11_between_13 rfl (lv_at hl 1 rfl) ?_
    obtain ⟨y5, e4, hf⟩ := wBd_s hf
    refine ro_callsI (As := [.int a1]) (g1 := g) (x := y5) X h (kX11_rank l hS e4) mv_X11_rank lk_X11_154 ⟨rfl, rfl⟩ ⟨(Nat.le_of_ble_eq_true rfl), (Nat.le_of_ble_eq_true rfl)⟩ rfl hl rfl (Nat.le_of_ble_eq_true rfl) ⟨Nat.zero_le _, Nat.zero_le _⟩ dX11_between_14 (fun H locs h => ?_)
    exact wX11_between_b17 hS X h (lv_sub hl [0, 1] rfl) hf JR
  · have hf := wT c3 hf
    refine lv_iconst (v := 5) X.x X.b dX11_between_9 (by decide) ?_
    refine lv_goto (tgt := 17) X.x X.b dX11_between_10 (by decide) ?_
    exact wX11_between_b17 hS X h (lv_sub hl [0, 1] rfl) hf JR
set_option maxHeartbeats 4000000 in
set_option maxRecDepth 20000 in
theorem kX11_signOf (l : Launch) {k : En} {S : Nat → Prop} (hS : ∀ t, S t) {g0 : Mm} {res : Int32} (hf : fX11_signOf g0 = some res) : Mt l yX11_signOf cX11_signOf 1 (some .int) (RmN 0 0) YR S k [.ref (k.1 + adR 0 0 0)] g0 (some (.int res)) g0 := by
  refine Mt.of (by decide) (Nat.le_of_ble_eq_true rfl) ?_
  intro p e s m args below meth c ls X _ h hl
  have X : Cx YR S k p s m args meth c cX11_signOf 1 (some .int) RX11 := X
  have hl : lv_has ls 1 [(0, .ref (k.1 + adR 0 0 0))] := hl
  have JR : res = res := rfl
  unfold fX11_signOf at hf
  refine lv_aload_n X.x X.b dX11_signOf_0 rfl (lv_at hl 0 rfl) ?_
  refine gR_0_27 X h (hS 0) Nat.one_pos Nat.one_pos lk_X11_138 dX11_signOf_1 ?_
  refine lv_iconst (v := 4) X.x X.b dX11_signOf_4 (by decide) ?_
  refine lv_icmp_ne (tgt := 13) X.x X.b dX11_signOf_5 (by decide) (fun c1 => ?_) (fun c1 => ?_)
  · have hf := wF c1 hf
    refine lv_aload_n X.x X.b dX11_signOf_13 rfl (lv_at hl 0 rfl) ?_
    refine gR_0_27 X h (hS 0) Nat.one_pos Nat.one_pos lk_X11_138 dX11_signOf_14 ?_
    refine lv_iconst (v := 5) X.x X.b dX11_signOf_17 (by decide) ?_
    refine lv_icmp_ne (tgt := 26) X.x X.b dX11_signOf_18 (by decide) (fun c2 => ?_) (fun c2 => ?_)
    · have hf := wF c2 hf
      refine lv_aload_n X.x X.b dX11_signOf_26 rfl (lv_at hl 0 rfl) ?_
      refine gR_0_27 X h (hS 0) Nat.one_pos Nat.one_pos lk_X11_138 dX11_signOf_27 ?_
      refine lv_bipush (v := 60) X.x X.b dX11_signOf_30 (by decide) ?_
      refine lv_icmp_ne (tgt := 40) X.x X.b dX11_signOf_32 (by decide) (fun c3 => ?_) (fun c3 => ?_)
      · have hf := wF c3 hf
        refine lv_aload_n X.x X.b dX11_signOf_40 rfl (lv_at hl 0 rfl) ?_
        refine gR_0_27 X h (hS 0) Nat.one_pos Nat.one_pos lk_X11_138 dX11_signOf_41 ?_
        refine lv_bipush (v := 61) X.x X.b dX11_signOf_44 (by decide) ?_
        refine lv_icmp_ne (tgt := 54) X.x X.b dX11_signOf_46 (by decide) (fun c4 => ?_) (fun c4 => ?_)
        · have hf := wF c4 hf
          refine lv_aload_n X.x X.b dX11_signOf_54 rfl (lv_at hl 0 rfl) ?_
          refine gR_0_27 X h (hS 0) Nat.one_pos Nat.one_pos lk_X11_138 dX11_signOf_55 ?_
          refine lv_bipush (v := 43) X.x X.b dX11_signOf_58 (by decide) ?_
          refine lv_icmp_ne (tgt := 68) X.x X.b dX11_signOf_60 (by decide) (fun c5 => ?_) (fun c5 => ?_)
          · have hf := wF c5 hf
            refine lv_aload_n X.x X.b dX11_signOf_68 rfl (lv_at hl 0 rfl) ?_
            refine gR_0_27 X h (hS 0) Nat.one_pos Nat.one_pos lk_X11_138 dX11_signOf_69 ?_
            refine lv_bipush (v := 45) X.x X.b dX11_signOf_72 (by decide) ?_
            refine lv_icmp_ne (tgt := 82) X.x X.b dX11_signOf_74 (by decide) (fun c6 => ?_) (fun c6 => ?_)
            · have hf := wF c6 hf
              refine lv_aload_n X.x X.b dX11_signOf_82 rfl (lv_at hl 0 rfl) ?_
              refine gR_0_27 X h (hS 0) Nat.one_pos Nat.one_pos lk_X11_138 dX11_signOf_83 ?_
              refine lv_bipush (v := 42) X.x X.b dX11_signOf_86 (by decide) ?_
              refine lv_icmp_ne (tgt := 96) X.x X.b dX11_signOf_88 (by decide) (fun c7 => ?_) (fun c7 => ?_)
              · have hf := wF c7 hf
                refine lv_iconst (v := (-1)) X.x X.b dX11_signOf_96 (by decide) ?_
                cases (Option.some.inj hf).trans JR
                exact ro_iret X h dX11_signOf_97
              · have hf := wT c7 hf
                refine lv_bipush (v := 18) X.x X.b dX11_signOf_91 (by decide) ?_
                refine lv_goto (tgt := 97) X.x X.b dX11_signOf_93 (by decide) ?_
                cases (Option.some.inj hf).trans JR
                exact ro_iret X h dX11_signOf_97
            · have hf := wT c6 hf
              refine lv_bipush (v := 17) X.x X.b dX11_signOf_77 (by decide) ?_
              refine lv_goto (tgt := 97) X.x X.b dX11_signOf_79 (by decide) ?_
              cases (Option.some.inj hf).trans JR
              exact ro_iret X h dX11_signOf_97
          · have hf := wT c5 hf
            refine lv_bipush (v := 16) X.x X.b dX11_signOf_63 (by decide) ?_
            refine lv_goto (tgt := 97) X.x X.b dX11_signOf_65 (by decide) ?_
            cases (Option.some.inj hf).trans JR
            exact ro_iret X h dX11_signOf_97
        · have hf := wT c4 hf
          refine lv_bipush (v := 15) X.x X.b dX11_signOf_49 (by decide) ?_
          refine lv_goto (tgt := 97) X.x X.b dX11_signOf_51 (by decide) ?_
          cases (Option.some.inj hf).trans JR
          exact ro_iret X h dX11_signOf_97
      · have hf := wT c3 hf
        refine lv_bipush (v := 14) X.x X.b dX11_signOf_35 (by decide) ?_
        refine lv_goto (tgt := 97) X.x X.b dX11_signOf_37 (by decide) ?_
        cases (Option.some.inj hf).trans JR
        exact ro_iret X h dX11_signOf_97
    · have hf := wT c2 hf
      refine lv_bipush (v := 12) X.x X.b dX11_signOf_21 (by decide) ?_
      refine lv_goto (tgt := 97) X.x X.b dX11_signOf_23 (by decide) ?_
      cases (Option.some.inj hf).trans JR
      exact ro_iret X h dX11_signOf_97
  · have hf := wT c1 hf
    refine lv_bipush (v := 11) X.x X.b dX11_signOf_8 (by decide) ?_
    refine lv_goto (tgt := 97) X.x X.b dX11_signOf_10 (by decide) ?_
    cases (Option.some.inj hf).trans JR
    exact ro_iret X h dX11_signOf_97
set_option maxHeartbeats 4000000 in
set_option maxRecDepth 20000 in
theorem wX11_eRead_b262 {k : En} {S : Nat → Prop} (hS : ∀ t, S t) {res : Mm × Int32} (X : Cx YR S k p s m args meth c cX11_eRead 4 (some .boolean) RX11) {g : Mm} {x1 : Int32} {z0 : Int32} {H : Heap} {locs : List Loc} {ls : Array Slot} (h : Hx YR S k s g H locs) (hl : lv_has ls 4 [(0, .ref (k.1 + adR 0 0 0)), (1, .int x1)]) {r : (Mm × Int32 × Int32) ⊕ (Mm × Int32)} (hf : fX11_eRead_b262 g x1 z0 = some r) (J1 : ∀ (g : Mm) (x1 : Int32) (x2 : Int32), r = .inl (g, x1, x2) → ∀ (H : Heap) (locs : List Loc) (ls : Array Slot), Hx YR S k s g H locs → lv_has ls 4 [(0, .ref (k.1 + adR 0 0 0)), (1, .int x1), (2, .int x2)] → W p l e (RmN 3 68) s m args below meth c H locs 0 0 (Fin YR S k args s below (some (.int res.2)) res.1) (F0 m 14 ls [])) (JR : ∀ t1, r = .inr t1 → t1 = res) :
    W p l e (RmN 3 68) s m args below meth c H locs 0 0 (Fin YR S k args s below (some (.int res.2)) res.1) (F0 m 262 ls [.int z0]) := by
  unfold fX11_eRead_b262 at hf
  refine lv_istore_n (lv' := [(2, .int z0), (0, .ref (k.1 + adR 0 0 0)), (1, .int x1)]) X.x X.b dX11_eRead_262 rfl hl (by decide) rfl (fun ls hl => ?_)
  refine lv_goto (tgt := 14) X.x X.b dX11_eRead_263 (by decide) ?_
  exact J1 _ _ _ (Option.some.inj hf).symm _ _ _ h (lv_sub hl [1, 2, 0] rfl)
set_option maxHeartbeats 4000000 in
set_option maxRecDepth 20000 in
theorem wX11_eRead_b61 {k : En} {S : Nat → Prop} (hS : ∀ t, S t) {res : Mm × Int32} (X : Cx YR S k p s m args meth c cX11_eRead 4 (some .boolean) RX11) {g : Mm} {x2 : Int32} {z1 : Int32} {H : Heap} {locs : List Loc} {ls : Array Slot} (h : Hx YR S k s g H locs) (hl : lv_has ls 4 [(0, .ref (k.1 + adR 0 0 0)), (2, .int x2)]) {r : (Mm × Int32 × Int32) ⊕ (Mm × Int32)} (hf : fX11_eRead_b61 g x2 z1 = some r) (J1 : ∀ (g : Mm) (x1 : Int32) (x2 : Int32), r = .inl (g, x1, x2) → ∀ (H : Heap) (locs : List Loc) (ls : Array Slot), Hx YR S k s g H locs → lv_has ls 4 [(0, .ref (k.1 + adR 0 0 0)), (1, .int x1), (2, .int x2)] → W p l e (RmN 3 68) s m args below meth c H locs 0 0 (Fin YR S k args s below (some (.int res.2)) res.1) (F0 m 14 ls [])) (JR : ∀ t1, r = .inr t1 → t1 = res) :
    W p l e (RmN 3 68) s m args below meth c H locs 0 0 (Fin YR S k args s below (some (.int res.2)) res.1) (F0 m 61 ls [.int z1, .ref (k.1 + adR 0 0 0)]) := by
  unfold fX11_eRead_b61 at hf
  obtain ⟨g52, e50, hf⟩ := wBd_s hf
  refine ro_callvV (As := [.int z1]) (g1 := g52) X h (kX11_puts l hS e50) mv_X11_puts lk_X11_160 ⟨rfl, rfl⟩ ⟨(Nat.le_of_ble_eq_true rfl), (Nat.le_of_ble_eq_true rfl)⟩ (rR_0 X h (hS 0) Nat.one_pos Nat.one_pos) rfl hl rfl (Nat.le_of_ble_eq_true rfl) ⟨Nat.zero_le _, Nat.zero_le _⟩ dX11_eRead_61 (fun H locs h => ?_)
  refine lv_aload_n X.x X.b dX11_eRead_64 rfl (lv_at hl 0 rfl) ?_
  refine lv_bipush (v := 7) X.x X.b dX11_eRead_65 (by decide) ?_
  obtain ⟨g55, e53, hf⟩ := wBd_s hf
  refine ro_callvV (As := [.int (7 : Int32)]) (g1 := g55) X h (kX11_unwinds l hS e53) mv_X11_unwinds lk_X11_167 ⟨rfl, rfl⟩ ⟨(Nat.le_of_ble_eq_true rfl), (Nat.le_of_ble_eq_true rfl)⟩ (rR_0 X h (hS 0) Nat.one_pos Nat.one_pos) rfl hl rfl (Nat.le_of_ble_eq_true rfl) ⟨Nat.zero_le _, Nat.zero_le _⟩ dX11_eRead_67 (fun H locs h => ?_)
  refine lv_iconst (v := 0) X.x X.b dX11_eRead_70 (by decide) ?_
  obtain ⟨y56, e57, hf⟩ := wLe_s hf
  refine lv_nmi e57 ?_
  refine lv_istore_n (lv' := [(1, .int y56), (0, .ref (k.1 + adR 0 0 0)), (2, .int x2)]) X.x X.b dX11_eRead_71 rfl hl (by decide) rfl (fun ls hl => ?_)
  refine lv_goto (tgt := 14) X.x X.b dX11_eRead_72 (by decide) ?_
  exact J1 _ _ _ (Option.some.inj hf).symm _ _ _ h (lv_sub hl [1, 0, 2] rfl)
set_option maxHeartbeats 4000000 in
set_option maxRecDepth 20000 in
theorem wX11_eRead_b38 {k : En} {S : Nat → Prop} (hS : ∀ t, S t) {res : Mm × Int32} (X : Cx YR S k p s m args meth c cX11_eRead 4 (some .boolean) RX11) {g : Mm} {x2 : Int32} {H : Heap} {locs : List Loc} {ls : Array Slot} (h : Hx YR S k s g H locs) (hl : lv_has ls 4 [(0, .ref (k.1 + adR 0 0 0)), (2, .int x2)]) {r : (Mm × Int32 × Int32) ⊕ (Mm × Int32)} (hf : fX11_eRead_b38 g x2 = some r) (J1 : ∀ (g : Mm) (x1 : Int32) (x2 : Int32), r = .inl (g, x1, x2) → ∀ (H : Heap) (locs : List Loc) (ls : Array Slot), Hx YR S k s g H locs → lv_has ls 4 [(0, .ref (k.1 + adR 0 0 0)), (1, .int x1), (2, .int x2)] → W p l e (RmN 3 68) s m args below meth c H locs 0 0 (Fin YR S k args s below (some (.int res.2)) res.1) (F0 m 14 ls [])) (JR : ∀ t1, r = .inr t1 → t1 = res) :
    W p l e (RmN 3 68) s m args below meth c H locs 0 0 (Fin YR S k args s below (some (.int res.2)) res.1) (F0 m 38 ls []) := by
  unfold fX11_eRead_b38 at hf
  refine lv_aload_n X.x X.b dX11_eRead_38 rfl (lv_at hl 0 rfl) ?_
  refine lv_aload_n X.x X.b dX11_eRead_39 rfl (lv_at hl 0 rfl) ?_
  refine gR_0_27 X h (hS 0) Nat.one_pos Nat.one_pos lk_X11_138 dX11_eRead_40 ?_
  refine lv_iconst (v := 1) X.x X.b dX11_eRead_43 (by decide) ?_
  refine lv_icmp_ne (tgt := 57) X.x X.b dX11_eRead_44 (by decide) (fun c49 => ?_) (fun c49 => ?_)
  · have hf := wF c49 hf
    refine lv_aload_n X.x X.b dX11_eRead_57 rfl (lv_at hl 0 rfl) ?_
    refine gR_0_28 X h (hS 0) Nat.one_pos Nat.one_pos lk_X11_141 dX11_eRead_58 ?_
    exact wX11_eRead_b61 hS X h (lv_sub hl [0, 1] rfl) hf J1 JR
  · have hf := wT c49 hf
    refine ro_ldc X lc_X11_37 dX11_eRead_47 ?_
    refine lv_aload_n X.x X.b dX11_eRead_49 rfl (lv_at hl 0 rfl) ?_
    refine gR_0_28 X h (hS 0) Nat.one_pos Nat.one_pos lk_X11_141 dX11_eRead_50 ?_
    refine lv_iadd X.x X.b dX11_eRead_53 ?_
    refine lv_goto (tgt := 61) X.x X.b dX11_eRead_54 (by decide) ?_
    exact wX11_eRead_b61 hS X h (lv_sub hl [0, 1] rfl) hf J1 JR
set_option maxHeartbeats 4000000 in
set_option maxRecDepth 20000 in
theorem wX11_eRead_b99 {k : En} {S : Nat → Prop} (hS : ∀ t, S t) {res : Mm × Int32} (X : Cx YR S k p s m args meth c cX11_eRead 4 (some .boolean) RX11) {g : Mm} {x1 : Int32} {H : Heap} {locs : List Loc} {ls : Array Slot} (h : Hx YR S k s g H locs) (hl : lv_has ls 4 [(0, .ref (k.1 + adR 0 0 0)), (1, .int x1)]) {r : (Mm × Int32 × Int32) ⊕ (Mm × Int32)} (hf : fX11_eRead_b99 g x1 = some r) (J1 : ∀ (g : Mm) (x1 : Int32) (x2 : Int32), r = .inl (g, x1, x2) → ∀ (H : Heap) (locs : List Loc) (ls : Array Slot), Hx YR S k s g H locs → lv_has ls 4 [(0, .ref (k.1 + adR 0 0 0)), (1, .int x1), (2, .int x2)] → W p l e (RmN 3 68) s m args below meth c H locs 0 0 (Fin YR S k args s below (some (.int res.2)) res.1) (F0 m 14 ls [])) (JR : ∀ t1, r = .inr t1 → t1 = res) :
    W p l e (RmN 3 68) s m args below meth c H locs 0 0 (Fin YR S k args s below (some (.int res.2)) res.1) (F0 m 99 ls []) := by
  unfold fX11_eRead_b99 at hf
  refine lv_aload_n X.x X.b dX11_eRead_99 rfl (lv_at hl 0 rfl) ?_
  refine gR_0_27 X h (hS 0) Nat.one_pos Nat.one_pos lk_X11_138 dX11_eRead_100 ?_
  refine lv_bipush (v := 45) X.x X.b dX11_eRead_103 (by decide) ?_
  refine lv_icmp_ne (tgt := 124) X.x X.b dX11_eRead_105 (by decide) (fun c60 => ?_) (fun c60 => ?_)
  · have hf := wF c60 hf
    refine lv_aload_n X.x X.b dX11_eRead_124 rfl (lv_at hl 0 rfl) ?_
    refine gR_0_27 X h (hS 0) Nat.one_pos Nat.one_pos lk_X11_138 dX11_eRead_125 ?_
    refine lv_bipush (v := 40) X.x X.b dX11_eRead_128 (by decide) ?_
    refine lv_icmp_ne (tgt := 148) X.x X.b dX11_eRead_130 (by decide) (fun c61 => ?_) (fun c61 => ?_)
    · have hf := wF c61 hf
      obtain ⟨t62, hf, e63⟩ := wEx_s hf
      have JR := JR t62 e63
      refine lv_iconst (v := 0) X.x X.b dX11_eRead_148 (by decide) ?_
      cases (Option.some.inj hf).trans JR
      exact ro_zret X h (Or.inl rfl) dX11_eRead_149
    · have hf := wT c61 hf
      refine lv_aload_n X.x X.b dX11_eRead_133 rfl (lv_at hl 0 rfl) ?_
      refine lv_iconst (v := 0) X.x X.b dX11_eRead_134 (by decide) ?_
      obtain ⟨g66, y65, e64, hf⟩ := wB2_s hf
      refine ro_callvI (As := [.int (0 : Int32)]) (g1 := g66) (x := y65) X h (kX11_opensOne l hS e64) mv_X11_opensOne lk_X11_173 ⟨rfl, rfl⟩ ⟨(Nat.le_of_ble_eq_true rfl), (Nat.le_of_ble_eq_true rfl)⟩ (rR_0 X h (hS 0) Nat.one_pos Nat.one_pos) rfl hl rfl (Nat.le_of_ble_eq_true rfl) ⟨Nat.zero_le _, Nat.zero_le _⟩ dX11_eRead_135 (fun H locs h => ?_)
      refine lv_if_ne (tgt := 143) X.x X.b dX11_eRead_138 (by decide) (fun c67 => ?_) (fun c67 => ?_)
      · have hf := wF c67 hf
        refine lv_iconst (v := 1) X.x X.b dX11_eRead_143 (by decide) ?_
        obtain ⟨y68, e69, hf⟩ := wLe_s hf
        refine lv_nmi e69 ?_
        refine lv_istore_n (lv' := [(2, .int y68), (0, .ref (k.1 + adR 0 0 0)), (1, .int x1)]) X.x X.b dX11_eRead_144 rfl hl (by decide) rfl (fun ls hl => ?_)
        refine lv_goto (tgt := 14) X.x X.b dX11_eRead_145 (by decide) ?_
        exact J1 _ _ _ (Option.some.inj hf).symm _ _ _ h (lv_sub hl [1, 2, 0] rfl)
      · have hf := wT c67 hf
        obtain ⟨t70, hf, e71⟩ := wEx_s hf
        have JR := JR t70 e71
        refine lv_iconst (v := 0) X.x X.b dX11_eRead_141 (by decide) ?_
        cases (Option.some.inj hf).trans JR
        exact ro_zret X h (Or.inl rfl) dX11_eRead_142
  · have hf := wT c60 hf
    refine lv_aload_n X.x X.b dX11_eRead_108 rfl (lv_at hl 0 rfl) ?_
    refine lv_bipush (v := 19) X.x X.b dX11_eRead_109 (by decide) ?_
    obtain ⟨g74, y73, e72, hf⟩ := wB2_s hf
    refine ro_callvI (As := [.int (19 : Int32)]) (g1 := g74) (x := y73) X h (kX11_opensOne l hS e72) mv_X11_opensOne lk_X11_173 ⟨rfl, rfl⟩ ⟨(Nat.le_of_ble_eq_true rfl), (Nat.le_of_ble_eq_true rfl)⟩ (rR_0 X h (hS 0) Nat.one_pos Nat.one_pos) rfl hl rfl (Nat.le_of_ble_eq_true rfl) ⟨Nat.zero_le _, Nat.zero_le _⟩ dX11_eRead_111 (fun H locs h => ?_)
    refine lv_if_ne (tgt := 119) X.x X.b dX11_eRead_114 (by decide) (fun c75 => ?_) (fun c75 => ?_)
    · have hf := wF c75 hf
      refine lv_iconst (v := 0) X.x X.b dX11_eRead_119 (by decide) ?_
      obtain ⟨y76, e77, hf⟩ := wLe_s hf
      refine lv_nmi e77 ?_
      refine lv_istore_n (lv' := [(2, .int y76), (0, .ref (k.1 + adR 0 0 0)), (1, .int x1)]) X.x X.b dX11_eRead_120 rfl hl (by decide) rfl (fun ls hl => ?_)
      refine lv_goto (tgt := 14) X.x X.b dX11_eRead_121 (by decide) ?_
      exact J1 _ _ _ (Option.some.inj hf).symm _ _ _ h (lv_sub hl [1, 2, 0] rfl)
    · have hf := wT c75 hf
      obtain ⟨t78, hf, e79⟩ := wEx_s hf
      have JR := JR t78 e79
      refine lv_iconst (v := 0) X.x X.b dX11_eRead_117 (by decide) ?_
      cases (Option.some.inj hf).trans JR
      exact ro_zret X h (Or.inl rfl) dX11_eRead_118
set_option maxHeartbeats 4000000 in
set_option maxRecDepth 20000 in
theorem wX11_eRead_L14 {k : En} {S : Nat → Prop} (hS : ∀ t, S t) {res : Mm × Int32} (X : Cx YR S k p s m args meth c cX11_eRead 4 (some .boolean) RX11) {r : Mm × Int32} (JR : r = res) :
    ∀ (fu : Nat) (g : Mm) (x1 : Int32) (x2 : Int32) (H : Heap) (locs : List Loc) (ls : Array Slot), Hx YR S k s g H locs → lv_has ls 4 [(0, .ref (k.1 + adR 0 0 0)), (1, .int x1), (2, .int x2)] → wLp (fun q => fX11_eRead_B14 q.1 q.2.1 q.2.2) fu (g, x1, x2) = some r → W p l e (RmN 3 68) s m args below meth c H locs 0 0 (Fin YR S k args s below (some (.int res.2)) res.1) (F0 m 14 ls []) := by
  intro fu
  induction fu with
  | zero => intro g x1 x2 H locs ls h hl hf; exact (wLp_0 hf).elim
  | succ fu ih1 =>
    intro g x1 x2 H locs ls h hl hf
    obtain ⟨r1, hf, hr⟩ := wLp_s hf
    have J1n : ∀ (g : Mm) (x1 : Int32) (x2 : Int32), r1 = .inl (g, x1, x2) → ∀ (H : Heap) (locs : List Loc) (ls : Array Slot), Hx YR S k s g H locs → lv_has ls 4 [(0, .ref (k.1 + adR 0 0 0)), (1, .int x1), (2, .int x2)] → W p l e (RmN 3 68) s m args below meth c H locs 0 0 (Fin YR S k args s below (some (.int res.2)) res.1) (F0 m 14 ls []) := fun g x1 x2 q H locs ls h hl => by subst q; exact ih1 _ _ _ _ _ _ h hl hr
    have JRn : ∀ t1, r1 = .inr t1 → t1 = res := fun t1 q => by subst q; obtain rfl := Option.some.inj hr; exact JR
    have J1 := J1n
    have JR := JRn
    clear J1n JRn
    have hf : fX11_eRead_B14 g x1 x2 = some r1 := hf
    unfold fX11_eRead_B14 at hf
    refine lv_aload_n X.x X.b dX11_eRead_14 rfl (lv_at hl 0 rfl) ?_
    obtain ⟨g11, e9, hf⟩ := wBd_s hf
    refine ro_callvV (As := []) (g1 := g11) X h (kX11_next l hS e9) mv_X11_next lk_X11_170 ⟨rfl, rfl⟩ ⟨(Nat.le_of_ble_eq_true rfl), (Nat.le_of_ble_eq_true rfl)⟩ (rR_0 X h (hS 0) Nat.one_pos Nat.one_pos) rfl hl rfl (Nat.le_of_ble_eq_true rfl) ⟨Nat.zero_le _, Nat.zero_le _⟩ dX11_eRead_15 (fun H locs h => ?_)
    refine lv_iload_n X.x X.b dX11_eRead_18 rfl (lv_at hl 1 rfl) ?_
    refine lv_if_eq (tgt := 150) X.x X.b dX11_eRead_19 (by decide) (fun c12 => ?_) (fun c12 => ?_)
    · have hf := wT c12 hf
      refine lv_aload_n X.x X.b dX11_eRead_150 rfl (lv_at hl 0 rfl) ?_
      refine gR_0_27 X h (hS 0) Nat.one_pos Nat.one_pos lk_X11_138 dX11_eRead_151 ?_
      refine lv_bipush (v := 59) X.x X.b dX11_eRead_154 (by decide) ?_
      refine lv_icmp_ne (tgt := 177) X.x X.b dX11_eRead_156 (by decide) (fun c13 => ?_) (fun c13 => ?_)
      · have hf := wF c13 hf
        refine lv_aload_n X.x X.b dX11_eRead_177 rfl (lv_at hl 0 rfl) ?_
        refine gR_0_27 X h (hS 0) Nat.one_pos Nat.one_pos lk_X11_138 dX11_eRead_178 ?_
        refine lv_bipush (v := 41) X.x X.b dX11_eRead_181 (by decide) ?_
        refine lv_icmp_ne (tgt := 229) X.x X.b dX11_eRead_183 (by decide) (fun c14 => ?_) (fun c14 => ?_)
        · have hf := wF c14 hf
          refine lv_aload_n X.x X.b dX11_eRead_229 rfl (lv_at hl 0 rfl) ?_
          obtain ⟨y16, e15, hf⟩ := wBd_s hf
          refine ro_callvI (As := []) (g1 := g11) (x := y16) X h (kX11_signOf l hS e15) mv_X11_signOf lk_X11_176 ⟨rfl, rfl⟩ ⟨(Nat.le_of_ble_eq_true rfl), (Nat.le_of_ble_eq_true rfl)⟩ (rR_0 X h (hS 0) Nat.one_pos Nat.one_pos) rfl hl rfl (Nat.le_of_ble_eq_true rfl) ⟨Nat.zero_le _, Nat.zero_le _⟩ dX11_eRead_230 (fun H locs h => ?_)
          refine lv_istore_n (lv' := [(3, .int y16), (0, .ref (k.1 + adR 0 0 0)), (1, .int x1), (2, .int x2)]) X.x X.b dX11_eRead_233 rfl hl (by decide) rfl (fun ls hl => ?_)
          refine lv_iload_n X.x X.b dX11_eRead_234 rfl (lv_at hl 0 rfl) ?_
          refine lv_iconst (v := (-1)) X.x X.b dX11_eRead_235 (by decide) ?_
          refine lv_icmp_eq (tgt := 247) X.x X.b dX11_eRead_236 (by decide) (fun c17 => ?_) (fun c17 => ?_)
          · have hf := wT c17 hf
            obtain ⟨t18, hf, e19⟩ := wEx_s hf
            have JR := JR t18 e19
            refine lv_iconst (v := 0) X.x X.b dX11_eRead_247 (by decide) ?_
            cases (Option.some.inj hf).trans JR
            exact ro_zret X h (Or.inl rfl) dX11_eRead_248
          · have hf := wF c17 hf
            refine lv_aload_n X.x X.b dX11_eRead_239 rfl (lv_at hl 1 rfl) ?_
            refine lv_iload_n X.x X.b dX11_eRead_240 rfl (lv_at hl 0 rfl) ?_
            obtain ⟨g22, y21, e20, hf⟩ := wB2_s hf
            refine ro_callvI (As := [.int y16]) (g1 := g22) (x := y21) X h (kX11_between l hS e20) mv_X11_between lk_X11_179 ⟨rfl, rfl⟩ ⟨(Nat.le_of_ble_eq_true rfl), (Nat.le_of_ble_eq_true rfl)⟩ (rR_0 X h (hS 0) Nat.one_pos Nat.one_pos) rfl hl rfl (Nat.le_of_ble_eq_true rfl) ⟨Nat.zero_le _, Nat.zero_le _⟩ dX11_eRead_241 (fun H locs h => ?_)
            refine lv_if_ne (tgt := 249) X.x X.b dX11_eRead_244 (by decide) (fun c23 => ?_) (fun c23 => ?_)
            · have hf := wF c23 hf
              refine lv_iconst (v := 1) X.x X.b dX11_eRead_249 (by decide) ?_
              obtain ⟨y24, e25, hf⟩ := wLe_s hf
              refine lv_nmi e25 ?_
              refine lv_istore_n (lv' := [(1, .int y24), (3, .int y16), (0, .ref (k.1 + adR 0 0 0)), (2, .int x2)]) X.x X.b dX11_eRead_250 rfl hl (by decide) rfl (fun ls hl => ?_)
              refine lv_iload_n X.x X.b dX11_eRead_251 rfl (lv_at hl 1 rfl) ?_
              refine lv_bipush (v := 12) X.x X.b dX11_eRead_252 (by decide) ?_
              refine lv_icmp_gt (tgt := 261) X.x X.b dX11_eRead_254 (by decide) (fun c26 => ?_) (fun c26 => ?_)
              · have hf := wT c26 hf
                refine lv_iconst (v := 0) X.x X.b dX11_eRead_261 (by decide) ?_
                exact wX11_eRead_b262 hS X h (lv_sub hl [2, 0] rfl) hf J1 JR
              · have hf := wF c26 hf
                refine lv_iconst (v := 1) X.x X.b dX11_eRead_257 (by decide) ?_
                refine lv_goto (tgt := 262) X.x X.b dX11_eRead_258 (by decide) ?_
                exact wX11_eRead_b262 hS X h (lv_sub hl [2, 0] rfl) hf J1 JR
            · have hf := wT c23 hf
              obtain ⟨t27, hf, e28⟩ := wEx_s hf
              have JR := JR t27 e28
              refine lv_iconst (v := 0) X.x X.b dX11_eRead_247 (by decide) ?_
              cases (Option.some.inj hf).trans JR
              exact ro_zret X h (Or.inl rfl) dX11_eRead_248
        · have hf := wT c14 hf
          refine lv_aload_n X.x X.b dX11_eRead_186 rfl (lv_at hl 0 rfl) ?_
          refine lv_iconst (v := 1) X.x X.b dX11_eRead_187 (by decide) ?_
          obtain ⟨g31, e29, hf⟩ := wBd_s hf
          refine ro_callvV (As := [.int (1 : Int32)]) (g1 := g31) X h (kX11_unwinds l hS e29) mv_X11_unwinds lk_X11_167 ⟨rfl, rfl⟩ ⟨(Nat.le_of_ble_eq_true rfl), (Nat.le_of_ble_eq_true rfl)⟩ (rR_0 X h (hS 0) Nat.one_pos Nat.one_pos) rfl hl rfl (Nat.le_of_ble_eq_true rfl) ⟨Nat.zero_le _, Nat.zero_le _⟩ dX11_eRead_188 (fun H locs h => ?_)
          refine lv_aload_n X.x X.b dX11_eRead_191 rfl (lv_at hl 0 rfl) ?_
          refine gR_0_31 X h (hS 0) Nat.one_pos Nat.one_pos lk_X11_151 dX11_eRead_192 ?_
          refine lv_if_ne (tgt := 200) X.x X.b dX11_eRead_195 (by decide) (fun c32 => ?_) (fun c32 => ?_)
          · have hf := wF c32 hf
            refine lv_aload_n X.x X.b dX11_eRead_200 rfl (lv_at hl 0 rfl) ?_
            refine lv_dup X.x X.b dX11_eRead_201 rfl ?_
            refine gR_0_31 X h (hS 0) Nat.one_pos Nat.one_pos lk_X11_151 dX11_eRead_202 ?_
            refine lv_iconst (v := 1) X.x X.b dX11_eRead_205 (by decide) ?_
            refine lv_isub X.x X.b dX11_eRead_206 ?_
            obtain ⟨g33, e34, hf⟩ := wLe_s hf
            refine pR_0_31 X h (hS 0) Nat.one_pos Nat.one_pos lk_X11_151 e34 dX11_eRead_207 (fun H locs h => ?_)
            refine lv_aload_n X.x X.b dX11_eRead_210 rfl (lv_at hl 0 rfl) ?_
            refine lv_dup X.x X.b dX11_eRead_211 rfl ?_
            refine gR_0_32 X h (hS 0) Nat.one_pos Nat.one_pos lk_X11_157 dX11_eRead_212 ?_
            refine lv_iconst (v := 1) X.x X.b dX11_eRead_215 (by decide) ?_
            refine lv_isub X.x X.b dX11_eRead_216 ?_
            obtain ⟨g35, e36, hf⟩ := wLe_s hf
            refine pR_0_32 X h (hS 0) Nat.one_pos Nat.one_pos lk_X11_157 e36 dX11_eRead_217 (fun H locs h => ?_)
            refine lv_aload_n X.x X.b dX11_eRead_220 rfl (lv_at hl 0 rfl) ?_
            refine lv_bipush (v := 7) X.x X.b dX11_eRead_221 (by decide) ?_
            obtain ⟨g39, e37, hf⟩ := wBd_s hf
            refine ro_callvV (As := [.int (7 : Int32)]) (g1 := g39) X h (kX11_unwinds l hS e37) mv_X11_unwinds lk_X11_167 ⟨rfl, rfl⟩ ⟨(Nat.le_of_ble_eq_true rfl), (Nat.le_of_ble_eq_true rfl)⟩ (rR_0 X h (hS 0) Nat.one_pos Nat.one_pos) rfl hl rfl (Nat.le_of_ble_eq_true rfl) ⟨Nat.zero_le _, Nat.zero_le _⟩ dX11_eRead_223 (fun H locs h => ?_)
            refine lv_goto (tgt := 14) X.x X.b dX11_eRead_226 (by decide) ?_
            exact J1 _ _ _ (Option.some.inj hf).symm _ _ _ h (lv_sub hl [0, 1, 2] rfl)
          · have hf := wT c32 hf
            obtain ⟨t40, hf, e41⟩ := wEx_s hf
            have JR := JR t40 e41
            refine lv_iconst (v := 0) X.x X.b dX11_eRead_198 (by decide) ?_
            cases (Option.some.inj hf).trans JR
            exact ro_zret X h (Or.inl rfl) dX11_eRead_199
      · have hf := wT c13 hf
        obtain ⟨t42, hf, e43⟩ := wEx_s hf
        have JR := JR t42 e43
        refine lv_aload_n X.x X.b dX11_eRead_159 rfl (lv_at hl 0 rfl) ?_
        refine lv_iconst (v := 1) X.x X.b dX11_eRead_160 (by decide) ?_
        obtain ⟨g46, e44, hf⟩ := wBd_s hf
        refine ro_callvV (As := [.int (1 : Int32)]) (g1 := g46) X h (kX11_unwinds l hS e44) mv_X11_unwinds lk_X11_167 ⟨rfl, rfl⟩ ⟨(Nat.le_of_ble_eq_true rfl), (Nat.le_of_ble_eq_true rfl)⟩ (rR_0 X h (hS 0) Nat.one_pos Nat.one_pos) rfl hl rfl (Nat.le_of_ble_eq_true rfl) ⟨Nat.zero_le _, Nat.zero_le _⟩ dX11_eRead_161 (fun H locs h => ?_)
        refine lv_aload_n X.x X.b dX11_eRead_164 rfl (lv_at hl 0 rfl) ?_
        refine gR_0_31 X h (hS 0) Nat.one_pos Nat.one_pos lk_X11_151 dX11_eRead_165 ?_
        refine lv_if_ne (tgt := 175) X.x X.b dX11_eRead_168 (by decide) (fun c47 => ?_) (fun c47 => ?_)
        · have hf := wF c47 hf
          refine lv_iconst (v := 0) X.x X.b dX11_eRead_175 (by decide) ?_
          cases (Option.some.inj hf).trans JR
          exact ro_zret X h (Or.inl rfl) dX11_eRead_176
        · have hf := wT c47 hf
          refine lv_iconst (v := 1) X.x X.b dX11_eRead_171 (by decide) ?_
          refine lv_goto (tgt := 176) X.x X.b dX11_eRead_172 (by decide) ?_
          cases (Option.some.inj hf).trans JR
          exact ro_zret X h (Or.inr rfl) dX11_eRead_176
    · have hf := wF c12 hf
      refine lv_aload_n X.x X.b dX11_eRead_22 rfl (lv_at hl 0 rfl) ?_
      refine gR_0_27 X h (hS 0) Nat.one_pos Nat.one_pos lk_X11_138 dX11_eRead_23 ?_
      refine lv_iconst (v := 1) X.x X.b dX11_eRead_26 (by decide) ?_
      refine lv_icmp_eq (tgt := 38) X.x X.b dX11_eRead_27 (by decide) (fun c48 => ?_) (fun c48 => ?_)
      · have hf := wT c48 hf
        exact wX11_eRead_b38 hS X h (lv_sub hl [0, 2] rfl) hf J1 JR
      · have hf := wF c48 hf
        refine lv_aload_n X.x X.b dX11_eRead_30 rfl (lv_at hl 0 rfl) ?_
        refine gR_0_27 X h (hS 0) Nat.one_pos Nat.one_pos lk_X11_138 dX11_eRead_31 ?_
        refine lv_iconst (v := 2) X.x X.b dX11_eRead_34 (by decide) ?_
        refine lv_icmp_ne (tgt := 75) X.x X.b dX11_eRead_35 (by decide) (fun c58 => ?_) (fun c58 => ?_)
        · have hf := wF c58 hf
          refine lv_aload_n X.x X.b dX11_eRead_75 rfl (lv_at hl 0 rfl) ?_
          refine gR_0_27 X h (hS 0) Nat.one_pos Nat.one_pos lk_X11_138 dX11_eRead_76 ?_
          refine lv_bipush (v := 6) X.x X.b dX11_eRead_79 (by decide) ?_
          refine lv_icmp_ne (tgt := 99) X.x X.b dX11_eRead_81 (by decide) (fun c59 => ?_) (fun c59 => ?_)
          · have hf := wF c59 hf
            exact wX11_eRead_b99 hS X h (lv_sub hl [0, 1] rfl) hf J1 JR
          · have hf := wT c59 hf
            refine lv_iload_n X.x X.b dX11_eRead_84 rfl (lv_at hl 2 rfl) ?_
            refine lv_if_eq (tgt := 99) X.x X.b dX11_eRead_85 (by decide) (fun c80 => ?_) (fun c80 => ?_)
            · have hf := wT c80 hf
              exact wX11_eRead_b99 hS X h (lv_sub hl [0, 1] rfl) hf J1 JR
            · have hf := wF c80 hf
              refine lv_aload_n X.x X.b dX11_eRead_88 rfl (lv_at hl 0 rfl) ?_
              refine lv_bipush (v := 13) X.x X.b dX11_eRead_89 (by decide) ?_
              obtain ⟨g83, y82, e81, hf⟩ := wB2_s hf
              refine ro_callvI (As := [.int (13 : Int32)]) (g1 := g83) (x := y82) X h (kX11_opensOne l hS e81) mv_X11_opensOne lk_X11_173 ⟨rfl, rfl⟩ ⟨(Nat.le_of_ble_eq_true rfl), (Nat.le_of_ble_eq_true rfl)⟩ (rR_0 X h (hS 0) Nat.one_pos Nat.one_pos) rfl hl rfl (Nat.le_of_ble_eq_true rfl) ⟨Nat.zero_le _, Nat.zero_le _⟩ dX11_eRead_91 (fun H locs h => ?_)
              refine lv_if_ne (tgt := 14) X.x X.b dX11_eRead_94 (by decide) (fun c84 => ?_) (fun c84 => ?_)
              · have hf := wF c84 hf
                exact J1 _ _ _ (Option.some.inj hf).symm _ _ _ h (lv_sub hl [0, 1, 2] rfl)
              · have hf := wT c84 hf
                obtain ⟨t85, hf, e86⟩ := wEx_s hf
                have JR := JR t85 e86
                refine lv_iconst (v := 0) X.x X.b dX11_eRead_97 (by decide) ?_
                cases (Option.some.inj hf).trans JR
                exact ro_zret X h (Or.inl rfl) dX11_eRead_98
        · have hf := wT c58 hf
          exact wX11_eRead_b38 hS X h (lv_sub hl [0, 2] rfl) hf J1 JR
set_option maxHeartbeats 4000000 in
set_option maxRecDepth 20000 in
theorem kX11_eRead (l : Launch) {k : En} {S : Nat → Prop} (hS : ∀ t, S t) {res : Mm × Int32} {g : Mm} (hf : fX11_eRead g = some res) : Mt l yX11_eRead cX11_eRead 4 (some .boolean) (RmN 3 68) YR S k [.ref (k.1 + adR 0 0 0)] g (some (.int res.2)) res.1 := by
  refine Mt.of (by decide) (Nat.le_of_ble_eq_true rfl) ?_
  intro p e s m args below meth c ls X _ h hl
  have X : Cx YR S k p s m args meth c cX11_eRead 4 (some .boolean) RX11 := X
  have hl : lv_has ls 4 [(0, .ref (k.1 + adR 0 0 0))] := hl
  have JR : res = res := rfl
  unfold fX11_eRead at hf
  refine lv_aload_n X.x X.b dX11_eRead_0 rfl (lv_at hl 0 rfl) ?_
  refine lv_iconst (v := 0) X.x X.b dX11_eRead_1 (by decide) ?_
  obtain ⟨g1, e2, hf⟩ := wLe_s hf
  refine pR_0_31 X h (hS 0) Nat.one_pos Nat.one_pos lk_X11_151 e2 dX11_eRead_2 (fun H locs h => ?_)
  refine lv_aload_n X.x X.b dX11_eRead_5 rfl (lv_at hl 0 rfl) ?_
  refine lv_iconst (v := 0) X.x X.b dX11_eRead_6 (by decide) ?_
  obtain ⟨g3, e4, hf⟩ := wLe_s hf
  refine pR_0_32 X h (hS 0) Nat.one_pos Nat.one_pos lk_X11_157 e4 dX11_eRead_7 (fun H locs h => ?_)
  refine lv_iconst (v := 1) X.x X.b dX11_eRead_10 (by decide) ?_
  obtain ⟨y5, e6, hf⟩ := wLe_s hf
  refine lv_nmi e6 ?_
  refine lv_istore_n (lv' := [(1, .int y5), (0, .ref (k.1 + adR 0 0 0))]) X.x X.b dX11_eRead_11 rfl hl (by decide) rfl (fun ls hl => ?_)
  refine lv_iconst (v := 1) X.x X.b dX11_eRead_12 (by decide) ?_
  obtain ⟨y7, e8, hf⟩ := wLe_s hf
  refine lv_nmi e8 ?_
  refine lv_istore_n (lv' := [(2, .int y7), (1, .int y5), (0, .ref (k.1 + adR 0 0 0))]) X.x X.b dX11_eRead_13 rfl hl (by decide) rfl (fun ls hl => ?_)
  exact wX11_eRead_L14 hS X JR _ _ _ _ _ _ _ h (lv_sub hl [2, 1, 0] rfl) hf
set_option maxHeartbeats 4000000 in
set_option maxRecDepth 20000 in
theorem wX11_text_b122 {k : En} {S : Nat → Prop} (hS : ∀ t, S t) {res : Mm × Int32} (X : Cx YR S k p s m args meth c cX11_text 3 (some .int) RX11) {g : Mm} {x1 : Int32} {H : Heap} {locs : List Loc} {ls : Array Slot} (h : Hx YR S k s g H locs) (hl : lv_has ls 3 [(0, .ref (k.1 + adR 0 0 0)), (1, .int x1)]) {r : Mm × Int32} (hf : fX11_text_b122 g x1 = some r) (JR : r = res) :
    W p l e (RmN 4 91) s m args below meth c H locs 0 0 (Fin YR S k args s below (some (.int res.2)) res.1) (F0 m 122 ls []) := by
  unfold fX11_text_b122 at hf
  refine lv_aload_n X.x X.b dX11_text_122 rfl (lv_at hl 0 rfl) ?_
  refine gR_0_15 X h (hS 0) Nat.one_pos Nat.one_pos lk_X11_31 dX11_text_123 ?_
  refine lv_iconst (v := 4) X.x X.b dX11_text_126 (by decide) ?_
  refine lv_aload_n X.x X.b dX11_text_127 rfl (lv_at hl 0 rfl) ?_
  refine gR_0_12 X h (hS 0) Nat.one_pos Nat.one_pos lk_X11_92 dX11_text_128 ?_
  refine lv_imul X.x X.b dX11_text_131 ?_
  refine lv_iconst (v := 3) X.x X.b dX11_text_132 (by decide) ?_
  refine lv_iadd X.x X.b dX11_text_133 ?_
  refine lv_aload_n X.x X.b dX11_text_134 rfl (lv_at hl 0 rfl) ?_
  refine gR_0_33 X h (hS 0) Nat.one_pos Nat.one_pos lk_X11_148 dX11_text_135 ?_
  obtain ⟨b14, hf⟩ := wGi_s hf
  obtain ⟨g15, e16, hf⟩ := wLe_s hf
  refine bR_8 X h (hS 8) Nat.one_pos Nat.one_pos e16 b14 dX11_text_138 (fun H locs h => ?_)
  refine lv_aload_n X.x X.b dX11_text_139 rfl (lv_at hl 0 rfl) ?_
  refine lv_iconst (v := 0) X.x X.b dX11_text_140 (by decide) ?_
  obtain ⟨g17, e18, hf⟩ := wLe_s hf
  refine pR_0_11 X h (hS 0) Nat.one_pos Nat.one_pos lk_X11_127 e18 dX11_text_141 (fun H locs h => ?_)
  refine lv_iload_n X.x X.b dX11_text_144 rfl (lv_at hl 1 rfl) ?_
  refine lv_if_ne (tgt := 156) X.x X.b dX11_text_145 (by decide) (fun c19 => ?_) (fun c19 => ?_)
  · have hf := wF c19 hf
    refine lv_aload_n X.x X.b dX11_text_156 rfl (lv_at hl 0 rfl) ?_
    refine lv_dup X.x X.b dX11_text_157 rfl ?_
    refine gR_0_12 X h (hS 0) Nat.one_pos Nat.one_pos lk_X11_92 dX11_text_158 ?_
    refine lv_iconst (v := 1) X.x X.b dX11_text_161 (by decide) ?_
    refine lv_iadd X.x X.b dX11_text_162 ?_
    obtain ⟨g20, e21, hf⟩ := wLe_s hf
    refine pR_0_12 X h (hS 0) Nat.one_pos Nat.one_pos lk_X11_92 e21 dX11_text_163 (fun H locs h => ?_)
    refine lv_aload_n X.x X.b dX11_text_166 rfl (lv_at hl 0 rfl) ?_
    refine gR_0_12 X h (hS 0) Nat.one_pos Nat.one_pos lk_X11_92 dX11_text_167 ?_
    refine lv_iconst (v := 1) X.x X.b dX11_text_170 (by decide) ?_
    refine lv_isub X.x X.b dX11_text_171 ?_
    cases (Option.some.inj hf).trans JR
    exact ro_iret X h dX11_text_172
  · have hf := wT c19 hf
    refine lv_bipush (v := (-100)) X.x X.b dX11_text_148 (by decide) ?_
    refine lv_aload_n X.x X.b dX11_text_150 rfl (lv_at hl 0 rfl) ?_
    refine gR_0_26 X h (hS 0) Nat.one_pos Nat.one_pos lk_X11_135 dX11_text_151 ?_
    refine lv_isub X.x X.b dX11_text_154 ?_
    cases (Option.some.inj hf).trans JR
    exact ro_iret X h dX11_text_155
set_option maxHeartbeats 4000000 in
set_option maxRecDepth 20000 in
theorem wX11_text_b121 {k : En} {S : Nat → Prop} (hS : ∀ t, S t) {res : Mm × Int32} (X : Cx YR S k p s m args meth c cX11_text 3 (some .int) RX11) {g : Mm} {z0 : Int32} {H : Heap} {locs : List Loc} {ls : Array Slot} (h : Hx YR S k s g H locs) (hl : lv_has ls 3 [(0, .ref (k.1 + adR 0 0 0))]) {r : Mm × Int32} (hf : fX11_text_b121 g z0 = some r) (JR : r = res) :
    W p l e (RmN 4 91) s m args below meth c H locs 0 0 (Fin YR S k args s below (some (.int res.2)) res.1) (F0 m 121 ls [.int z0]) := by
  unfold fX11_text_b121 at hf
  refine lv_istore_n (lv' := [(1, .int z0), (0, .ref (k.1 + adR 0 0 0))]) X.x X.b dX11_text_121 rfl hl (by decide) rfl (fun ls hl => ?_)
  exact wX11_text_b122 hS X h (lv_sub hl [1, 0] rfl) hf JR
set_option maxHeartbeats 4000000 in
set_option maxRecDepth 20000 in
theorem wX11_text_b101 {k : En} {S : Nat → Prop} (hS : ∀ t, S t) {res : Mm × Int32} (X : Cx YR S k p s m args meth c cX11_text 3 (some .int) RX11) {g : Mm} {x1 : Int32} {H : Heap} {locs : List Loc} {ls : Array Slot} (h : Hx YR S k s g H locs) (hl : lv_has ls 3 [(0, .ref (k.1 + adR 0 0 0)), (1, .int x1)]) {r : Mm × Int32} (hf : fX11_text_b101 g x1 = some r) (JR : r = res) :
    W p l e (RmN 4 91) s m args below meth c H locs 0 0 (Fin YR S k args s below (some (.int res.2)) res.1) (F0 m 101 ls []) := by
  unfold fX11_text_b101 at hf
  refine lv_iload_n X.x X.b dX11_text_101 rfl (lv_at hl 1 rfl) ?_
  refine lv_if_eq (tgt := 122) X.x X.b dX11_text_102 (by decide) (fun c13 => ?_) (fun c13 => ?_)
  · have hf := wT c13 hf
    exact wX11_text_b122 hS X h (lv_sub hl [0, 1] rfl) hf JR
  · have hf := wF c13 hf
    refine lv_aload_n X.x X.b dX11_text_105 rfl (lv_at hl 0 rfl) ?_
    obtain ⟨g24, e22, hf⟩ := wBd_s hf
    refine ro_callvV (As := []) (g1 := g24) X h (kX11_next l hS e22) mv_X11_next lk_X11_170 ⟨rfl, rfl⟩ ⟨(Nat.le_of_ble_eq_true rfl), (Nat.le_of_ble_eq_true rfl)⟩ (rR_0 X h (hS 0) Nat.one_pos Nat.one_pos) rfl hl rfl (Nat.le_of_ble_eq_true rfl) ⟨Nat.zero_le _, Nat.zero_le _⟩ dX11_text_106 (fun H locs h => ?_)
    refine lv_aload_n X.x X.b dX11_text_109 rfl (lv_at hl 0 rfl) ?_
    refine gR_0_27 X h (hS 0) Nat.one_pos Nat.one_pos lk_X11_138 dX11_text_110 ?_
    refine lv_if_ne (tgt := 120) X.x X.b dX11_text_113 (by decide) (fun c25 => ?_) (fun c25 => ?_)
    · have hf := wF c25 hf
      refine lv_iconst (v := 0) X.x X.b dX11_text_120 (by decide) ?_
      exact wX11_text_b121 hS X h (lv_sub hl [0] rfl) hf JR
    · have hf := wT c25 hf
      refine lv_iconst (v := 1) X.x X.b dX11_text_116 (by decide) ?_
      refine lv_goto (tgt := 121) X.x X.b dX11_text_117 (by decide) ?_
      exact wX11_text_b121 hS X h (lv_sub hl [0] rfl) hf JR
set_option maxHeartbeats 4000000 in
set_option maxRecDepth 20000 in
theorem wX11_text_b94 {k : En} {S : Nat → Prop} (hS : ∀ t, S t) {res : Mm × Int32} (X : Cx YR S k p s m args meth c cX11_text 3 (some .int) RX11) {g : Mm} {x2 : Int32} {z0 : Int32} {H : Heap} {locs : List Loc} {ls : Array Slot} (h : Hx YR S k s g H locs) (hl : lv_has ls 3 [(0, .ref (k.1 + adR 0 0 0)), (2, .int x2)]) {r : (Mm × Int32 × Int32) ⊕ (Mm × Int32)} (hf : fX11_text_b94 g x2 z0 = some r) (J1 : ∀ (g : Mm) (x1 : Int32) (x2 : Int32), r = .inl (g, x1, x2) → ∀ (H : Heap) (locs : List Loc) (ls : Array Slot), Hx YR S k s g H locs → lv_has ls 3 [(0, .ref (k.1 + adR 0 0 0)), (1, .int x1), (2, .int x2)] → W p l e (RmN 4 91) s m args below meth c H locs 0 0 (Fin YR S k args s below (some (.int res.2)) res.1) (F0 m 26 ls [])) (JR : ∀ t1, r = .inr t1 → t1 = res) :
    W p l e (RmN 4 91) s m args below meth c H locs 0 0 (Fin YR S k args s below (some (.int res.2)) res.1) (F0 m 94 ls [.int z0]) := by
  unfold fX11_text_b94 at hf
  refine lv_istore_n (lv' := [(1, .int z0), (0, .ref (k.1 + adR 0 0 0)), (2, .int x2)]) X.x X.b dX11_text_94 rfl hl (by decide) rfl (fun ls hl => ?_)
  obtain ⟨y37, e38, hf⟩ := wLe_s hf
  refine lv_iinc (v := y37) (lv' := [(2, .int y37), (1, .int z0), (0, .ref (k.1 + adR 0 0 0))]) X.x X.b dX11_text_95 hl (k := 2) rfl (by rw [e38]; rfl) (by decide) rfl (fun ls hl => ?_)
  refine lv_goto (tgt := 26) X.x X.b dX11_text_98 (by decide) ?_
  exact J1 _ _ _ (Option.some.inj hf).symm _ _ _ h (lv_sub hl [2, 1, 0] rfl)
set_option maxHeartbeats 4000000 in
set_option maxRecDepth 20000 in
theorem wX11_text_b93 {k : En} {S : Nat → Prop} (hS : ∀ t, S t) {res : Mm × Int32} (X : Cx YR S k p s m args meth c cX11_text 3 (some .int) RX11) {g : Mm} {x2 : Int32} {H : Heap} {locs : List Loc} {ls : Array Slot} (h : Hx YR S k s g H locs) (hl : lv_has ls 3 [(0, .ref (k.1 + adR 0 0 0)), (2, .int x2)]) {r : (Mm × Int32 × Int32) ⊕ (Mm × Int32)} (hf : fX11_text_b93 g x2 = some r) (J1 : ∀ (g : Mm) (x1 : Int32) (x2 : Int32), r = .inl (g, x1, x2) → ∀ (H : Heap) (locs : List Loc) (ls : Array Slot), Hx YR S k s g H locs → lv_has ls 3 [(0, .ref (k.1 + adR 0 0 0)), (1, .int x1), (2, .int x2)] → W p l e (RmN 4 91) s m args below meth c H locs 0 0 (Fin YR S k args s below (some (.int res.2)) res.1) (F0 m 26 ls [])) (JR : ∀ t1, r = .inr t1 → t1 = res) :
    W p l e (RmN 4 91) s m args below meth c H locs 0 0 (Fin YR S k args s below (some (.int res.2)) res.1) (F0 m 93 ls []) := by
  unfold fX11_text_b93 at hf
  refine lv_iconst (v := 0) X.x X.b dX11_text_93 (by decide) ?_
  exact wX11_text_b94 hS X h (lv_sub hl [0, 1] rfl) hf J1 JR
set_option maxHeartbeats 4000000 in
set_option maxRecDepth 20000 in
theorem wX11_text_b60 {k : En} {S : Nat → Prop} (hS : ∀ t, S t) {res : Mm × Int32} (X : Cx YR S k p s m args meth c cX11_text 3 (some .int) RX11) {g : Mm} {x2 : Int32} {z0 : Int32} {H : Heap} {locs : List Loc} {ls : Array Slot} (h : Hx YR S k s g H locs) (hl : lv_has ls 3 [(0, .ref (k.1 + adR 0 0 0)), (2, .int x2)]) {r : (Mm × Int32 × Int32) ⊕ (Mm × Int32)} (hf : fX11_text_b60 g x2 z0 = some r) (J1 : ∀ (g : Mm) (x1 : Int32) (x2 : Int32), r = .inl (g, x1, x2) → ∀ (H : Heap) (locs : List Loc) (ls : Array Slot), Hx YR S k s g H locs → lv_has ls 3 [(0, .ref (k.1 + adR 0 0 0)), (1, .int x1), (2, .int x2)] → W p l e (RmN 4 91) s m args below meth c H locs 0 0 (Fin YR S k args s below (some (.int res.2)) res.1) (F0 m 26 ls [])) (JR : ∀ t1, r = .inr t1 → t1 = res) :
    W p l e (RmN 4 91) s m args below meth c H locs 0 0 (Fin YR S k args s below (some (.int res.2)) res.1) (F0 m 60 ls [.int z0]) := by
  unfold fX11_text_b60 at hf
  refine lv_istore_n (lv' := [(1, .int z0), (0, .ref (k.1 + adR 0 0 0)), (2, .int x2)]) X.x X.b dX11_text_60 rfl hl (by decide) rfl (fun ls hl => ?_)
  refine lv_aload_n X.x X.b dX11_text_61 rfl (lv_at hl 1 rfl) ?_
  refine gR_0_15 X h (hS 0) Nat.one_pos Nat.one_pos lk_X11_31 dX11_text_62 ?_
  refine lv_iconst (v := 4) X.x X.b dX11_text_65 (by decide) ?_
  refine lv_aload_n X.x X.b dX11_text_66 rfl (lv_at hl 1 rfl) ?_
  refine gR_0_12 X h (hS 0) Nat.one_pos Nat.one_pos lk_X11_92 dX11_text_67 ?_
  refine lv_imul X.x X.b dX11_text_70 ?_
  refine lv_iload_n X.x X.b dX11_text_71 rfl (lv_at hl 2 rfl) ?_
  refine lv_iadd X.x X.b dX11_text_72 ?_
  refine lv_aload_n X.x X.b dX11_text_73 rfl (lv_at hl 1 rfl) ?_
  refine gR_0_33 X h (hS 0) Nat.one_pos Nat.one_pos lk_X11_148 dX11_text_74 ?_
  obtain ⟨b33, hf⟩ := wGi_s hf
  obtain ⟨g34, e35, hf⟩ := wLe_s hf
  refine bR_8 X h (hS 8) Nat.one_pos Nat.one_pos e35 b33 dX11_text_77 (fun H locs h => ?_)
  refine lv_iload_n X.x X.b dX11_text_78 rfl (lv_at hl 0 rfl) ?_
  refine lv_if_eq (tgt := 93) X.x X.b dX11_text_79 (by decide) (fun c36 => ?_) (fun c36 => ?_)
  · have hf := wT c36 hf
    exact wX11_text_b93 hS X h (lv_sub hl [1, 2] rfl) hf J1 JR
  · have hf := wF c36 hf
    refine lv_aload_n X.x X.b dX11_text_82 rfl (lv_at hl 1 rfl) ?_
    obtain ⟨g41, y40, e39, hf⟩ := wB2_s hf
    refine ro_callvI (As := []) (g1 := g41) (x := y40) X h (kX11_eRead l hS e39) mv_X11_eRead lk_X11_182 ⟨rfl, rfl⟩ ⟨(Nat.le_of_ble_eq_true rfl), (Nat.le_of_ble_eq_true rfl)⟩ (rR_0 X h (hS 0) Nat.one_pos Nat.one_pos) rfl hl rfl (Nat.le_of_ble_eq_true rfl) ⟨Nat.zero_le _, Nat.zero_le _⟩ dX11_text_83 (fun H locs h => ?_)
    refine lv_if_eq (tgt := 93) X.x X.b dX11_text_86 (by decide) (fun c42 => ?_) (fun c42 => ?_)
    · have hf := wT c42 hf
      exact wX11_text_b93 hS X h (lv_sub hl [1, 2] rfl) hf J1 JR
    · have hf := wF c42 hf
      refine lv_iconst (v := 1) X.x X.b dX11_text_89 (by decide) ?_
      refine lv_goto (tgt := 94) X.x X.b dX11_text_90 (by decide) ?_
      exact wX11_text_b94 hS X h (lv_sub hl [1, 2] rfl) hf J1 JR
set_option maxHeartbeats 4000000 in
set_option maxRecDepth 20000 in
theorem wX11_text_b59 {k : En} {S : Nat → Prop} (hS : ∀ t, S t) {res : Mm × Int32} (X : Cx YR S k p s m args meth c cX11_text 3 (some .int) RX11) {g : Mm} {x2 : Int32} {H : Heap} {locs : List Loc} {ls : Array Slot} (h : Hx YR S k s g H locs) (hl : lv_has ls 3 [(0, .ref (k.1 + adR 0 0 0)), (2, .int x2)]) {r : (Mm × Int32 × Int32) ⊕ (Mm × Int32)} (hf : fX11_text_b59 g x2 = some r) (J1 : ∀ (g : Mm) (x1 : Int32) (x2 : Int32), r = .inl (g, x1, x2) → ∀ (H : Heap) (locs : List Loc) (ls : Array Slot), Hx YR S k s g H locs → lv_has ls 3 [(0, .ref (k.1 + adR 0 0 0)), (1, .int x1), (2, .int x2)] → W p l e (RmN 4 91) s m args below meth c H locs 0 0 (Fin YR S k args s below (some (.int res.2)) res.1) (F0 m 26 ls [])) (JR : ∀ t1, r = .inr t1 → t1 = res) :
    W p l e (RmN 4 91) s m args below meth c H locs 0 0 (Fin YR S k args s below (some (.int res.2)) res.1) (F0 m 59 ls []) := by
  unfold fX11_text_b59 at hf
  refine lv_iconst (v := 0) X.x X.b dX11_text_59 (by decide) ?_
  exact wX11_text_b60 hS X h (lv_sub hl [0, 1] rfl) hf J1 JR
set_option maxHeartbeats 4000000 in
set_option maxRecDepth 20000 in
theorem wX11_text_L26 {k : En} {S : Nat → Prop} (hS : ∀ t, S t) {res : Mm × Int32} (X : Cx YR S k p s m args meth c cX11_text 3 (some .int) RX11) {r : Mm × Int32} (JR : r = res) :
    ∀ (fu : Nat) (g : Mm) (x1 : Int32) (x2 : Int32) (H : Heap) (locs : List Loc) (ls : Array Slot), Hx YR S k s g H locs → lv_has ls 3 [(0, .ref (k.1 + adR 0 0 0)), (1, .int x1), (2, .int x2)] → wLp (fun q => fX11_text_B26 q.1 q.2.1 q.2.2) fu (g, x1, x2) = some r → W p l e (RmN 4 91) s m args below meth c H locs 0 0 (Fin YR S k args s below (some (.int res.2)) res.1) (F0 m 26 ls []) := by
  intro fu
  induction fu with
  | zero => intro g x1 x2 H locs ls h hl hf; exact (wLp_0 hf).elim
  | succ fu ih1 =>
    intro g x1 x2 H locs ls h hl hf
    obtain ⟨r1, hf, hr⟩ := wLp_s hf
    have J1n : ∀ (g : Mm) (x1 : Int32) (x2 : Int32), r1 = .inl (g, x1, x2) → ∀ (H : Heap) (locs : List Loc) (ls : Array Slot), Hx YR S k s g H locs → lv_has ls 3 [(0, .ref (k.1 + adR 0 0 0)), (1, .int x1), (2, .int x2)] → W p l e (RmN 4 91) s m args below meth c H locs 0 0 (Fin YR S k args s below (some (.int res.2)) res.1) (F0 m 26 ls []) := fun g x1 x2 q H locs ls h hl => by subst q; exact ih1 _ _ _ _ _ _ h hl hr
    have JRn : ∀ t1, r1 = .inr t1 → t1 = res := fun t1 q => by subst q; obtain rfl := Option.some.inj hr; exact JR
    have J1 := J1n
    have JR := JRn
    clear J1n JRn
    have hf : fX11_text_B26 g x1 x2 = some r1 := hf
    unfold fX11_text_B26 at hf
    refine lv_iload_n X.x X.b dX11_text_26 rfl (lv_at hl 2 rfl) ?_
    refine lv_iconst (v := 3) X.x X.b dX11_text_27 (by decide) ?_
    refine lv_icmp_ge (tgt := 101) X.x X.b dX11_text_28 (by decide) (fun c10 => ?_) (fun c10 => ?_)
    · have hf := wT c10 hf
      obtain ⟨t11, hf, e12⟩ := wEx_s hf
      have JR := JR t11 e12
      exact wX11_text_b101 hS X h (lv_sub hl [0, 1] rfl) hf JR
    · have hf := wF c10 hf
      refine lv_iload_n X.x X.b dX11_text_31 rfl (lv_at hl 1 rfl) ?_
      refine lv_if_eq (tgt := 101) X.x X.b dX11_text_32 (by decide) (fun c26 => ?_) (fun c26 => ?_)
      · have hf := wT c26 hf
        obtain ⟨t27, hf, e28⟩ := wEx_s hf
        have JR := JR t27 e28
        exact wX11_text_b101 hS X h (lv_sub hl [0, 1] rfl) hf JR
      · have hf := wF c26 hf
        refine lv_aload_n X.x X.b dX11_text_35 rfl (lv_at hl 0 rfl) ?_
        obtain ⟨g31, e29, hf⟩ := wBd_s hf
        refine ro_callvV (As := []) (g1 := g31) X h (kX11_next l hS e29) mv_X11_next lk_X11_170 ⟨rfl, rfl⟩ ⟨(Nat.le_of_ble_eq_true rfl), (Nat.le_of_ble_eq_true rfl)⟩ (rR_0 X h (hS 0) Nat.one_pos Nat.one_pos) rfl hl rfl (Nat.le_of_ble_eq_true rfl) ⟨Nat.zero_le _, Nat.zero_le _⟩ dX11_text_36 (fun H locs h => ?_)
        refine lv_aload_n X.x X.b dX11_text_39 rfl (lv_at hl 0 rfl) ?_
        refine gR_0_27 X h (hS 0) Nat.one_pos Nat.one_pos lk_X11_138 dX11_text_40 ?_
        refine lv_iconst (v := 3) X.x X.b dX11_text_43 (by decide) ?_
        refine lv_icmp_ne (tgt := 59) X.x X.b dX11_text_44 (by decide) (fun c32 => ?_) (fun c32 => ?_)
        · have hf := wF c32 hf
          exact wX11_text_b59 hS X h (lv_sub hl [0, 2] rfl) hf J1 JR
        · have hf := wT c32 hf
          refine lv_aload_n X.x X.b dX11_text_47 rfl (lv_at hl 0 rfl) ?_
          refine gR_0_28 X h (hS 0) Nat.one_pos Nat.one_pos lk_X11_141 dX11_text_48 ?_
          refine lv_iload_n X.x X.b dX11_text_51 rfl (lv_at hl 2 rfl) ?_
          refine lv_icmp_ne (tgt := 59) X.x X.b dX11_text_52 (by decide) (fun c43 => ?_) (fun c43 => ?_)
          · have hf := wF c43 hf
            exact wX11_text_b59 hS X h (lv_sub hl [0, 2] rfl) hf J1 JR
          · have hf := wT c43 hf
            refine lv_iconst (v := 1) X.x X.b dX11_text_55 (by decide) ?_
            refine lv_goto (tgt := 60) X.x X.b dX11_text_56 (by decide) ?_
            exact wX11_text_b60 hS X h (lv_sub hl [0, 2] rfl) hf J1 JR
set_option maxHeartbeats 4000000 in
set_option maxRecDepth 20000 in
theorem kX11_text (l : Launch) {k : En} {S : Nat → Prop} (hS : ∀ t, S t) {res : Mm × Int32} {g : Mm} (hf : fX11_text g = some res) : Mt l yX11_text cX11_text 3 (some .int) (RmN 4 91) YR S k [.ref (k.1 + adR 0 0 0)] g (some (.int res.2)) res.1 := by
  refine Mt.of (by decide) (Nat.le_of_ble_eq_true rfl) ?_
  intro p e s m args below meth c ls X _ h hl
  have X : Cx YR S k p s m args meth c cX11_text 3 (some .int) RX11 := X
  have hl : lv_has ls 3 [(0, .ref (k.1 + adR 0 0 0))] := hl
  have JR : res = res := rfl
  unfold fX11_text at hf
  refine lv_aload_n X.x X.b dX11_text_0 rfl (lv_at hl 0 rfl) ?_
  refine gR_0_12 X h (hS 0) Nat.one_pos Nat.one_pos lk_X11_92 dX11_text_1 ?_
  refine lv_bipush (v := 6) X.x X.b dX11_text_4 (by decide) ?_
  refine lv_icmp_ne (tgt := 12) X.x X.b dX11_text_6 (by decide) (fun c1 => ?_) (fun c1 => ?_)
  · have hf := wF c1 hf
    refine lv_aload_n X.x X.b dX11_text_12 rfl (lv_at hl 0 rfl) ?_
    refine lv_iconst (v := 0) X.x X.b dX11_text_13 (by decide) ?_
    obtain ⟨g2, e3, hf⟩ := wLe_s hf
    refine pR_0_25 X h (hS 0) Nat.one_pos Nat.one_pos lk_X11_132 e3 dX11_text_14 (fun H locs h => ?_)
    refine lv_aload_n X.x X.b dX11_text_17 rfl (lv_at hl 0 rfl) ?_
    refine lv_iconst (v := 0) X.x X.b dX11_text_18 (by decide) ?_
    obtain ⟨g4, e5, hf⟩ := wLe_s hf
    refine pR_0_33 X h (hS 0) Nat.one_pos Nat.one_pos lk_X11_148 e5 dX11_text_19 (fun H locs h => ?_)
    refine lv_iconst (v := 1) X.x X.b dX11_text_22 (by decide) ?_
    obtain ⟨y6, e7, hf⟩ := wLe_s hf
    refine lv_nmi e7 ?_
    refine lv_istore_n (lv' := [(1, .int y6), (0, .ref (k.1 + adR 0 0 0))]) X.x X.b dX11_text_23 rfl hl (by decide) rfl (fun ls hl => ?_)
    refine lv_iconst (v := 0) X.x X.b dX11_text_24 (by decide) ?_
    obtain ⟨y8, e9, hf⟩ := wLe_s hf
    refine lv_nmi e9 ?_
    refine lv_istore_n (lv' := [(2, .int y8), (1, .int y6), (0, .ref (k.1 + adR 0 0 0))]) X.x X.b dX11_text_25 rfl hl (by decide) rfl (fun ls hl => ?_)
    exact wX11_text_L26 hS X JR _ _ _ _ _ _ _ h (lv_sub hl [2, 1, 0] rfl) hf
  · have hf := wT c1 hf
    refine lv_bipush (v := (-4)) X.x X.b dX11_text_9 (by decide) ?_
    cases (Option.some.inj hf).trans JR
    exact ro_iret X h dX11_text_11
set_option maxHeartbeats 4000000 in
set_option maxRecDepth 20000 in
theorem kX11_force (l : Launch) {k : En} {S : Nat → Prop} (hS : ∀ t, S t) {a1 : Int32} {res : Mm × Int32} {g : Mm} (hf : fX11_force g a1 = some res) : Mt l yX11_force cX11_force 3 (some .int) (RmN 1 22) YR S k [.ref (k.1 + adR 0 0 0), .int a1] g (some (.int res.2)) res.1 := by
  refine Mt.of (by decide) (Nat.le_of_ble_eq_true rfl) ?_
  intro p e s m args below meth c ls X _ h hl
  have X : Cx YR S k p s m args meth c cX11_force 3 (some .int) RX11 := X
  have hl : lv_has ls 3 [(0, .ref (k.1 + adR 0 0 0)), (1, .int a1)] := hl
  have JR : res = res := rfl
  unfold fX11_force at hf
  refine lv_iload_n X.x X.b dX11_force_0 rfl (lv_at hl 1 rfl) ?_
  refine lv_iconst (v := 0) X.x X.b dX11_force_1 (by decide) ?_
  refine lv_aload_n X.x X.b dX11_force_2 rfl (lv_at hl 0 rfl) ?_
  refine gR_0_12 X h (hS 0) Nat.one_pos Nat.one_pos lk_X11_92 dX11_force_3 ?_
  refine lv_iconst (v := 1) X.x X.b dX11_force_6 (by decide) ?_
  refine lv_isub X.x X.b dX11_force_7 ?_
  obtain ⟨y2, e1, hf⟩ := wBd_s hf
  refine ro_callsI (As := [.int a1, .int (0 : Int32), .int ((g 0 0 0 12) - (1 : Int32))]) (g1 := g) (x := y2) X h (kX11_in l hS e1) mv_X11_in lk_X11_99 ⟨rfl, rfl⟩ ⟨(Nat.le_of_ble_eq_true rfl), (Nat.le_of_ble_eq_true rfl)⟩ rfl hl rfl (Nat.le_of_ble_eq_true rfl) ⟨Nat.zero_le _, Nat.zero_le _⟩ dX11_force_8 (fun H locs h => ?_)
  refine lv_if_ne (tgt := 17) X.x X.b dX11_force_11 (by decide) (fun c3 => ?_) (fun c3 => ?_)
  · have hf := wF c3 hf
    refine lv_aload_n X.x X.b dX11_force_17 rfl (lv_at hl 0 rfl) ?_
    refine gR_0_13 X h (hS 0) Nat.one_pos Nat.one_pos lk_X11_186 dX11_force_18 ?_
    obtain ⟨y4, e5, hf⟩ := wLe_s hf
    refine lv_nmi e5 ?_
    refine lv_istore_n (lv' := [(2, .int y4), (0, .ref (k.1 + adR 0 0 0)), (1, .int a1)]) X.x X.b dX11_force_21 rfl hl (by decide) rfl (fun ls hl => ?_)
    refine lv_aload_n X.x X.b dX11_force_22 rfl (lv_at hl 1 rfl) ?_
    refine lv_iload_n X.x X.b dX11_force_23 rfl (lv_at hl 2 rfl) ?_
    obtain ⟨g6, e7, hf⟩ := wLe_s hf
    refine pR_0_13 X h (hS 0) Nat.one_pos Nat.one_pos lk_X11_186 e7 dX11_force_24 (fun H locs h => ?_)
    refine lv_iload_n X.x X.b dX11_force_27 rfl (lv_at hl 0 rfl) ?_
    cases (Option.some.inj hf).trans JR
    exact ro_iret X h dX11_force_28
  · have hf := wT c3 hf
    refine lv_bipush (v := (-2)) X.x X.b dX11_force_14 (by decide) ?_
    cases (Option.some.inj hf).trans JR
    exact ro_iret X h dX11_force_16
set_option maxHeartbeats 4000000 in
set_option maxRecDepth 20000 in
theorem wX11_bagsTo_b56 {k : En} {S : Nat → Prop} (hS : ∀ t, S t) {g0 : Mm} {a1 : Int32} {res : Int32} (X : Cx YR S k p s m args meth c cX11_bagsTo 4 (some .int) RX11) {x3 : Int32} {z0 : Int32} {z1 : Int32} {H : Heap} {locs : List Loc} {ls : Array Slot} (h : Hx YR S k s g0 H locs) (hl : lv_has ls 4 [(0, .ref (k.1 + adR 0 0 0)), (1, .int a1), (3, .int x3)]) {r : (Int32 × Int32) ⊕ (Int32)} (hf : fX11_bagsTo_b56 g0 a1 x3 z0 z1 = some r) (J1 : ∀ (x2 : Int32) (x3 : Int32), r = .inl (x2, x3) → ∀ (H : Heap) (locs : List Loc) (ls : Array Slot), Hx YR S k s g0 H locs → lv_has ls 4 [(0, .ref (k.1 + adR 0 0 0)), (1, .int a1), (2, .int x2), (3, .int x3)] → W p l e (RmN 0 0) s m args below meth c H locs 0 0 (Fin YR S k args s below (some (.int res)) g0) (F0 m 4 ls [])) (JR : ∀ t1, r = .inr t1 → t1 = res) :
    W p l e (RmN 0 0) s m args below meth c H locs 0 0 (Fin YR S k args s below (some (.int res)) g0) (F0 m 56 ls [.int z1, .int z0]) := by
  unfold fX11_bagsTo_b56 at hf
  refine lv_iadd X.x X.b dX11_bagsTo_56 ?_
  obtain ⟨y10, e11, hf⟩ := wLe_s hf
  refine lv_nmi e11 ?_
  refine lv_istore_n (lv' := [(2, .int y10), (0, .ref (k.1 + adR 0 0 0)), (1, .int a1), (3, .int x3)]) X.x X.b dX11_bagsTo_57 rfl hl (by decide) rfl (fun ls hl => ?_)
  obtain ⟨y12, e13, hf⟩ := wLe_s hf
  refine lv_iinc (v := y12) (lv' := [(3, .int y12), (2, .int y10), (0, .ref (k.1 + adR 0 0 0)), (1, .int a1)]) X.x X.b dX11_bagsTo_58 hl (k := 3) rfl (by rw [e13]; rfl) (by decide) rfl (fun ls hl => ?_)
  refine lv_goto (tgt := 4) X.x X.b dX11_bagsTo_61 (by decide) ?_
  exact J1 _ _ (Option.some.inj hf).symm _ _ _ h (lv_sub hl [2, 3, 1, 0] rfl)
set_option maxHeartbeats 4000000 in
set_option maxRecDepth 20000 in
theorem wX11_bagsTo_b55 {k : En} {S : Nat → Prop} (hS : ∀ t, S t) {g0 : Mm} {a1 : Int32} {res : Int32} (X : Cx YR S k p s m args meth c cX11_bagsTo 4 (some .int) RX11) {x3 : Int32} {z0 : Int32} {H : Heap} {locs : List Loc} {ls : Array Slot} (h : Hx YR S k s g0 H locs) (hl : lv_has ls 4 [(0, .ref (k.1 + adR 0 0 0)), (1, .int a1), (3, .int x3)]) {r : (Int32 × Int32) ⊕ (Int32)} (hf : fX11_bagsTo_b55 g0 a1 x3 z0 = some r) (J1 : ∀ (x2 : Int32) (x3 : Int32), r = .inl (x2, x3) → ∀ (H : Heap) (locs : List Loc) (ls : Array Slot), Hx YR S k s g0 H locs → lv_has ls 4 [(0, .ref (k.1 + adR 0 0 0)), (1, .int a1), (2, .int x2), (3, .int x3)] → W p l e (RmN 0 0) s m args below meth c H locs 0 0 (Fin YR S k args s below (some (.int res)) g0) (F0 m 4 ls [])) (JR : ∀ t1, r = .inr t1 → t1 = res) :
    W p l e (RmN 0 0) s m args below meth c H locs 0 0 (Fin YR S k args s below (some (.int res)) g0) (F0 m 55 ls [.int z0]) := by
  unfold fX11_bagsTo_b55 at hf
  refine lv_iconst (v := 0) X.x X.b dX11_bagsTo_55 (by decide) ?_
  exact wX11_bagsTo_b56 hS X h (lv_sub hl [0, 1, 2] rfl) hf J1 JR
set_option maxHeartbeats 4000000 in
set_option maxRecDepth 20000 in
theorem wX11_bagsTo_L4 {k : En} {S : Nat → Prop} (hS : ∀ t, S t) {g0 : Mm} {a1 : Int32} {res : Int32} (X : Cx YR S k p s m args meth c cX11_bagsTo 4 (some .int) RX11) {r : Int32} (JR : r = res) :
    ∀ (fu : Nat) (x2 : Int32) (x3 : Int32) (H : Heap) (locs : List Loc) (ls : Array Slot), Hx YR S k s g0 H locs → lv_has ls 4 [(0, .ref (k.1 + adR 0 0 0)), (1, .int a1), (2, .int x2), (3, .int x3)] → wLp (fun q => fX11_bagsTo_B4 g0 a1 q.1 q.2) fu (x2, x3) = some r → W p l e (RmN 0 0) s m args below meth c H locs 0 0 (Fin YR S k args s below (some (.int res)) g0) (F0 m 4 ls []) := by
  intro fu
  induction fu with
  | zero => intro x2 x3 H locs ls h hl hf; exact (wLp_0 hf).elim
  | succ fu ih1 =>
    intro x2 x3 H locs ls h hl hf
    obtain ⟨r1, hf, hr⟩ := wLp_s hf
    have J1n : ∀ (x2 : Int32) (x3 : Int32), r1 = .inl (x2, x3) → ∀ (H : Heap) (locs : List Loc) (ls : Array Slot), Hx YR S k s g0 H locs → lv_has ls 4 [(0, .ref (k.1 + adR 0 0 0)), (1, .int a1), (2, .int x2), (3, .int x3)] → W p l e (RmN 0 0) s m args below meth c H locs 0 0 (Fin YR S k args s below (some (.int res)) g0) (F0 m 4 ls []) := fun x2 x3 q H locs ls h hl => by subst q; exact ih1 _ _ _ _ _ h hl hr
    have JRn : ∀ t1, r1 = .inr t1 → t1 = res := fun t1 q => by subst q; obtain rfl := Option.some.inj hr; exact JR
    have J1 := J1n
    have JR := JRn
    clear J1n JRn
    have hf : fX11_bagsTo_B4 g0 a1 x2 x3 = some r1 := hf
    unfold fX11_bagsTo_B4 at hf
    refine lv_iload_n X.x X.b dX11_bagsTo_4 rfl (lv_at hl 3 rfl) ?_
    refine lv_aload_n X.x X.b dX11_bagsTo_5 rfl (lv_at hl 0 rfl) ?_
    refine gR_0_2 X h (hS 0) Nat.one_pos Nat.one_pos lk_X11_124 dX11_bagsTo_6 ?_
    refine lv_icmp_ge (tgt := 64) X.x X.b dX11_bagsTo_9 (by decide) (fun c5 => ?_) (fun c5 => ?_)
    · have hf := wT c5 hf
      obtain ⟨t6, hf, e7⟩ := wEx_s hf
      have JR := JR t6 e7
      refine lv_iload_n X.x X.b dX11_bagsTo_64 rfl (lv_at hl 2 rfl) ?_
      cases (Option.some.inj hf).trans JR
      exact ro_iret X h dX11_bagsTo_65
    · have hf := wF c5 hf
      refine lv_iload_n X.x X.b dX11_bagsTo_12 rfl (lv_at hl 2 rfl) ?_
      refine lv_aload_n X.x X.b dX11_bagsTo_13 rfl (lv_at hl 0 rfl) ?_
      refine gR_0_0 X h (hS 0) Nat.one_pos Nat.one_pos lk_X11_7 dX11_bagsTo_14 ?_
      refine lv_sipush (v := 360) X.x X.b dX11_bagsTo_17 (by decide) ?_
      refine lv_bipush (v := 6) X.x X.b dX11_bagsTo_20 (by decide) ?_
      refine lv_iload_n X.x X.b dX11_bagsTo_22 rfl (lv_at hl 3 rfl) ?_
      refine lv_imul X.x X.b dX11_bagsTo_23 ?_
      refine lv_iadd X.x X.b dX11_bagsTo_24 ?_
      refine lv_iconst (v := 1) X.x X.b dX11_bagsTo_25 (by decide) ?_
      refine lv_iadd X.x X.b dX11_bagsTo_26 ?_
      obtain ⟨b8, hf⟩ := wGi_s hf
      refine aR_1 X h (hS 1) Nat.one_pos Nat.one_pos b8 dX11_bagsTo_27 ?_
      refine lv_iload_n X.x X.b dX11_bagsTo_28 rfl (lv_at hl 1 rfl) ?_
      refine lv_icmp_ne (tgt := 55) X.x X.b dX11_bagsTo_29 (by decide) (fun c9 => ?_) (fun c9 => ?_)
      · have hf := wF c9 hf
        exact wX11_bagsTo_b55 hS X h (lv_sub hl [0, 1, 3] rfl) hf J1 JR
      · have hf := wT c9 hf
        refine lv_aload_n X.x X.b dX11_bagsTo_32 rfl (lv_at hl 0 rfl) ?_
        refine gR_0_0 X h (hS 0) Nat.one_pos Nat.one_pos lk_X11_7 dX11_bagsTo_33 ?_
        refine lv_sipush (v := 360) X.x X.b dX11_bagsTo_36 (by decide) ?_
        refine lv_bipush (v := 6) X.x X.b dX11_bagsTo_39 (by decide) ?_
        refine lv_iload_n X.x X.b dX11_bagsTo_41 rfl (lv_at hl 3 rfl) ?_
        refine lv_imul X.x X.b dX11_bagsTo_42 ?_
        refine lv_iadd X.x X.b dX11_bagsTo_43 ?_
        refine lv_iconst (v := 4) X.x X.b dX11_bagsTo_44 (by decide) ?_
        refine lv_iadd X.x X.b dX11_bagsTo_45 ?_
        obtain ⟨b14, hf⟩ := wGi_s hf
        refine aR_1 X h (hS 1) Nat.one_pos Nat.one_pos b14 dX11_bagsTo_46 ?_
        refine lv_iconst (v := 1) X.x X.b dX11_bagsTo_47 (by decide) ?_
        refine lv_icmp_gt (tgt := 55) X.x X.b dX11_bagsTo_48 (by decide) (fun c15 => ?_) (fun c15 => ?_)
        · have hf := wT c15 hf
          exact wX11_bagsTo_b55 hS X h (lv_sub hl [0, 1, 3] rfl) hf J1 JR
        · have hf := wF c15 hf
          refine lv_iconst (v := 1) X.x X.b dX11_bagsTo_51 (by decide) ?_
          refine lv_goto (tgt := 56) X.x X.b dX11_bagsTo_52 (by decide) ?_
          exact wX11_bagsTo_b56 hS X h (lv_sub hl [0, 1, 3] rfl) hf J1 JR
set_option maxHeartbeats 4000000 in
set_option maxRecDepth 20000 in
theorem kX11_bagsTo (l : Launch) {k : En} {S : Nat → Prop} (hS : ∀ t, S t) {g0 : Mm} {a1 : Int32} {res : Int32} (hf : fX11_bagsTo g0 a1 = some res) : Mt l yX11_bagsTo cX11_bagsTo 4 (some .int) (RmN 0 0) YR S k [.ref (k.1 + adR 0 0 0), .int a1] g0 (some (.int res)) g0 := by
  refine Mt.of (by decide) (Nat.le_of_ble_eq_true rfl) ?_
  intro p e s m args below meth c ls X _ h hl
  have X : Cx YR S k p s m args meth c cX11_bagsTo 4 (some .int) RX11 := X
  have hl : lv_has ls 4 [(0, .ref (k.1 + adR 0 0 0)), (1, .int a1)] := hl
  have JR : res = res := rfl
  unfold fX11_bagsTo at hf
  refine lv_iconst (v := 0) X.x X.b dX11_bagsTo_0 (by decide) ?_
  obtain ⟨y1, e2, hf⟩ := wLe_s hf
  refine lv_nmi e2 ?_
  refine lv_istore_n (lv' := [(2, .int y1), (0, .ref (k.1 + adR 0 0 0)), (1, .int a1)]) X.x X.b dX11_bagsTo_1 rfl hl (by decide) rfl (fun ls hl => ?_)
  refine lv_iconst (v := 0) X.x X.b dX11_bagsTo_2 (by decide) ?_
  obtain ⟨y3, e4, hf⟩ := wLe_s hf
  refine lv_nmi e4 ?_
  refine lv_istore_n (lv' := [(3, .int y3), (2, .int y1), (0, .ref (k.1 + adR 0 0 0)), (1, .int a1)]) X.x X.b dX11_bagsTo_3 rfl hl (by decide) rfl (fun ls hl => ?_)
  exact wX11_bagsTo_L4 hS X JR _ _ _ _ _ _ h (lv_sub hl [2, 3, 1, 0] rfl) hf
set_option maxHeartbeats 4000000 in
set_option maxRecDepth 20000 in
theorem kX11_named (l : Launch) {k : En} {S : Nat → Prop} (hS : ∀ t, S t) {g0 : Mm} {a1 : Int32} {a2 : Int32} {a3 : Int32} {res : Int32} (hf : fX11_named g0 a1 a2 a3 = some res) : Mt l yX11_named cX11_named 4 (some .int) (RmN 3 64) YR S k [.ref (k.1 + adR 0 0 0), .int a1, .int a2, .int a3] g0 (some (.int res)) g0 := by
  refine Mt.of (by decide) (Nat.le_of_ble_eq_true rfl) ?_
  intro p e s m args below meth c ls X _ h hl
  have X : Cx YR S k p s m args meth c cX11_named 4 (some .int) RX11 := X
  have hl : lv_has ls 4 [(0, .ref (k.1 + adR 0 0 0)), (1, .int a1), (2, .int a2), (3, .int a3)] := hl
  have JR : res = res := rfl
  unfold fX11_named at hf
  refine lv_iload_n X.x X.b dX11_named_0 rfl (lv_at hl 1 rfl) ?_
  by_cases c1 : a1 = (0 : Int32)
  · have hf := wT c1 hf
    refine lv_tableIn (off := 43) (tgt := 44) X.x X.b dX11_named_1 (by rw [c1]; decide) (by rw [c1]; decide) (by rw [c1]; rfl) (by decide) ?_
    refine lv_aload_n X.x X.b dX11_named_44 rfl (lv_at hl 0 rfl) ?_
    refine lv_iload_n X.x X.b dX11_named_45 rfl (lv_at hl 2 rfl) ?_
    refine lv_bipush (v := 6) X.x X.b dX11_named_46 (by decide) ?_
    obtain ⟨y3, e2, hf⟩ := wBd_s hf
    refine ro_callvI (As := [.int a2, .int (6 : Int32)]) (g1 := g0) (x := y3) X h (kX11_of l hS e2) mv_X11_of lk_X11_106 ⟨rfl, rfl⟩ ⟨(Nat.le_of_ble_eq_true rfl), (Nat.le_of_ble_eq_true rfl)⟩ (rR_0 X h (hS 0) Nat.one_pos Nat.one_pos) rfl hl rfl (Nat.le_of_ble_eq_true rfl) ⟨Nat.zero_le _, Nat.zero_le _⟩ dX11_named_48 (fun H locs h => ?_)
    refine lv_iconst (v := 1) X.x X.b dX11_named_51 (by decide) ?_
    refine lv_icmp_ne (tgt := 59) X.x X.b dX11_named_52 (by decide) (fun c4 => ?_) (fun c4 => ?_)
    · have hf := wF c4 hf
      refine lv_iconst (v := 0) X.x X.b dX11_named_59 (by decide) ?_
      cases (Option.some.inj hf).trans JR
      exact ro_iret X h dX11_named_60
    · have hf := wT c4 hf
      refine lv_iconst (v := 1) X.x X.b dX11_named_55 (by decide) ?_
      refine lv_goto (tgt := 60) X.x X.b dX11_named_56 (by decide) ?_
      cases (Option.some.inj hf).trans JR
      exact ro_iret X h dX11_named_60
  · have hf := wF c1 hf
    by_cases c5 : a1 = (1 : Int32)
    · have hf := wT c5 hf
      refine lv_tableIn (off := 60) (tgt := 61) X.x X.b dX11_named_1 (by rw [c5]; decide) (by rw [c5]; decide) (by rw [c5]; rfl) (by decide) ?_
      refine lv_aload_n X.x X.b dX11_named_61 rfl (lv_at hl 0 rfl) ?_
      refine gR_0_0 X h (hS 0) Nat.one_pos Nat.one_pos lk_X11_7 dX11_named_62 ?_
      refine lv_sipush (v := 480) X.x X.b dX11_named_65 (by decide) ?_
      obtain ⟨b6, hf⟩ := wGi_s hf
      refine aR_1 X h (hS 1) Nat.one_pos Nat.one_pos b6 dX11_named_68 ?_
      refine lv_aload_n X.x X.b dX11_named_69 rfl (lv_at hl 0 rfl) ?_
      refine lv_iload_n X.x X.b dX11_named_70 rfl (lv_at hl 2 rfl) ?_
      refine lv_iconst (v := 2) X.x X.b dX11_named_71 (by decide) ?_
      obtain ⟨y8, e7, hf⟩ := wBd_s hf
      refine ro_callvI (As := [.int a2, .int (2 : Int32)]) (g1 := g0) (x := y8) X h (kX11_of l hS e7) mv_X11_of lk_X11_106 ⟨rfl, rfl⟩ ⟨(Nat.le_of_ble_eq_true rfl), (Nat.le_of_ble_eq_true rfl)⟩ (rR_0 X h (hS 0) Nat.one_pos Nat.one_pos) rfl hl rfl (Nat.le_of_ble_eq_true rfl) ⟨Nat.zero_le _, Nat.zero_le _⟩ dX11_named_72 (fun H locs h => ?_)
      refine lv_icmp_le (tgt := 96) X.x X.b dX11_named_75 (by decide) (fun c9 => ?_) (fun c9 => ?_)
      · have hf := wT c9 hf
        refine lv_iconst (v := 0) X.x X.b dX11_named_96 (by decide) ?_
        cases (Option.some.inj hf).trans JR
        exact ro_iret X h dX11_named_97
      · have hf := wF c9 hf
        refine lv_aload_n X.x X.b dX11_named_78 rfl (lv_at hl 0 rfl) ?_
        refine gR_0_0 X h (hS 0) Nat.one_pos Nat.one_pos lk_X11_7 dX11_named_79 ?_
        refine lv_sipush (v := 480) X.x X.b dX11_named_82 (by decide) ?_
        obtain ⟨b10, hf⟩ := wGi_s hf
        refine aR_1 X h (hS 1) Nat.one_pos Nat.one_pos b10 dX11_named_85 ?_
        refine lv_aload_n X.x X.b dX11_named_86 rfl (lv_at hl 0 rfl) ?_
        refine lv_iload_n X.x X.b dX11_named_87 rfl (lv_at hl 2 rfl) ?_
        refine lv_iconst (v := 2) X.x X.b dX11_named_88 (by decide) ?_
        obtain ⟨y12, e11, hf⟩ := wBd_s hf
        refine ro_callvI (As := [.int a2, .int (2 : Int32)]) (g1 := g0) (x := y12) X h (kX11_of l hS e11) mv_X11_of lk_X11_106 ⟨rfl, rfl⟩ ⟨(Nat.le_of_ble_eq_true rfl), (Nat.le_of_ble_eq_true rfl)⟩ (rR_0 X h (hS 0) Nat.one_pos Nat.one_pos) rfl hl rfl (Nat.le_of_ble_eq_true rfl) ⟨Nat.zero_le _, Nat.zero_le _⟩ dX11_named_89 (fun H locs h => ?_)
        refine lv_isub X.x X.b dX11_named_92 ?_
        refine lv_goto (tgt := 97) X.x X.b dX11_named_93 (by decide) ?_
        cases (Option.some.inj hf).trans JR
        exact ro_iret X h dX11_named_97
    · have hf := wF c5 hf
      by_cases c13 : a1 = (2 : Int32)
      · have hf := wT c13 hf
        refine lv_tableIn (off := 97) (tgt := 98) X.x X.b dX11_named_1 (by rw [c13]; decide) (by rw [c13]; decide) (by rw [c13]; rfl) (by decide) ?_
        refine lv_aload_n X.x X.b dX11_named_98 rfl (lv_at hl 0 rfl) ?_
        refine lv_iload_n X.x X.b dX11_named_99 rfl (lv_at hl 2 rfl) ?_
        refine lv_iconst (v := 0) X.x X.b dX11_named_100 (by decide) ?_
        obtain ⟨y15, e14, hf⟩ := wBd_s hf
        refine ro_callvI (As := [.int a2, .int (0 : Int32)]) (g1 := g0) (x := y15) X h (kX11_of l hS e14) mv_X11_of lk_X11_106 ⟨rfl, rfl⟩ ⟨(Nat.le_of_ble_eq_true rfl), (Nat.le_of_ble_eq_true rfl)⟩ (rR_0 X h (hS 0) Nat.one_pos Nat.one_pos) rfl hl rfl (Nat.le_of_ble_eq_true rfl) ⟨Nat.zero_le _, Nat.zero_le _⟩ dX11_named_101 (fun H locs h => ?_)
        cases (Option.some.inj hf).trans JR
        exact ro_iret X h dX11_named_104
      · have hf := wF c13 hf
        by_cases c16 : a1 = (3 : Int32)
        · have hf := wT c16 hf
          refine lv_tableIn (off := 104) (tgt := 105) X.x X.b dX11_named_1 (by rw [c16]; decide) (by rw [c16]; decide) (by rw [c16]; rfl) (by decide) ?_
          refine lv_aload_n X.x X.b dX11_named_105 rfl (lv_at hl 0 rfl) ?_
          refine gR_0_0 X h (hS 0) Nat.one_pos Nat.one_pos lk_X11_7 dX11_named_106 ?_
          refine lv_sipush (v := 480) X.x X.b dX11_named_109 (by decide) ?_
          obtain ⟨b17, hf⟩ := wGi_s hf
          refine aR_1 X h (hS 1) Nat.one_pos Nat.one_pos b17 dX11_named_112 ?_
          refine lv_aload_n X.x X.b dX11_named_113 rfl (lv_at hl 0 rfl) ?_
          refine lv_iload_n X.x X.b dX11_named_114 rfl (lv_at hl 2 rfl) ?_
          refine lv_bipush (v := 7) X.x X.b dX11_named_115 (by decide) ?_
          obtain ⟨y19, e18, hf⟩ := wBd_s hf
          refine ro_callvI (As := [.int a2, .int (7 : Int32)]) (g1 := g0) (x := y19) X h (kX11_of l hS e18) mv_X11_of lk_X11_106 ⟨rfl, rfl⟩ ⟨(Nat.le_of_ble_eq_true rfl), (Nat.le_of_ble_eq_true rfl)⟩ (rR_0 X h (hS 0) Nat.one_pos Nat.one_pos) rfl hl rfl (Nat.le_of_ble_eq_true rfl) ⟨Nat.zero_le _, Nat.zero_le _⟩ dX11_named_117 (fun H locs h => ?_)
          refine lv_isub X.x X.b dX11_named_120 ?_
          cases (Option.some.inj hf).trans JR
          exact ro_iret X h dX11_named_121
        · have hf := wF c16 hf
          by_cases c20 : a1 = (4 : Int32)
          · have hf := wT c20 hf
            refine lv_tableIn (off := 121) (tgt := 122) X.x X.b dX11_named_1 (by rw [c20]; decide) (by rw [c20]; decide) (by rw [c20]; rfl) (by decide) ?_
            refine lv_iload_n X.x X.b dX11_named_122 rfl (lv_at hl 3 rfl) ?_
            cases (Option.some.inj hf).trans JR
            exact ro_iret X h dX11_named_123
          · have hf := wF c20 hf
            by_cases c21 : a1 = (5 : Int32)
            · have hf := wT c21 hf
              refine lv_tableIn (off := 123) (tgt := 124) X.x X.b dX11_named_1 (by rw [c21]; decide) (by rw [c21]; decide) (by rw [c21]; rfl) (by decide) ?_
              refine lv_aload_n X.x X.b dX11_named_124 rfl (lv_at hl 0 rfl) ?_
              refine gR_0_0 X h (hS 0) Nat.one_pos Nat.one_pos lk_X11_7 dX11_named_125 ?_
              refine lv_sipush (v := 481) X.x X.b dX11_named_128 (by decide) ?_
              obtain ⟨b22, hf⟩ := wGi_s hf
              refine aR_1 X h (hS 1) Nat.one_pos Nat.one_pos b22 dX11_named_131 ?_
              cases (Option.some.inj hf).trans JR
              exact ro_iret X h dX11_named_132
            · have hf := wF c21 hf
              by_cases c23 : a1 = (6 : Int32)
              · have hf := wT c23 hf
                refine lv_tableIn (off := 132) (tgt := 133) X.x X.b dX11_named_1 (by rw [c23]; decide) (by rw [c23]; decide) (by rw [c23]; rfl) (by decide) ?_
                refine lv_aload_n X.x X.b dX11_named_133 rfl (lv_at hl 0 rfl) ?_
                refine lv_iload_n X.x X.b dX11_named_134 rfl (lv_at hl 2 rfl) ?_
                obtain ⟨y25, e24, hf⟩ := wBd_s hf
                refine ro_callvI (As := [.int a2]) (g1 := g0) (x := y25) X h (kX11_bagsTo l hS e24) mv_X11_bagsTo lk_X11_189 ⟨rfl, rfl⟩ ⟨(Nat.le_of_ble_eq_true rfl), (Nat.le_of_ble_eq_true rfl)⟩ (rR_0 X h (hS 0) Nat.one_pos Nat.one_pos) rfl hl rfl (Nat.le_of_ble_eq_true rfl) ⟨Nat.zero_le _, Nat.zero_le _⟩ dX11_named_135 (fun H locs h => ?_)
                cases (Option.some.inj hf).trans JR
                exact ro_iret X h dX11_named_138
              · have hf := wF c23 hf
                refine lv_tableOut (tgt := 139) X.x X.b dX11_named_1 (by have q0 := lv_neT c1 (a := 0) rfl; have q1 := lv_neT c5 (a := 1) rfl; have q2 := lv_neT c13 (a := 2) rfl; have q3 := lv_neT c16 (a := 3) rfl; have q4 := lv_neT c20 (a := 4) rfl; have q5 := lv_neT c21 (a := 5) rfl; have q6 := lv_neT c23 (a := 6) rfl; omega) (by decide) ?_
                refine lv_aload_n X.x X.b dX11_named_139 rfl (lv_at hl 0 rfl) ?_
                refine lv_iload_n X.x X.b dX11_named_140 rfl (lv_at hl 2 rfl) ?_
                obtain ⟨y27, e26, hf⟩ := wBd_s hf
                refine ro_callvI (As := [.int a2]) (g1 := g0) (x := y27) X h (kX11_limit l hS e26) mv_X11_limit lk_X11_192 ⟨rfl, rfl⟩ ⟨(Nat.le_of_ble_eq_true rfl), (Nat.le_of_ble_eq_true rfl)⟩ (rR_0 X h (hS 0) Nat.one_pos Nat.one_pos) rfl hl rfl (Nat.le_of_ble_eq_true rfl) ⟨Nat.zero_le _, Nat.zero_le _⟩ dX11_named_141 (fun H locs h => ?_)
                refine lv_aload_n X.x X.b dX11_named_144 rfl (lv_at hl 0 rfl) ?_
                refine gR_0_0 X h (hS 0) Nat.one_pos Nat.one_pos lk_X11_7 dX11_named_145 ?_
                refine lv_sipush (v := 480) X.x X.b dX11_named_148 (by decide) ?_
                obtain ⟨b28, hf⟩ := wGi_s hf
                refine aR_1 X h (hS 1) Nat.one_pos Nat.one_pos b28 dX11_named_151 ?_
                refine lv_isub X.x X.b dX11_named_152 ?_
                cases (Option.some.inj hf).trans JR
                exact ro_iret X h dX11_named_153
end WK
