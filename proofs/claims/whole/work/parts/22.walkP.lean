theorem dX4_become_0 : decode cX4_become 0 = .ok (.aload_n 0, 1) := by decide +kernel
theorem dX4_become_1 : decode cX4_become 1 = .ok (.aload_n 1, 1) := by decide +kernel
theorem dX4_become_2 : decode cX4_become 2 = .ok (.getfield 55, 3) := by decide +kernel
theorem dX4_become_5 : decode cX4_become 5 = .ok (.putfield 55, 3) := by decide +kernel
theorem dX4_become_8 : decode cX4_become 8 = .ok (.aload_n 0, 1) := by decide +kernel
theorem dX4_become_9 : decode cX4_become 9 = .ok (.aload_n 1, 1) := by decide +kernel
theorem dX4_become_10 : decode cX4_become 10 = .ok (.getfield 59, 3) := by decide +kernel
theorem dX4_become_13 : decode cX4_become 13 = .ok (.putfield 59, 3) := by decide +kernel
theorem dX4_become_16 : decode cX4_become 16 = .ok (.aload_n 0, 1) := by decide +kernel
theorem dX4_become_17 : decode cX4_become 17 = .ok (.aload_n 1, 1) := by decide +kernel
theorem dX4_become_18 : decode cX4_become 18 = .ok (.getfield 62, 3) := by decide +kernel
theorem dX4_become_21 : decode cX4_become 21 = .ok (.putfield 62, 3) := by decide +kernel
theorem dX4_become_24 : decode cX4_become 24 = .ok (.aload_n 0, 1) := by decide +kernel
theorem dX4_become_25 : decode cX4_become 25 = .ok (.aload_n 1, 1) := by decide +kernel
theorem dX4_become_26 : decode cX4_become 26 = .ok (.getfield 65, 3) := by decide +kernel
theorem dX4_become_29 : decode cX4_become 29 = .ok (.putfield 65, 3) := by decide +kernel
theorem dX4_become_32 : decode cX4_become 32 = .ok (.aload_n 0, 1) := by decide +kernel
theorem dX4_become_33 : decode cX4_become 33 = .ok (.aload_n 1, 1) := by decide +kernel
theorem dX4_become_34 : decode cX4_become 34 = .ok (.getfield 49, 3) := by decide +kernel
theorem dX4_become_37 : decode cX4_become 37 = .ok (.putfield 49, 3) := by decide +kernel
theorem dX4_become_40 : decode cX4_become 40 = .ok (.aload_n 1, 1) := by decide +kernel
theorem dX4_become_41 : decode cX4_become 41 = .ok (.getfield 11, 3) := by decide +kernel
theorem dX4_become_44 : decode cX4_become 44 = .ok (.iconst 0, 1) := by decide +kernel
theorem dX4_become_45 : decode cX4_become 45 = .ok (.aload_n 0, 1) := by decide +kernel
theorem dX4_become_46 : decode cX4_become 46 = .ok (.getfield 11, 3) := by decide +kernel
theorem dX4_become_49 : decode cX4_become 49 = .ok (.iconst 0, 1) := by decide +kernel
theorem dX4_become_50 : decode cX4_become 50 = .ok (.bipush 9, 2) := by decide +kernel
theorem dX4_become_52 : decode cX4_become 52 = .ok (.invokestatic 68, 3) := by decide +kernel
theorem dX4_become_55 : decode cX4_become 55 = .ok (.aload_n 1, 1) := by decide +kernel
theorem dX4_become_56 : decode cX4_become 56 = .ok (.getfield 17, 3) := by decide +kernel
theorem dX4_become_59 : decode cX4_become 59 = .ok (.iconst 0, 1) := by decide +kernel
theorem dX4_become_60 : decode cX4_become 60 = .ok (.aload_n 0, 1) := by decide +kernel
theorem dX4_become_61 : decode cX4_become 61 = .ok (.getfield 17, 3) := by decide +kernel
theorem dX4_become_64 : decode cX4_become 64 = .ok (.iconst 0, 1) := by decide +kernel
theorem dX4_become_65 : decode cX4_become 65 = .ok (.iconst 5, 1) := by decide +kernel
theorem dX4_become_66 : decode cX4_become 66 = .ok (.invokestatic 68, 3) := by decide +kernel
theorem dX4_become_69 : decode cX4_become 69 = .ok (.aload_n 1, 1) := by decide +kernel
theorem dX4_become_70 : decode cX4_become 70 = .ok (.getfield 20, 3) := by decide +kernel
theorem dX4_become_73 : decode cX4_become 73 = .ok (.iconst 0, 1) := by decide +kernel
theorem dX4_become_74 : decode cX4_become 74 = .ok (.aload_n 0, 1) := by decide +kernel
theorem dX4_become_75 : decode cX4_become 75 = .ok (.getfield 20, 3) := by decide +kernel
theorem dX4_become_78 : decode cX4_become 78 = .ok (.iconst 0, 1) := by decide +kernel
theorem dX4_become_79 : decode cX4_become 79 = .ok (.bipush 6, 2) := by decide +kernel
theorem dX4_become_81 : decode cX4_become 81 = .ok (.invokestatic 68, 3) := by decide +kernel
theorem dX4_become_84 : decode cX4_become 84 = .ok (.aload_n 1, 1) := by decide +kernel
theorem dX4_become_85 : decode cX4_become 85 = .ok (.getfield 23, 3) := by decide +kernel
theorem dX4_become_88 : decode cX4_become 88 = .ok (.iconst 0, 1) := by decide +kernel
theorem dX4_become_89 : decode cX4_become 89 = .ok (.aload_n 0, 1) := by decide +kernel
theorem dX4_become_90 : decode cX4_become 90 = .ok (.getfield 23, 3) := by decide +kernel
theorem dX4_become_93 : decode cX4_become 93 = .ok (.iconst 0, 1) := by decide +kernel
theorem dX4_become_94 : decode cX4_become 94 = .ok (.bipush 6, 2) := by decide +kernel
theorem dX4_become_96 : decode cX4_become 96 = .ok (.invokestatic 68, 3) := by decide +kernel
theorem dX4_become_99 : decode cX4_become 99 = .ok (.aload_n 1, 1) := by decide +kernel
theorem dX4_become_100 : decode cX4_become 100 = .ok (.getfield 26, 3) := by decide +kernel
theorem dX4_become_103 : decode cX4_become 103 = .ok (.iconst 0, 1) := by decide +kernel
theorem dX4_become_104 : decode cX4_become 104 = .ok (.aload_n 0, 1) := by decide +kernel
theorem dX4_become_105 : decode cX4_become 105 = .ok (.getfield 26, 3) := by decide +kernel
theorem dX4_become_108 : decode cX4_become 108 = .ok (.iconst 0, 1) := by decide +kernel
theorem dX4_become_109 : decode cX4_become 109 = .ok (.iconst 2, 1) := by decide +kernel
theorem dX4_become_110 : decode cX4_become 110 = .ok (.invokestatic 68, 3) := by decide +kernel
theorem dX4_become_113 : decode cX4_become 113 = .ok (.aload_n 1, 1) := by decide +kernel
theorem dX4_become_114 : decode cX4_become 114 = .ok (.getfield 29, 3) := by decide +kernel
theorem dX4_become_117 : decode cX4_become 117 = .ok (.iconst 0, 1) := by decide +kernel
theorem dX4_become_118 : decode cX4_become 118 = .ok (.aload_n 0, 1) := by decide +kernel
theorem dX4_become_119 : decode cX4_become 119 = .ok (.getfield 29, 3) := by decide +kernel
theorem dX4_become_122 : decode cX4_become 122 = .ok (.iconst 0, 1) := by decide +kernel
theorem dX4_become_123 : decode cX4_become 123 = .ok (.iconst 2, 1) := by decide +kernel
theorem dX4_become_124 : decode cX4_become 124 = .ok (.invokestatic 68, 3) := by decide +kernel
theorem dX4_become_127 : decode cX4_become 127 = .ok (.iconst 0, 1) := by decide +kernel
theorem dX4_become_128 : decode cX4_become 128 = .ok (.istore_n 2, 1) := by decide +kernel
theorem dX4_become_129 : decode cX4_become 129 = .ok (.iload_n 2, 1) := by decide +kernel
theorem dX4_become_130 : decode cX4_become 130 = .ok (.aload_n 0, 1) := by decide +kernel
theorem dX4_become_131 : decode cX4_become 131 = .ok (.getfield 62, 3) := by decide +kernel
theorem dX4_become_134 : decode cX4_become 134 = .ok (.if_icmp .ge 24, 3) := by decide +kernel
theorem dX4_become_137 : decode cX4_become 137 = .ok (.aload_n 0, 1) := by decide +kernel
theorem dX4_become_138 : decode cX4_become 138 = .ok (.getfield 34, 3) := by decide +kernel
theorem dX4_become_141 : decode cX4_become 141 = .ok (.iload_n 2, 1) := by decide +kernel
theorem dX4_become_142 : decode cX4_become 142 = .ok (.aaload, 1) := by decide +kernel
theorem dX4_become_143 : decode cX4_become 143 = .ok (.aload_n 1, 1) := by decide +kernel
theorem dX4_become_144 : decode cX4_become 144 = .ok (.getfield 34, 3) := by decide +kernel
theorem dX4_become_147 : decode cX4_become 147 = .ok (.iload_n 2, 1) := by decide +kernel
theorem dX4_become_148 : decode cX4_become 148 = .ok (.aaload, 1) := by decide +kernel
theorem dX4_become_149 : decode cX4_become 149 = .ok (.invokevirtual 74, 3) := by decide +kernel
theorem dX4_become_152 : decode cX4_become 152 = .ok (.iinc 2 1, 3) := by decide +kernel
theorem dX4_become_155 : decode cX4_become 155 = .ok (.goto (-26), 3) := by decide +kernel
theorem dX4_become_158 : decode cX4_become 158 = .ok (.iconst 0, 1) := by decide +kernel
theorem dX4_become_159 : decode cX4_become 159 = .ok (.istore_n 2, 1) := by decide +kernel
theorem dX4_become_160 : decode cX4_become 160 = .ok (.iload_n 2, 1) := by decide +kernel
theorem dX4_become_161 : decode cX4_become 161 = .ok (.aload_n 0, 1) := by decide +kernel
theorem dX4_become_162 : decode cX4_become 162 = .ok (.getfield 65, 3) := by decide +kernel
theorem dX4_become_165 : decode cX4_become 165 = .ok (.if_icmp .ge 24, 3) := by decide +kernel
theorem dX4_become_168 : decode cX4_become 168 = .ok (.aload_n 0, 1) := by decide +kernel
theorem dX4_become_169 : decode cX4_become 169 = .ok (.getfield 40, 3) := by decide +kernel
theorem dX4_become_172 : decode cX4_become 172 = .ok (.iload_n 2, 1) := by decide +kernel
theorem dX4_become_173 : decode cX4_become 173 = .ok (.aaload, 1) := by decide +kernel
theorem dX4_become_174 : decode cX4_become 174 = .ok (.aload_n 1, 1) := by decide +kernel
theorem dX4_become_175 : decode cX4_become 175 = .ok (.getfield 40, 3) := by decide +kernel
theorem dX4_become_178 : decode cX4_become 178 = .ok (.iload_n 2, 1) := by decide +kernel
theorem dX4_become_179 : decode cX4_become 179 = .ok (.aaload, 1) := by decide +kernel
theorem dX4_become_180 : decode cX4_become 180 = .ok (.invokevirtual 78, 3) := by decide +kernel
theorem dX4_become_183 : decode cX4_become 183 = .ok (.iinc 2 1, 3) := by decide +kernel
theorem dX4_become_186 : decode cX4_become 186 = .ok (.goto (-26), 3) := by decide +kernel
theorem dX4_become_189 : decode cX4_become 189 = .ok (.return_, 1) := by decide +kernel
theorem dX4_maySet_0 : decode cX4_maySet 0 = .ok (.iload_n 0, 1) := by decide +kernel
theorem dX4_maySet_1 : decode cX4_maySet 1 = .ok (.ifCond .lt 31, 3) := by decide +kernel
theorem dX4_maySet_4 : decode cX4_maySet 4 = .ok (.iload_n 0, 1) := by decide +kernel
theorem dX4_maySet_5 : decode cX4_maySet 5 = .ok (.bipush 9, 2) := by decide +kernel
theorem dX4_maySet_7 : decode cX4_maySet 7 = .ok (.if_icmp .ge 25, 3) := by decide +kernel
theorem dX4_maySet_10 : decode cX4_maySet 10 = .ok (.iload_n 1, 1) := by decide +kernel
theorem dX4_maySet_11 : decode cX4_maySet 11 = .ok (.getstatic 81, 3) := by decide +kernel
theorem dX4_maySet_14 : decode cX4_maySet 14 = .ok (.iload_n 0, 1) := by decide +kernel
theorem dX4_maySet_15 : decode cX4_maySet 15 = .ok (.iaload, 1) := by decide +kernel
theorem dX4_maySet_16 : decode cX4_maySet 16 = .ok (.if_icmp .lt 16, 3) := by decide +kernel
theorem dX4_maySet_19 : decode cX4_maySet 19 = .ok (.iload_n 1, 1) := by decide +kernel
theorem dX4_maySet_20 : decode cX4_maySet 20 = .ok (.getstatic 84, 3) := by decide +kernel
theorem dX4_maySet_23 : decode cX4_maySet 23 = .ok (.iload_n 0, 1) := by decide +kernel
theorem dX4_maySet_24 : decode cX4_maySet 24 = .ok (.iaload, 1) := by decide +kernel
theorem dX4_maySet_25 : decode cX4_maySet 25 = .ok (.if_icmp .gt 7, 3) := by decide +kernel
theorem dX4_maySet_28 : decode cX4_maySet 28 = .ok (.iconst 1, 1) := by decide +kernel
theorem dX4_maySet_29 : decode cX4_maySet 29 = .ok (.goto 4, 3) := by decide +kernel
theorem dX4_maySet_32 : decode cX4_maySet 32 = .ok (.iconst 0, 1) := by decide +kernel
theorem dX4_maySet_33 : decode cX4_maySet 33 = .ok (.ireturn, 1) := by decide +kernel
theorem dX4_hasVisit_0 : decode cX4_hasVisit 0 = .ok (.iload_n 1, 1) := by decide +kernel
theorem dX4_hasVisit_1 : decode cX4_hasVisit 1 = .ok (.ifCond .lt 15, 3) := by decide +kernel
theorem dX4_hasVisit_4 : decode cX4_hasVisit 4 = .ok (.iload_n 1, 1) := by decide +kernel
theorem dX4_hasVisit_5 : decode cX4_hasVisit 5 = .ok (.aload_n 0, 1) := by decide +kernel
theorem dX4_hasVisit_6 : decode cX4_hasVisit 6 = .ok (.getfield 62, 3) := by decide +kernel
theorem dX4_hasVisit_9 : decode cX4_hasVisit 9 = .ok (.if_icmp .ge 7, 3) := by decide +kernel
theorem dX4_hasVisit_12 : decode cX4_hasVisit 12 = .ok (.iconst 1, 1) := by decide +kernel
theorem dX4_hasVisit_13 : decode cX4_hasVisit 13 = .ok (.goto 4, 3) := by decide +kernel
theorem dX4_hasVisit_16 : decode cX4_hasVisit 16 = .ok (.iconst 0, 1) := by decide +kernel
theorem dX4_hasVisit_17 : decode cX4_hasVisit 17 = .ok (.ireturn, 1) := by decide +kernel
theorem dX4_hasFeed_0 : decode cX4_hasFeed 0 = .ok (.iload_n 1, 1) := by decide +kernel
theorem dX4_hasFeed_1 : decode cX4_hasFeed 1 = .ok (.ifCond .lt 15, 3) := by decide +kernel
theorem dX4_hasFeed_4 : decode cX4_hasFeed 4 = .ok (.iload_n 1, 1) := by decide +kernel
theorem dX4_hasFeed_5 : decode cX4_hasFeed 5 = .ok (.aload_n 0, 1) := by decide +kernel
theorem dX4_hasFeed_6 : decode cX4_hasFeed 6 = .ok (.getfield 65, 3) := by decide +kernel
theorem dX4_hasFeed_9 : decode cX4_hasFeed 9 = .ok (.if_icmp .ge 7, 3) := by decide +kernel
theorem dX4_hasFeed_12 : decode cX4_hasFeed 12 = .ok (.iconst 1, 1) := by decide +kernel
theorem dX4_hasFeed_13 : decode cX4_hasFeed 13 = .ok (.goto 4, 3) := by decide +kernel
theorem dX4_hasFeed_16 : decode cX4_hasFeed 16 = .ok (.iconst 0, 1) := by decide +kernel
theorem dX4_hasFeed_17 : decode cX4_hasFeed 17 = .ok (.ireturn, 1) := by decide +kernel
theorem dX4_hasStand_0 : decode cX4_hasStand 0 = .ok (.iload_n 1, 1) := by decide +kernel
theorem dX4_hasStand_1 : decode cX4_hasStand 1 = .ok (.ifCond .lt 15, 3) := by decide +kernel
theorem dX4_hasStand_4 : decode cX4_hasStand 4 = .ok (.iload_n 1, 1) := by decide +kernel
theorem dX4_hasStand_5 : decode cX4_hasStand 5 = .ok (.aload_n 0, 1) := by decide +kernel
theorem dX4_hasStand_6 : decode cX4_hasStand 6 = .ok (.getfield 59, 3) := by decide +kernel
theorem dX4_hasStand_9 : decode cX4_hasStand 9 = .ok (.if_icmp .ge 7, 3) := by decide +kernel
theorem dX4_hasStand_12 : decode cX4_hasStand 12 = .ok (.iconst 1, 1) := by decide +kernel
theorem dX4_hasStand_13 : decode cX4_hasStand 13 = .ok (.goto 4, 3) := by decide +kernel
theorem dX4_hasStand_16 : decode cX4_hasStand 16 = .ok (.iconst 0, 1) := by decide +kernel
theorem dX4_hasStand_17 : decode cX4_hasStand 17 = .ok (.ireturn, 1) := by decide +kernel
theorem dX4_addStand_0 : decode cX4_addStand 0 = .ok (.aload_n 0, 1) := by decide +kernel
theorem dX4_addStand_1 : decode cX4_addStand 1 = .ok (.getfield 59, 3) := by decide +kernel
theorem dX4_addStand_4 : decode cX4_addStand 4 = .ok (.bipush 6, 2) := by decide +kernel
theorem dX4_addStand_6 : decode cX4_addStand 6 = .ok (.if_icmp .lt 6, 3) := by decide +kernel
theorem dX4_addStand_9 : decode cX4_addStand 9 = .ok (.bipush (-4), 2) := by decide +kernel
theorem dX4_addStand_11 : decode cX4_addStand 11 = .ok (.ireturn, 1) := by decide +kernel
theorem dX4_addStand_12 : decode cX4_addStand 12 = .ok (.aload_n 0, 1) := by decide +kernel
theorem dX4_addStand_13 : decode cX4_addStand 13 = .ok (.getfield 20, 3) := by decide +kernel
theorem dX4_addStand_16 : decode cX4_addStand 16 = .ok (.aload_n 0, 1) := by decide +kernel
theorem dX4_addStand_17 : decode cX4_addStand 17 = .ok (.getfield 59, 3) := by decide +kernel
theorem dX4_addStand_20 : decode cX4_addStand 20 = .ok (.iload_n 1, 1) := by decide +kernel
theorem dX4_addStand_21 : decode cX4_addStand 21 = .ok (.iastore, 1) := by decide +kernel
theorem dX4_addStand_22 : decode cX4_addStand 22 = .ok (.aload_n 0, 1) := by decide +kernel
theorem dX4_addStand_23 : decode cX4_addStand 23 = .ok (.getfield 23, 3) := by decide +kernel
theorem dX4_addStand_26 : decode cX4_addStand 26 = .ok (.aload_n 0, 1) := by decide +kernel
theorem dX4_addStand_27 : decode cX4_addStand 27 = .ok (.getfield 59, 3) := by decide +kernel
theorem dX4_addStand_30 : decode cX4_addStand 30 = .ok (.iconst (-1), 1) := by decide +kernel
theorem dX4_addStand_31 : decode cX4_addStand 31 = .ok (.iastore, 1) := by decide +kernel
theorem dX4_addStand_32 : decode cX4_addStand 32 = .ok (.aload_n 0, 1) := by decide +kernel
theorem dX4_addStand_33 : decode cX4_addStand 33 = .ok (.dup, 1) := by decide +kernel
theorem dX4_addStand_34 : decode cX4_addStand 34 = .ok (.getfield 59, 3) := by decide +kernel
theorem dX4_addStand_37 : decode cX4_addStand 37 = .ok (.dup_x1, 1) := by decide +kernel
theorem dX4_addStand_38 : decode cX4_addStand 38 = .ok (.iconst 1, 1) := by decide +kernel
theorem dX4_addStand_39 : decode cX4_addStand 39 = .ok (.iadd, 1) := by decide +kernel
theorem dX4_addStand_40 : decode cX4_addStand 40 = .ok (.putfield 59, 3) := by decide +kernel
theorem dX4_addStand_43 : decode cX4_addStand 43 = .ok (.ireturn, 1) := by decide +kernel
theorem dX4_addVisit_0 : decode cX4_addVisit 0 = .ok (.aload_n 0, 1) := by decide +kernel
theorem dX4_addVisit_1 : decode cX4_addVisit 1 = .ok (.getfield 62, 3) := by decide +kernel
theorem dX4_addVisit_4 : decode cX4_addVisit 4 = .ok (.bipush 12, 2) := by decide +kernel
theorem dX4_addVisit_6 : decode cX4_addVisit 6 = .ok (.if_icmp .lt 6, 3) := by decide +kernel
theorem dX4_addVisit_9 : decode cX4_addVisit 9 = .ok (.bipush (-4), 2) := by decide +kernel
theorem dX4_addVisit_11 : decode cX4_addVisit 11 = .ok (.ireturn, 1) := by decide +kernel
theorem dX4_addVisit_12 : decode cX4_addVisit 12 = .ok (.aload_n 0, 1) := by decide +kernel
theorem dX4_addVisit_13 : decode cX4_addVisit 13 = .ok (.getfield 34, 3) := by decide +kernel
theorem dX4_addVisit_16 : decode cX4_addVisit 16 = .ok (.aload_n 0, 1) := by decide +kernel
theorem dX4_addVisit_17 : decode cX4_addVisit 17 = .ok (.getfield 62, 3) := by decide +kernel
theorem dX4_addVisit_20 : decode cX4_addVisit 20 = .ok (.aaload, 1) := by decide +kernel
theorem dX4_addVisit_21 : decode cX4_addVisit 21 = .ok (.iload_n 1, 1) := by decide +kernel
theorem dX4_addVisit_22 : decode cX4_addVisit 22 = .ok (.iload_n 2, 1) := by decide +kernel
theorem dX4_addVisit_23 : decode cX4_addVisit 23 = .ok (.iload_n 3, 1) := by decide +kernel
theorem dX4_addVisit_24 : decode cX4_addVisit 24 = .ok (.iload 4, 2) := by decide +kernel
theorem dX4_addVisit_26 : decode cX4_addVisit 26 = .ok (.aload_n 0, 1) := by decide +kernel
theorem dX4_addVisit_27 : decode cX4_addVisit 27 = .ok (.getfield 55, 3) := by decide +kernel
theorem dX4_addVisit_30 : decode cX4_addVisit 30 = .ok (.invokevirtual 87, 3) := by decide +kernel
theorem dX4_addVisit_33 : decode cX4_addVisit 33 = .ok (.aload_n 0, 1) := by decide +kernel
theorem dX4_addVisit_34 : decode cX4_addVisit 34 = .ok (.dup, 1) := by decide +kernel
theorem dX4_addVisit_35 : decode cX4_addVisit 35 = .ok (.getfield 62, 3) := by decide +kernel
theorem dX4_addVisit_38 : decode cX4_addVisit 38 = .ok (.dup_x1, 1) := by decide +kernel
theorem dX4_addVisit_39 : decode cX4_addVisit 39 = .ok (.iconst 1, 1) := by decide +kernel
theorem dX4_addVisit_40 : decode cX4_addVisit 40 = .ok (.iadd, 1) := by decide +kernel
theorem dX4_addVisit_41 : decode cX4_addVisit 41 = .ok (.putfield 62, 3) := by decide +kernel
theorem dX4_addVisit_44 : decode cX4_addVisit 44 = .ok (.ireturn, 1) := by decide +kernel
theorem dX4_addFeed_0 : decode cX4_addFeed 0 = .ok (.aload_n 0, 1) := by decide +kernel
theorem dX4_addFeed_1 : decode cX4_addFeed 1 = .ok (.getfield 65, 3) := by decide +kernel
theorem dX4_addFeed_4 : decode cX4_addFeed 4 = .ok (.bipush 16, 2) := by decide +kernel
theorem dX4_addFeed_6 : decode cX4_addFeed 6 = .ok (.if_icmp .lt 6, 3) := by decide +kernel
theorem dX4_addFeed_9 : decode cX4_addFeed 9 = .ok (.bipush (-4), 2) := by decide +kernel
theorem dX4_addFeed_11 : decode cX4_addFeed 11 = .ok (.ireturn, 1) := by decide +kernel
theorem dX4_addFeed_12 : decode cX4_addFeed 12 = .ok (.aload_n 0, 1) := by decide +kernel
theorem dX4_addFeed_13 : decode cX4_addFeed 13 = .ok (.getfield 40, 3) := by decide +kernel
theorem dX4_addFeed_16 : decode cX4_addFeed 16 = .ok (.aload_n 0, 1) := by decide +kernel
theorem dX4_addFeed_17 : decode cX4_addFeed 17 = .ok (.getfield 65, 3) := by decide +kernel
theorem dX4_addFeed_20 : decode cX4_addFeed 20 = .ok (.aaload, 1) := by decide +kernel
theorem dX4_addFeed_21 : decode cX4_addFeed 21 = .ok (.iload_n 1, 1) := by decide +kernel
theorem dX4_addFeed_22 : decode cX4_addFeed 22 = .ok (.iload_n 2, 1) := by decide +kernel
theorem dX4_addFeed_23 : decode cX4_addFeed 23 = .ok (.iload_n 3, 1) := by decide +kernel
theorem dX4_addFeed_24 : decode cX4_addFeed 24 = .ok (.iload 4, 2) := by decide +kernel
theorem dX4_addFeed_26 : decode cX4_addFeed 26 = .ok (.invokevirtual 91, 3) := by decide +kernel
theorem dX4_addFeed_29 : decode cX4_addFeed 29 = .ok (.aload_n 0, 1) := by decide +kernel
theorem dX4_addFeed_30 : decode cX4_addFeed 30 = .ok (.dup, 1) := by decide +kernel
theorem dX4_addFeed_31 : decode cX4_addFeed 31 = .ok (.getfield 65, 3) := by decide +kernel
theorem dX4_addFeed_34 : decode cX4_addFeed 34 = .ok (.dup_x1, 1) := by decide +kernel
theorem dX4_addFeed_35 : decode cX4_addFeed 35 = .ok (.iconst 1, 1) := by decide +kernel
theorem dX4_addFeed_36 : decode cX4_addFeed 36 = .ok (.iadd, 1) := by decide +kernel
theorem dX4_addFeed_37 : decode cX4_addFeed 37 = .ok (.putfield 65, 3) := by decide +kernel
theorem dX4_addFeed_40 : decode cX4_addFeed 40 = .ok (.ireturn, 1) := by decide +kernel
theorem dX4_fits_0 : decode cX4_fits 0 = .ok (.iload_n 2, 1) := by decide +kernel
theorem dX4_fits_1 : decode cX4_fits 1 = .ok (.ifCond .lt 24, 3) := by decide +kernel
theorem dX4_fits_4 : decode cX4_fits 4 = .ok (.aload_n 0, 1) := by decide +kernel
theorem dX4_fits_5 : decode cX4_fits 5 = .ok (.getfield 20, 3) := by decide +kernel
theorem dX4_fits_8 : decode cX4_fits 8 = .ok (.iload_n 2, 1) := by decide +kernel
theorem dX4_fits_9 : decode cX4_fits 9 = .ok (.iaload, 1) := by decide +kernel
theorem dX4_fits_10 : decode cX4_fits 10 = .ok (.aload_n 0, 1) := by decide +kernel
theorem dX4_fits_11 : decode cX4_fits 11 = .ok (.getfield 34, 3) := by decide +kernel
theorem dX4_fits_14 : decode cX4_fits 14 = .ok (.iload_n 1, 1) := by decide +kernel
theorem dX4_fits_15 : decode cX4_fits 15 = .ok (.aaload, 1) := by decide +kernel
theorem dX4_fits_16 : decode cX4_fits 16 = .ok (.getfield 94, 3) := by decide +kernel
theorem dX4_fits_19 : decode cX4_fits 19 = .ok (.invokestatic 97, 3) := by decide +kernel
theorem dX4_fits_22 : decode cX4_fits 22 = .ok (.if_icmp .lt 7, 3) := by decide +kernel
theorem dX4_fits_25 : decode cX4_fits 25 = .ok (.iconst 1, 1) := by decide +kernel
theorem dX4_fits_26 : decode cX4_fits 26 = .ok (.goto 4, 3) := by decide +kernel
theorem dX4_fits_29 : decode cX4_fits 29 = .ok (.iconst 0, 1) := by decide +kernel
theorem dX4_fits_30 : decode cX4_fits 30 = .ok (.ireturn, 1) := by decide +kernel
theorem dX4_lateInAll_0 : decode cX4_lateInAll 0 = .ok (.iconst 0, 1) := by decide +kernel
theorem dX4_lateInAll_1 : decode cX4_lateInAll 1 = .ok (.istore_n 1, 1) := by decide +kernel
theorem dX4_lateInAll_2 : decode cX4_lateInAll 2 = .ok (.iconst 0, 1) := by decide +kernel
theorem dX4_lateInAll_3 : decode cX4_lateInAll 3 = .ok (.istore_n 2, 1) := by decide +kernel
theorem dX4_lateInAll_4 : decode cX4_lateInAll 4 = .ok (.iload_n 2, 1) := by decide +kernel
theorem dX4_lateInAll_5 : decode cX4_lateInAll 5 = .ok (.aload_n 0, 1) := by decide +kernel
theorem dX4_lateInAll_6 : decode cX4_lateInAll 6 = .ok (.getfield 62, 3) := by decide +kernel
theorem dX4_lateInAll_9 : decode cX4_lateInAll 9 = .ok (.if_icmp .ge 21, 3) := by decide +kernel
theorem dX4_lateInAll_12 : decode cX4_lateInAll 12 = .ok (.iload_n 1, 1) := by decide +kernel
theorem dX4_lateInAll_13 : decode cX4_lateInAll 13 = .ok (.aload_n 0, 1) := by decide +kernel
theorem dX4_lateInAll_14 : decode cX4_lateInAll 14 = .ok (.getfield 34, 3) := by decide +kernel
theorem dX4_lateInAll_17 : decode cX4_lateInAll 17 = .ok (.iload_n 2, 1) := by decide +kernel
theorem dX4_lateInAll_18 : decode cX4_lateInAll 18 = .ok (.aaload, 1) := by decide +kernel
theorem dX4_lateInAll_19 : decode cX4_lateInAll 19 = .ok (.invokevirtual 111, 3) := by decide +kernel
theorem dX4_lateInAll_22 : decode cX4_lateInAll 22 = .ok (.iadd, 1) := by decide +kernel
theorem dX4_lateInAll_23 : decode cX4_lateInAll 23 = .ok (.istore_n 1, 1) := by decide +kernel
theorem dX4_lateInAll_24 : decode cX4_lateInAll 24 = .ok (.iinc 2 1, 3) := by decide +kernel
theorem dX4_lateInAll_27 : decode cX4_lateInAll 27 = .ok (.goto (-23), 3) := by decide +kernel
theorem dX4_lateInAll_30 : decode cX4_lateInAll 30 = .ok (.iload_n 1, 1) := by decide +kernel
theorem dX4_lateInAll_31 : decode cX4_lateInAll 31 = .ok (.ireturn, 1) := by decide +kernel
theorem dX4_howMany_0 : decode cX4_howMany 0 = .ok (.iconst 0, 1) := by decide +kernel
theorem dX4_howMany_1 : decode cX4_howMany 1 = .ok (.istore_n 2, 1) := by decide +kernel
theorem dX4_howMany_2 : decode cX4_howMany 2 = .ok (.iconst 0, 1) := by decide +kernel
theorem dX4_howMany_3 : decode cX4_howMany 3 = .ok (.istore_n 3, 1) := by decide +kernel
theorem dX4_howMany_4 : decode cX4_howMany 4 = .ok (.iload_n 3, 1) := by decide +kernel
theorem dX4_howMany_5 : decode cX4_howMany 5 = .ok (.aload_n 0, 1) := by decide +kernel
theorem dX4_howMany_6 : decode cX4_howMany 6 = .ok (.getfield 62, 3) := by decide +kernel
theorem dX4_howMany_9 : decode cX4_howMany 9 = .ok (.if_icmp .ge 25, 3) := by decide +kernel
theorem dX4_howMany_12 : decode cX4_howMany 12 = .ok (.aload_n 0, 1) := by decide +kernel
theorem dX4_howMany_13 : decode cX4_howMany 13 = .ok (.getfield 34, 3) := by decide +kernel
theorem dX4_howMany_16 : decode cX4_howMany 16 = .ok (.iload_n 3, 1) := by decide +kernel
theorem dX4_howMany_17 : decode cX4_howMany 17 = .ok (.aaload, 1) := by decide +kernel
theorem dX4_howMany_18 : decode cX4_howMany 18 = .ok (.getfield 120, 3) := by decide +kernel
theorem dX4_howMany_21 : decode cX4_howMany 21 = .ok (.iload_n 1, 1) := by decide +kernel
theorem dX4_howMany_22 : decode cX4_howMany 22 = .ok (.if_icmp .ne 6, 3) := by decide +kernel
theorem dX4_howMany_25 : decode cX4_howMany 25 = .ok (.iinc 2 1, 3) := by decide +kernel
theorem dX4_howMany_28 : decode cX4_howMany 28 = .ok (.iinc 3 1, 3) := by decide +kernel
theorem dX4_howMany_31 : decode cX4_howMany 31 = .ok (.goto (-27), 3) := by decide +kernel
theorem dX4_howMany_34 : decode cX4_howMany 34 = .ok (.iload_n 2, 1) := by decide +kernel
theorem dX4_howMany_35 : decode cX4_howMany 35 = .ok (.ireturn, 1) := by decide +kernel
theorem dX4_missedBags_0 : decode cX4_missedBags 0 = .ok (.iconst 0, 1) := by decide +kernel
theorem dX4_missedBags_1 : decode cX4_missedBags 1 = .ok (.istore_n 1, 1) := by decide +kernel
theorem dX4_missedBags_2 : decode cX4_missedBags 2 = .ok (.iconst 0, 1) := by decide +kernel
theorem dX4_missedBags_3 : decode cX4_missedBags 3 = .ok (.istore_n 2, 1) := by decide +kernel
theorem dX4_missedBags_4 : decode cX4_missedBags 4 = .ok (.iload_n 2, 1) := by decide +kernel
theorem dX4_missedBags_5 : decode cX4_missedBags 5 = .ok (.aload_n 0, 1) := by decide +kernel
theorem dX4_missedBags_6 : decode cX4_missedBags 6 = .ok (.getfield 65, 3) := by decide +kernel
theorem dX4_missedBags_9 : decode cX4_missedBags 9 = .ok (.if_icmp .ge 34, 3) := by decide +kernel
theorem dX4_missedBags_12 : decode cX4_missedBags 12 = .ok (.aload_n 0, 1) := by decide +kernel
theorem dX4_missedBags_13 : decode cX4_missedBags 13 = .ok (.getfield 40, 3) := by decide +kernel
theorem dX4_missedBags_16 : decode cX4_missedBags 16 = .ok (.iload_n 2, 1) := by decide +kernel
theorem dX4_missedBags_17 : decode cX4_missedBags 17 = .ok (.aaload, 1) := by decide +kernel
theorem dX4_missedBags_18 : decode cX4_missedBags 18 = .ok (.getfield 114, 3) := by decide +kernel
theorem dX4_missedBags_21 : decode cX4_missedBags 21 = .ok (.iconst 3, 1) := by decide +kernel
theorem dX4_missedBags_22 : decode cX4_missedBags 22 = .ok (.if_icmp .ne 15, 3) := by decide +kernel
theorem dX4_missedBags_25 : decode cX4_missedBags 25 = .ok (.iload_n 1, 1) := by decide +kernel
theorem dX4_missedBags_26 : decode cX4_missedBags 26 = .ok (.aload_n 0, 1) := by decide +kernel
theorem dX4_missedBags_27 : decode cX4_missedBags 27 = .ok (.getfield 40, 3) := by decide +kernel
theorem dX4_missedBags_30 : decode cX4_missedBags 30 = .ok (.iload_n 2, 1) := by decide +kernel
theorem dX4_missedBags_31 : decode cX4_missedBags 31 = .ok (.aaload, 1) := by decide +kernel
theorem dX4_missedBags_32 : decode cX4_missedBags 32 = .ok (.getfield 117, 3) := by decide +kernel
theorem dX4_missedBags_35 : decode cX4_missedBags 35 = .ok (.iadd, 1) := by decide +kernel
theorem dX4_missedBags_36 : decode cX4_missedBags 36 = .ok (.istore_n 1, 1) := by decide +kernel
theorem dX4_missedBags_37 : decode cX4_missedBags 37 = .ok (.iinc 2 1, 3) := by decide +kernel
theorem dX4_missedBags_40 : decode cX4_missedBags 40 = .ok (.goto (-36), 3) := by decide +kernel
theorem dX4_missedBags_43 : decode cX4_missedBags 43 = .ok (.iload_n 1, 1) := by decide +kernel
theorem dX4_missedBags_44 : decode cX4_missedBags 44 = .ok (.ireturn, 1) := by decide +kernel
theorem dX4_outcome_0 : decode cX4_outcome 0 = .ok (.iload_n 1, 1) := by decide +kernel
theorem dX4_outcome_1 : decode cX4_outcome 1 = .ok (.tableswitch 55 0 3 #[31, 36, 43, 50], 31) := by decide +kernel
theorem dX4_outcome_32 : decode cX4_outcome 32 = .ok (.aload_n 0, 1) := by decide +kernel
theorem dX4_outcome_33 : decode cX4_outcome 33 = .ok (.invokevirtual 101, 3) := by decide +kernel
theorem dX4_outcome_36 : decode cX4_outcome 36 = .ok (.ireturn, 1) := by decide +kernel
theorem dX4_outcome_37 : decode cX4_outcome 37 = .ok (.aload_n 0, 1) := by decide +kernel
theorem dX4_outcome_38 : decode cX4_outcome 38 = .ok (.bipush 7, 2) := by decide +kernel
theorem dX4_outcome_40 : decode cX4_outcome 40 = .ok (.invokevirtual 105, 3) := by decide +kernel
theorem dX4_outcome_43 : decode cX4_outcome 43 = .ok (.ireturn, 1) := by decide +kernel
theorem dX4_outcome_44 : decode cX4_outcome 44 = .ok (.aload_n 0, 1) := by decide +kernel
theorem dX4_outcome_45 : decode cX4_outcome 45 = .ok (.bipush 8, 2) := by decide +kernel
theorem dX4_outcome_47 : decode cX4_outcome 47 = .ok (.invokevirtual 105, 3) := by decide +kernel
theorem dX4_outcome_50 : decode cX4_outcome 50 = .ok (.ireturn, 1) := by decide +kernel
theorem dX4_outcome_51 : decode cX4_outcome 51 = .ok (.aload_n 0, 1) := by decide +kernel
theorem dX4_outcome_52 : decode cX4_outcome 52 = .ok (.invokevirtual 108, 3) := by decide +kernel
theorem dX4_outcome_55 : decode cX4_outcome 55 = .ok (.ireturn, 1) := by decide +kernel
theorem dX4_outcome_56 : decode cX4_outcome 56 = .ok (.aload_n 0, 1) := by decide +kernel
theorem dX4_outcome_57 : decode cX4_outcome 57 = .ok (.getfield 11, 3) := by decide +kernel
theorem dX4_outcome_60 : decode cX4_outcome 60 = .ok (.bipush 7, 2) := by decide +kernel
theorem dX4_outcome_62 : decode cX4_outcome 62 = .ok (.iaload, 1) := by decide +kernel
theorem dX4_outcome_63 : decode cX4_outcome 63 = .ok (.ireturn, 1) := by decide +kernel
theorem dX4_move_0 : decode cX4_move 0 = .ok (.aload_n 0, 1) := by decide +kernel
theorem dX4_move_1 : decode cX4_move 1 = .ok (.getfield 55, 3) := by decide +kernel
theorem dX4_move_4 : decode cX4_move 4 = .ok (.aload_n 1, 1) := by decide +kernel
theorem dX4_move_5 : decode cX4_move 5 = .ok (.getfield 147, 3) := by decide +kernel
theorem dX4_move_8 : decode cX4_move 8 = .ok (.isub, 1) := by decide +kernel
theorem dX4_move_9 : decode cX4_move 9 = .ok (.istore_n 2, 1) := by decide +kernel
theorem dX4_move_10 : decode cX4_move 10 = .ok (.aload_n 1, 1) := by decide +kernel
theorem dX4_move_11 : decode cX4_move 11 = .ok (.getfield 120, 3) := by decide +kernel
theorem dX4_move_14 : decode cX4_move 14 = .ok (.tableswitch 148 0 6 #[42, 65, 84, 107, 148, 148, 124], 42) := by decide +kernel
theorem dX4_move_56 : decode cX4_move 56 = .ok (.aload_n 0, 1) := by decide +kernel
theorem dX4_move_57 : decode cX4_move 57 = .ok (.getfield 55, 3) := by decide +kernel
theorem dX4_move_60 : decode cX4_move 60 = .ok (.aload_n 1, 1) := by decide +kernel
theorem dX4_move_61 : decode cX4_move 61 = .ok (.invokevirtual 150, 3) := by decide +kernel
theorem dX4_move_64 : decode cX4_move 64 = .ok (.if_icmp .lt 98, 3) := by decide +kernel
theorem dX4_move_67 : decode cX4_move 67 = .ok (.aload_n 1, 1) := by decide +kernel
theorem dX4_move_68 : decode cX4_move 68 = .ok (.iconst 1, 1) := by decide +kernel
theorem dX4_move_69 : decode cX4_move 69 = .ok (.aload_n 0, 1) := by decide +kernel
theorem dX4_move_70 : decode cX4_move 70 = .ok (.getfield 55, 3) := by decide +kernel
theorem dX4_move_73 : decode cX4_move 73 = .ok (.invokevirtual 153, 3) := by decide +kernel
theorem dX4_move_76 : decode cX4_move 76 = .ok (.goto 86, 3) := by decide +kernel
theorem dX4_move_79 : decode cX4_move 79 = .ok (.iload_n 2, 1) := by decide +kernel
theorem dX4_move_80 : decode cX4_move 80 = .ok (.bipush 60, 2) := by decide +kernel
theorem dX4_move_82 : decode cX4_move 82 = .ok (.if_icmp .lt 80, 3) := by decide +kernel
theorem dX4_move_85 : decode cX4_move 85 = .ok (.aload_n 1, 1) := by decide +kernel
theorem dX4_move_86 : decode cX4_move 86 = .ok (.bipush 8, 2) := by decide +kernel
theorem dX4_move_88 : decode cX4_move 88 = .ok (.aload_n 0, 1) := by decide +kernel
theorem dX4_move_89 : decode cX4_move 89 = .ok (.getfield 55, 3) := by decide +kernel
theorem dX4_move_92 : decode cX4_move 92 = .ok (.invokevirtual 153, 3) := by decide +kernel
theorem dX4_move_95 : decode cX4_move 95 = .ok (.goto 67, 3) := by decide +kernel
theorem dX4_move_98 : decode cX4_move 98 = .ok (.iload_n 2, 1) := by decide +kernel
theorem dX4_move_99 : decode cX4_move 99 = .ok (.aload_n 1, 1) := by decide +kernel
theorem dX4_move_100 : decode cX4_move 100 = .ok (.getfield 94, 3) := by decide +kernel
theorem dX4_move_103 : decode cX4_move 103 = .ok (.invokestatic 156, 3) := by decide +kernel
theorem dX4_move_106 : decode cX4_move 106 = .ok (.if_icmp .lt 56, 3) := by decide +kernel
theorem dX4_move_109 : decode cX4_move 109 = .ok (.aload_n 1, 1) := by decide +kernel
theorem dX4_move_110 : decode cX4_move 110 = .ok (.iconst 3, 1) := by decide +kernel
theorem dX4_move_111 : decode cX4_move 111 = .ok (.aload_n 0, 1) := by decide +kernel
theorem dX4_move_112 : decode cX4_move 112 = .ok (.getfield 55, 3) := by decide +kernel
theorem dX4_move_115 : decode cX4_move 115 = .ok (.invokevirtual 153, 3) := by decide +kernel
theorem dX4_move_118 : decode cX4_move 118 = .ok (.goto 44, 3) := by decide +kernel
theorem dX4_move_121 : decode cX4_move 121 = .ok (.iload_n 2, 1) := by decide +kernel
theorem dX4_move_122 : decode cX4_move 122 = .ok (.iconst 4, 1) := by decide +kernel
theorem dX4_move_123 : decode cX4_move 123 = .ok (.if_icmp .lt 39, 3) := by decide +kernel
theorem dX4_move_126 : decode cX4_move 126 = .ok (.aload_n 1, 1) := by decide +kernel
theorem dX4_move_127 : decode cX4_move 127 = .ok (.iconst 4, 1) := by decide +kernel
theorem dX4_move_128 : decode cX4_move 128 = .ok (.aload_n 0, 1) := by decide +kernel
theorem dX4_move_129 : decode cX4_move 129 = .ok (.getfield 55, 3) := by decide +kernel
theorem dX4_move_132 : decode cX4_move 132 = .ok (.invokevirtual 153, 3) := by decide +kernel
theorem dX4_move_135 : decode cX4_move 135 = .ok (.goto 27, 3) := by decide +kernel
theorem dX4_move_138 : decode cX4_move 138 = .ok (.iload_n 2, 1) := by decide +kernel
theorem dX4_move_139 : decode cX4_move 139 = .ok (.aload_n 1, 1) := by decide +kernel
theorem dX4_move_140 : decode cX4_move 140 = .ok (.getfield 94, 3) := by decide +kernel
theorem dX4_move_143 : decode cX4_move 143 = .ok (.invokestatic 156, 3) := by decide +kernel
theorem dX4_move_146 : decode cX4_move 146 = .ok (.if_icmp .lt 16, 3) := by decide +kernel
theorem dX4_move_149 : decode cX4_move 149 = .ok (.aload_n 1, 1) := by decide +kernel
theorem dX4_move_150 : decode cX4_move 150 = .ok (.bipush 7, 2) := by decide +kernel
theorem dX4_move_152 : decode cX4_move 152 = .ok (.aload_n 0, 1) := by decide +kernel
theorem dX4_move_153 : decode cX4_move 153 = .ok (.getfield 55, 3) := by decide +kernel
theorem dX4_move_156 : decode cX4_move 156 = .ok (.invokevirtual 153, 3) := by decide +kernel
theorem dX4_move_159 : decode cX4_move 159 = .ok (.goto 3, 3) := by decide +kernel
theorem dX4_move_162 : decode cX4_move 162 = .ok (.return_, 1) := by decide +kernel
theorem dX4_sendCarts_0 : decode cX4_sendCarts 0 = .ok (.iconst 0, 1) := by decide +kernel
theorem dX4_sendCarts_1 : decode cX4_sendCarts 1 = .ok (.istore_n 2, 1) := by decide +kernel
theorem dX4_sendCarts_2 : decode cX4_sendCarts 2 = .ok (.iload_n 2, 1) := by decide +kernel
theorem dX4_sendCarts_3 : decode cX4_sendCarts 3 = .ok (.aload_n 0, 1) := by decide +kernel
theorem dX4_sendCarts_4 : decode cX4_sendCarts 4 = .ok (.getfield 65, 3) := by decide +kernel
theorem dX4_sendCarts_7 : decode cX4_sendCarts 7 = .ok (.if_icmp .ge 49, 3) := by decide +kernel
theorem dX4_sendCarts_10 : decode cX4_sendCarts 10 = .ok (.aload_n 0, 1) := by decide +kernel
theorem dX4_sendCarts_11 : decode cX4_sendCarts 11 = .ok (.getfield 40, 3) := by decide +kernel
theorem dX4_sendCarts_14 : decode cX4_sendCarts 14 = .ok (.iload_n 2, 1) := by decide +kernel
theorem dX4_sendCarts_15 : decode cX4_sendCarts 15 = .ok (.aaload, 1) := by decide +kernel
theorem dX4_sendCarts_16 : decode cX4_sendCarts 16 = .ok (.astore_n 3, 1) := by decide +kernel
theorem dX4_sendCarts_17 : decode cX4_sendCarts 17 = .ok (.aload_n 3, 1) := by decide +kernel
theorem dX4_sendCarts_18 : decode cX4_sendCarts 18 = .ok (.getfield 190, 3) := by decide +kernel
theorem dX4_sendCarts_21 : decode cX4_sendCarts 21 = .ok (.iload_n 1, 1) := by decide +kernel
theorem dX4_sendCarts_22 : decode cX4_sendCarts 22 = .ok (.if_icmp .ne 28, 3) := by decide +kernel
theorem dX4_sendCarts_25 : decode cX4_sendCarts 25 = .ok (.aload_n 3, 1) := by decide +kernel
theorem dX4_sendCarts_26 : decode cX4_sendCarts 26 = .ok (.getfield 114, 3) := by decide +kernel
theorem dX4_sendCarts_29 : decode cX4_sendCarts 29 = .ok (.ifCond .ne 21, 3) := by decide +kernel
theorem dX4_sendCarts_32 : decode cX4_sendCarts 32 = .ok (.aload_n 3, 1) := by decide +kernel
theorem dX4_sendCarts_33 : decode cX4_sendCarts 33 = .ok (.iconst 1, 1) := by decide +kernel
theorem dX4_sendCarts_34 : decode cX4_sendCarts 34 = .ok (.putfield 114, 3) := by decide +kernel
theorem dX4_sendCarts_37 : decode cX4_sendCarts 37 = .ok (.aload_n 3, 1) := by decide +kernel
theorem dX4_sendCarts_38 : decode cX4_sendCarts 38 = .ok (.aload_n 0, 1) := by decide +kernel
theorem dX4_sendCarts_39 : decode cX4_sendCarts 39 = .ok (.getfield 55, 3) := by decide +kernel
theorem dX4_sendCarts_42 : decode cX4_sendCarts 42 = .ok (.aload_n 3, 1) := by decide +kernel
theorem dX4_sendCarts_43 : decode cX4_sendCarts 43 = .ok (.getfield 193, 3) := by decide +kernel
theorem dX4_sendCarts_46 : decode cX4_sendCarts 46 = .ok (.iadd, 1) := by decide +kernel
theorem dX4_sendCarts_47 : decode cX4_sendCarts 47 = .ok (.putfield 196, 3) := by decide +kernel
theorem dX4_sendCarts_50 : decode cX4_sendCarts 50 = .ok (.iinc 2 1, 3) := by decide +kernel
theorem dX4_sendCarts_53 : decode cX4_sendCarts 53 = .ok (.goto (-51), 3) := by decide +kernel
theorem dX4_sendCarts_56 : decode cX4_sendCarts 56 = .ok (.return_, 1) := by decide +kernel
theorem dX4_finish_0 : decode cX4_finish 0 = .ok (.aload_n 0, 1) := by decide +kernel
theorem dX4_finish_1 : decode cX4_finish 1 = .ok (.getfield 34, 3) := by decide +kernel
theorem dX4_finish_4 : decode cX4_finish 4 = .ok (.iload_n 1, 1) := by decide +kernel
theorem dX4_finish_5 : decode cX4_finish 5 = .ok (.aaload, 1) := by decide +kernel
theorem dX4_finish_6 : decode cX4_finish 6 = .ok (.astore_n 3, 1) := by decide +kernel
theorem dX4_finish_7 : decode cX4_finish 7 = .ok (.aload_n 3, 1) := by decide +kernel
theorem dX4_finish_8 : decode cX4_finish 8 = .ok (.iload_n 2, 1) := by decide +kernel
theorem dX4_finish_9 : decode cX4_finish 9 = .ok (.invokevirtual 172, 3) := by decide +kernel
theorem dX4_finish_12 : decode cX4_finish 12 = .ok (.iload_n 2, 1) := by decide +kernel
theorem dX4_finish_13 : decode cX4_finish 13 = .ok (.invokestatic 175, 3) := by decide +kernel
theorem dX4_finish_16 : decode cX4_finish 16 = .ok (.istore 4, 2) := by decide +kernel
theorem dX4_finish_18 : decode cX4_finish 18 = .ok (.iload 4, 2) := by decide +kernel
theorem dX4_finish_20 : decode cX4_finish 20 = .ok (.ifCond .lt 14, 3) := by decide +kernel
theorem dX4_finish_23 : decode cX4_finish 23 = .ok (.aload_n 0, 1) := by decide +kernel
theorem dX4_finish_24 : decode cX4_finish 24 = .ok (.getfield 17, 3) := by decide +kernel
theorem dX4_finish_27 : decode cX4_finish 27 = .ok (.iload 4, 2) := by decide +kernel
theorem dX4_finish_29 : decode cX4_finish 29 = .ok (.dup2, 1) := by decide +kernel
theorem dX4_finish_30 : decode cX4_finish 30 = .ok (.iaload, 1) := by decide +kernel
theorem dX4_finish_31 : decode cX4_finish 31 = .ok (.iconst 1, 1) := by decide +kernel
theorem dX4_finish_32 : decode cX4_finish 32 = .ok (.isub, 1) := by decide +kernel
theorem dX4_finish_33 : decode cX4_finish 33 = .ok (.iastore, 1) := by decide +kernel
theorem dX4_finish_34 : decode cX4_finish 34 = .ok (.iload_n 2, 1) := by decide +kernel
theorem dX4_finish_35 : decode cX4_finish 35 = .ok (.iconst 1, 1) := by decide +kernel
theorem dX4_finish_36 : decode cX4_finish 36 = .ok (.if_icmp .ne 11, 3) := by decide +kernel
theorem dX4_finish_39 : decode cX4_finish 39 = .ok (.aload_n 0, 1) := by decide +kernel
theorem dX4_finish_40 : decode cX4_finish 40 = .ok (.iload_n 1, 1) := by decide +kernel
theorem dX4_finish_41 : decode cX4_finish 41 = .ok (.invokevirtual 178, 3) := by decide +kernel
theorem dX4_finish_44 : decode cX4_finish 44 = .ok (.goto 61, 3) := by decide +kernel
theorem dX4_finish_47 : decode cX4_finish 47 = .ok (.iload_n 2, 1) := by decide +kernel
theorem dX4_finish_48 : decode cX4_finish 48 = .ok (.bipush 6, 2) := by decide +kernel
theorem dX4_finish_50 : decode cX4_finish 50 = .ok (.if_icmp .ne 14, 3) := by decide +kernel
theorem dX4_finish_53 : decode cX4_finish 53 = .ok (.aload_n 3, 1) := by decide +kernel
theorem dX4_finish_54 : decode cX4_finish 54 = .ok (.aload_n 0, 1) := by decide +kernel
theorem dX4_finish_55 : decode cX4_finish 55 = .ok (.getfield 55, 3) := by decide +kernel
theorem dX4_finish_58 : decode cX4_finish 58 = .ok (.putfield 181, 3) := by decide +kernel
theorem dX4_finish_61 : decode cX4_finish 61 = .ok (.goto 44, 3) := by decide +kernel
theorem dX4_finish_64 : decode cX4_finish 64 = .ok (.iload_n 2, 1) := by decide +kernel
theorem dX4_finish_65 : decode cX4_finish 65 = .ok (.bipush 7, 2) := by decide +kernel
theorem dX4_finish_67 : decode cX4_finish 67 = .ok (.if_icmp .ne 38, 3) := by decide +kernel
theorem dX4_finish_70 : decode cX4_finish 70 = .ok (.aload_n 0, 1) := by decide +kernel
theorem dX4_finish_71 : decode cX4_finish 71 = .ok (.aload_n 3, 1) := by decide +kernel
theorem dX4_finish_72 : decode cX4_finish 72 = .ok (.getfield 184, 3) := by decide +kernel
theorem dX4_finish_75 : decode cX4_finish 75 = .ok (.invokevirtual 187, 3) := by decide +kernel
theorem dX4_finish_78 : decode cX4_finish 78 = .ok (.ifCond .eq 13, 3) := by decide +kernel
theorem dX4_finish_81 : decode cX4_finish 81 = .ok (.aload_n 0, 1) := by decide +kernel
theorem dX4_finish_82 : decode cX4_finish 82 = .ok (.getfield 23, 3) := by decide +kernel
theorem dX4_finish_85 : decode cX4_finish 85 = .ok (.aload_n 3, 1) := by decide +kernel
theorem dX4_finish_86 : decode cX4_finish 86 = .ok (.getfield 184, 3) := by decide +kernel
theorem dX4_finish_89 : decode cX4_finish 89 = .ok (.iconst (-1), 1) := by decide +kernel
theorem dX4_finish_90 : decode cX4_finish 90 = .ok (.iastore, 1) := by decide +kernel
theorem dX4_finish_91 : decode cX4_finish 91 = .ok (.aload_n 3, 1) := by decide +kernel
theorem dX4_finish_92 : decode cX4_finish 92 = .ok (.iconst (-1), 1) := by decide +kernel
theorem dX4_finish_93 : decode cX4_finish 93 = .ok (.putfield 184, 3) := by decide +kernel
theorem dX4_finish_96 : decode cX4_finish 96 = .ok (.aload_n 3, 1) := by decide +kernel
theorem dX4_finish_97 : decode cX4_finish 97 = .ok (.iconst 5, 1) := by decide +kernel
theorem dX4_finish_98 : decode cX4_finish 98 = .ok (.aload_n 0, 1) := by decide +kernel
theorem dX4_finish_99 : decode cX4_finish 99 = .ok (.getfield 55, 3) := by decide +kernel
theorem dX4_finish_102 : decode cX4_finish 102 = .ok (.invokevirtual 153, 3) := by decide +kernel
theorem dX4_finish_105 : decode cX4_finish 105 = .ok (.return_, 1) := by decide +kernel
theorem dX4_work_0 : decode cX4_work 0 = .ok (.aload_n 0, 1) := by decide +kernel
theorem dX4_work_1 : decode cX4_work 1 = .ok (.getfield 34, 3) := by decide +kernel
theorem dX4_work_4 : decode cX4_work 4 = .ok (.iload_n 1, 1) := by decide +kernel
theorem dX4_work_5 : decode cX4_work 5 = .ok (.aaload, 1) := by decide +kernel
theorem dX4_work_6 : decode cX4_work 6 = .ok (.astore_n 2, 1) := by decide +kernel
theorem dX4_work_7 : decode cX4_work 7 = .ok (.aload_n 2, 1) := by decide +kernel
theorem dX4_work_8 : decode cX4_work 8 = .ok (.getfield 159, 3) := by decide +kernel
theorem dX4_work_11 : decode cX4_work 11 = .ok (.ifCond .ne 4, 3) := by decide +kernel
theorem dX4_work_14 : decode cX4_work 14 = .ok (.return_, 1) := by decide +kernel
theorem dX4_work_15 : decode cX4_work 15 = .ok (.iconst 0, 1) := by decide +kernel
theorem dX4_work_16 : decode cX4_work 16 = .ok (.istore_n 3, 1) := by decide +kernel
theorem dX4_work_17 : decode cX4_work 17 = .ok (.iload_n 3, 1) := by decide +kernel
theorem dX4_work_18 : decode cX4_work 18 = .ok (.bipush 8, 2) := by decide +kernel
theorem dX4_work_20 : decode cX4_work 20 = .ok (.if_icmp .ge 42, 3) := by decide +kernel
theorem dX4_work_23 : decode cX4_work 23 = .ok (.aload_n 2, 1) := by decide +kernel
theorem dX4_work_24 : decode cX4_work 24 = .ok (.iload_n 3, 1) := by decide +kernel
theorem dX4_work_25 : decode cX4_work 25 = .ok (.invokevirtual 162, 3) := by decide +kernel
theorem dX4_work_28 : decode cX4_work 28 = .ok (.ifCond .eq 28, 3) := by decide +kernel
theorem dX4_work_31 : decode cX4_work 31 = .ok (.aload_n 2, 1) := by decide +kernel
theorem dX4_work_32 : decode cX4_work 32 = .ok (.getfield 166, 3) := by decide +kernel
theorem dX4_work_35 : decode cX4_work 35 = .ok (.iload_n 3, 1) := by decide +kernel
theorem dX4_work_36 : decode cX4_work 36 = .ok (.dup2, 1) := by decide +kernel
theorem dX4_work_37 : decode cX4_work 37 = .ok (.iaload, 1) := by decide +kernel
theorem dX4_work_38 : decode cX4_work 38 = .ok (.iconst 1, 1) := by decide +kernel
theorem dX4_work_39 : decode cX4_work 39 = .ok (.isub, 1) := by decide +kernel
theorem dX4_work_40 : decode cX4_work 40 = .ok (.iastore, 1) := by decide +kernel
theorem dX4_work_41 : decode cX4_work 41 = .ok (.aload_n 2, 1) := by decide +kernel
theorem dX4_work_42 : decode cX4_work 42 = .ok (.getfield 166, 3) := by decide +kernel
theorem dX4_work_45 : decode cX4_work 45 = .ok (.iload_n 3, 1) := by decide +kernel
theorem dX4_work_46 : decode cX4_work 46 = .ok (.iaload, 1) := by decide +kernel
theorem dX4_work_47 : decode cX4_work 47 = .ok (.ifCond .ne 9, 3) := by decide +kernel
theorem dX4_work_50 : decode cX4_work 50 = .ok (.aload_n 0, 1) := by decide +kernel
theorem dX4_work_51 : decode cX4_work 51 = .ok (.iload_n 1, 1) := by decide +kernel
theorem dX4_work_52 : decode cX4_work 52 = .ok (.iload_n 3, 1) := by decide +kernel
theorem dX4_work_53 : decode cX4_work 53 = .ok (.invokevirtual 169, 3) := by decide +kernel
theorem dX4_work_56 : decode cX4_work 56 = .ok (.iinc 3 1, 3) := by decide +kernel
theorem dX4_work_59 : decode cX4_work 59 = .ok (.goto (-42), 3) := by decide +kernel
theorem dX4_work_62 : decode cX4_work 62 = .ok (.return_, 1) := by decide +kernel
theorem dX4_carry_0 : decode cX4_carry 0 = .ok (.aload_n 1, 1) := by decide +kernel
theorem dX4_carry_1 : decode cX4_carry 1 = .ok (.getfield 114, 3) := by decide +kernel
theorem dX4_carry_4 : decode cX4_carry 4 = .ok (.iconst 2, 1) := by decide +kernel
theorem dX4_carry_5 : decode cX4_carry 5 = .ok (.if_icmp .lt 4, 3) := by decide +kernel
theorem dX4_carry_8 : decode cX4_carry 8 = .ok (.return_, 1) := by decide +kernel
theorem dX4_carry_9 : decode cX4_carry 9 = .ok (.aload_n 0, 1) := by decide +kernel
theorem dX4_carry_10 : decode cX4_carry 10 = .ok (.getfield 34, 3) := by decide +kernel
theorem dX4_carry_13 : decode cX4_carry 13 = .ok (.aload_n 1, 1) := by decide +kernel
theorem dX4_carry_14 : decode cX4_carry 14 = .ok (.getfield 198, 3) := by decide +kernel
theorem dX4_carry_17 : decode cX4_carry 17 = .ok (.aaload, 1) := by decide +kernel
theorem dX4_carry_18 : decode cX4_carry 18 = .ok (.astore_n 2, 1) := by decide +kernel
theorem dX4_carry_19 : decode cX4_carry 19 = .ok (.aload_n 1, 1) := by decide +kernel
theorem dX4_carry_20 : decode cX4_carry 20 = .ok (.getfield 114, 3) := by decide +kernel
theorem dX4_carry_23 : decode cX4_carry 23 = .ok (.ifCond .ne 24, 3) := by decide +kernel
theorem dX4_carry_26 : decode cX4_carry 26 = .ok (.aload_n 0, 1) := by decide +kernel
theorem dX4_carry_27 : decode cX4_carry 27 = .ok (.getfield 34, 3) := by decide +kernel
theorem dX4_carry_30 : decode cX4_carry 30 = .ok (.aload_n 1, 1) := by decide +kernel
theorem dX4_carry_31 : decode cX4_carry 31 = .ok (.getfield 190, 3) := by decide +kernel
theorem dX4_carry_34 : decode cX4_carry 34 = .ok (.aaload, 1) := by decide +kernel
theorem dX4_carry_35 : decode cX4_carry 35 = .ok (.getfield 120, 3) := by decide +kernel
theorem dX4_carry_38 : decode cX4_carry 38 = .ok (.bipush 8, 2) := by decide +kernel
theorem dX4_carry_40 : decode cX4_carry 40 = .ok (.if_icmp .ne 7, 3) := by decide +kernel
theorem dX4_carry_43 : decode cX4_carry 43 = .ok (.iconst 1, 1) := by decide +kernel
theorem dX4_carry_44 : decode cX4_carry 44 = .ok (.goto 4, 3) := by decide +kernel
theorem dX4_carry_47 : decode cX4_carry 47 = .ok (.iconst 0, 1) := by decide +kernel
theorem dX4_carry_48 : decode cX4_carry 48 = .ok (.istore_n 3, 1) := by decide +kernel
theorem dX4_carry_49 : decode cX4_carry 49 = .ok (.iload_n 3, 1) := by decide +kernel
theorem dX4_carry_50 : decode cX4_carry 50 = .ok (.ifCond .ne 12, 3) := by decide +kernel
theorem dX4_carry_53 : decode cX4_carry 53 = .ok (.aload_n 2, 1) := by decide +kernel
theorem dX4_carry_54 : decode cX4_carry 54 = .ok (.getfield 120, 3) := by decide +kernel
theorem dX4_carry_57 : decode cX4_carry 57 = .ok (.bipush 8, 2) := by decide +kernel
theorem dX4_carry_59 : decode cX4_carry 59 = .ok (.if_icmp .ne 11, 3) := by decide +kernel
theorem dX4_carry_62 : decode cX4_carry 62 = .ok (.aload_n 1, 1) := by decide +kernel
theorem dX4_carry_63 : decode cX4_carry 63 = .ok (.iconst 3, 1) := by decide +kernel
theorem dX4_carry_64 : decode cX4_carry 64 = .ok (.putfield 114, 3) := by decide +kernel
theorem dX4_carry_67 : decode cX4_carry 67 = .ok (.goto 39, 3) := by decide +kernel
theorem dX4_carry_70 : decode cX4_carry 70 = .ok (.aload_n 1, 1) := by decide +kernel
theorem dX4_carry_71 : decode cX4_carry 71 = .ok (.getfield 114, 3) := by decide +kernel
theorem dX4_carry_74 : decode cX4_carry 74 = .ok (.iconst 1, 1) := by decide +kernel
theorem dX4_carry_75 : decode cX4_carry 75 = .ok (.if_icmp .ne 31, 3) := by decide +kernel
theorem dX4_carry_78 : decode cX4_carry 78 = .ok (.aload_n 0, 1) := by decide +kernel
theorem dX4_carry_79 : decode cX4_carry 79 = .ok (.getfield 55, 3) := by decide +kernel
theorem dX4_carry_82 : decode cX4_carry 82 = .ok (.aload_n 1, 1) := by decide +kernel
theorem dX4_carry_83 : decode cX4_carry 83 = .ok (.getfield 196, 3) := by decide +kernel
theorem dX4_carry_86 : decode cX4_carry 86 = .ok (.if_icmp .lt 20, 3) := by decide +kernel
theorem dX4_carry_89 : decode cX4_carry 89 = .ok (.aload_n 1, 1) := by decide +kernel
theorem dX4_carry_90 : decode cX4_carry 90 = .ok (.aload_n 2, 1) := by decide +kernel
theorem dX4_carry_91 : decode cX4_carry 91 = .ok (.iconst 5, 1) := by decide +kernel
theorem dX4_carry_92 : decode cX4_carry 92 = .ok (.invokevirtual 201, 3) := by decide +kernel
theorem dX4_carry_95 : decode cX4_carry 95 = .ok (.ifCond .eq 7, 3) := by decide +kernel
theorem dX4_carry_98 : decode cX4_carry 98 = .ok (.iconst 3, 1) := by decide +kernel
theorem dX4_carry_99 : decode cX4_carry 99 = .ok (.goto 4, 3) := by decide +kernel
theorem dX4_carry_102 : decode cX4_carry 102 = .ok (.iconst 2, 1) := by decide +kernel
theorem dX4_carry_103 : decode cX4_carry 103 = .ok (.putfield 114, 3) := by decide +kernel
theorem dX4_carry_106 : decode cX4_carry 106 = .ok (.return_, 1) := by decide +kernel
theorem dX4_isNothing_0 : decode cX4_isNothing 0 = .ok (.aload_n 1, 1) := by decide +kernel
theorem dX4_isNothing_1 : decode cX4_isNothing 1 = .ok (.getfield 94, 3) := by decide +kernel
theorem dX4_isNothing_4 : decode cX4_isNothing 4 = .ok (.iload_n 2, 1) := by decide +kernel
theorem dX4_isNothing_5 : decode cX4_isNothing 5 = .ok (.invokestatic 222, 3) := by decide +kernel
theorem dX4_isNothing_8 : decode cX4_isNothing 8 = .ok (.ifCond .eq 19, 3) := by decide +kernel
theorem dX4_isNothing_11 : decode cX4_isNothing 11 = .ok (.iload_n 2, 1) := by decide +kernel
theorem dX4_isNothing_12 : decode cX4_isNothing 12 = .ok (.bipush 6, 2) := by decide +kernel
theorem dX4_isNothing_14 : decode cX4_isNothing 14 = .ok (.if_icmp .ne 17, 3) := by decide +kernel
theorem dX4_isNothing_17 : decode cX4_isNothing 17 = .ok (.aload_n 0, 1) := by decide +kernel
theorem dX4_isNothing_18 : decode cX4_isNothing 18 = .ok (.getfield 11, 3) := by decide +kernel
theorem dX4_isNothing_21 : decode cX4_isNothing 21 = .ok (.bipush 6, 2) := by decide +kernel
theorem dX4_isNothing_23 : decode cX4_isNothing 23 = .ok (.iaload, 1) := by decide +kernel
theorem dX4_isNothing_24 : decode cX4_isNothing 24 = .ok (.ifCond .ne 7, 3) := by decide +kernel
theorem dX4_isNothing_27 : decode cX4_isNothing 27 = .ok (.iconst 1, 1) := by decide +kernel
theorem dX4_isNothing_28 : decode cX4_isNothing 28 = .ok (.goto 4, 3) := by decide +kernel
theorem dX4_isNothing_31 : decode cX4_isNothing 31 = .ok (.iconst 0, 1) := by decide +kernel
theorem dX4_isNothing_32 : decode cX4_isNothing 32 = .ok (.ireturn, 1) := by decide +kernel
theorem dX4_openFeeds_0 : decode cX4_openFeeds 0 = .ok (.iconst 0, 1) := by decide +kernel
theorem dX4_openFeeds_1 : decode cX4_openFeeds 1 = .ok (.istore_n 2, 1) := by decide +kernel
theorem dX4_openFeeds_2 : decode cX4_openFeeds 2 = .ok (.iconst 0, 1) := by decide +kernel
theorem dX4_openFeeds_3 : decode cX4_openFeeds 3 = .ok (.istore_n 3, 1) := by decide +kernel
theorem dX4_openFeeds_4 : decode cX4_openFeeds 4 = .ok (.iload_n 3, 1) := by decide +kernel
theorem dX4_openFeeds_5 : decode cX4_openFeeds 5 = .ok (.aload_n 0, 1) := by decide +kernel
theorem dX4_openFeeds_6 : decode cX4_openFeeds 6 = .ok (.getfield 65, 3) := by decide +kernel
theorem dX4_openFeeds_9 : decode cX4_openFeeds 9 = .ok (.if_icmp .ge 38, 3) := by decide +kernel
theorem dX4_openFeeds_12 : decode cX4_openFeeds 12 = .ok (.aload_n 0, 1) := by decide +kernel
theorem dX4_openFeeds_13 : decode cX4_openFeeds 13 = .ok (.getfield 40, 3) := by decide +kernel
theorem dX4_openFeeds_16 : decode cX4_openFeeds 16 = .ok (.iload_n 3, 1) := by decide +kernel
theorem dX4_openFeeds_17 : decode cX4_openFeeds 17 = .ok (.aaload, 1) := by decide +kernel
theorem dX4_openFeeds_18 : decode cX4_openFeeds 18 = .ok (.getfield 198, 3) := by decide +kernel
theorem dX4_openFeeds_21 : decode cX4_openFeeds 21 = .ok (.iload_n 1, 1) := by decide +kernel
theorem dX4_openFeeds_22 : decode cX4_openFeeds 22 = .ok (.if_icmp .ne 19, 3) := by decide +kernel
theorem dX4_openFeeds_25 : decode cX4_openFeeds 25 = .ok (.aload_n 0, 1) := by decide +kernel
theorem dX4_openFeeds_26 : decode cX4_openFeeds 26 = .ok (.getfield 40, 3) := by decide +kernel
theorem dX4_openFeeds_29 : decode cX4_openFeeds 29 = .ok (.iload_n 3, 1) := by decide +kernel
theorem dX4_openFeeds_30 : decode cX4_openFeeds 30 = .ok (.aaload, 1) := by decide +kernel
theorem dX4_openFeeds_31 : decode cX4_openFeeds 31 = .ok (.getfield 114, 3) := by decide +kernel
theorem dX4_openFeeds_34 : decode cX4_openFeeds 34 = .ok (.iconst 2, 1) := by decide +kernel
theorem dX4_openFeeds_35 : decode cX4_openFeeds 35 = .ok (.if_icmp .ge 6, 3) := by decide +kernel
theorem dX4_openFeeds_38 : decode cX4_openFeeds 38 = .ok (.iinc 2 1, 3) := by decide +kernel
theorem dX4_openFeeds_41 : decode cX4_openFeeds 41 = .ok (.iinc 3 1, 3) := by decide +kernel
theorem dX4_openFeeds_44 : decode cX4_openFeeds 44 = .ok (.goto (-40), 3) := by decide +kernel
theorem dX4_openFeeds_47 : decode cX4_openFeeds 47 = .ok (.iload_n 2, 1) := by decide +kernel
theorem dX4_openFeeds_48 : decode cX4_openFeeds 48 = .ok (.ireturn, 1) := by decide +kernel
theorem dX4_learn_0 : decode cX4_learn 0 = .ok (.aload_n 0, 1) := by decide +kernel
theorem dX4_learn_1 : decode cX4_learn 1 = .ok (.getfield 34, 3) := by decide +kernel
theorem dX4_learn_4 : decode cX4_learn 4 = .ok (.iload_n 1, 1) := by decide +kernel
theorem dX4_learn_5 : decode cX4_learn 5 = .ok (.aaload, 1) := by decide +kernel
theorem dX4_learn_6 : decode cX4_learn 6 = .ok (.astore_n 3, 1) := by decide +kernel
theorem dX4_learn_7 : decode cX4_learn 7 = .ok (.aload_n 0, 1) := by decide +kernel
theorem dX4_learn_8 : decode cX4_learn 8 = .ok (.getfield 46, 3) := by decide +kernel
theorem dX4_learn_11 : decode cX4_learn 11 = .ok (.iconst 0, 1) := by decide +kernel
theorem dX4_learn_12 : decode cX4_learn 12 = .ok (.aload_n 3, 1) := by decide +kernel
theorem dX4_learn_13 : decode cX4_learn 13 = .ok (.getfield 120, 3) := by decide +kernel
theorem dX4_learn_16 : decode cX4_learn 16 = .ok (.iconst 1, 1) := by decide +kernel
theorem dX4_learn_17 : decode cX4_learn 17 = .ok (.if_icmp .ne 7, 3) := by decide +kernel
theorem dX4_learn_20 : decode cX4_learn 20 = .ok (.iconst 1, 1) := by decide +kernel
theorem dX4_learn_21 : decode cX4_learn 21 = .ok (.goto 4, 3) := by decide +kernel
theorem dX4_learn_24 : decode cX4_learn 24 = .ok (.iconst 0, 1) := by decide +kernel
theorem dX4_learn_25 : decode cX4_learn 25 = .ok (.iastore, 1) := by decide +kernel
theorem dX4_learn_26 : decode cX4_learn 26 = .ok (.aload_n 0, 1) := by decide +kernel
theorem dX4_learn_27 : decode cX4_learn 27 = .ok (.getfield 46, 3) := by decide +kernel
theorem dX4_learn_30 : decode cX4_learn 30 = .ok (.iconst 1, 1) := by decide +kernel
theorem dX4_learn_31 : decode cX4_learn 31 = .ok (.iconst 0, 1) := by decide +kernel
theorem dX4_learn_32 : decode cX4_learn 32 = .ok (.aload_n 0, 1) := by decide +kernel
theorem dX4_learn_33 : decode cX4_learn 33 = .ok (.getfield 55, 3) := by decide +kernel
theorem dX4_learn_36 : decode cX4_learn 36 = .ok (.aload_n 3, 1) := by decide +kernel
theorem dX4_learn_37 : decode cX4_learn 37 = .ok (.getfield 228, 3) := by decide +kernel
theorem dX4_learn_40 : decode cX4_learn 40 = .ok (.isub, 1) := by decide +kernel
theorem dX4_learn_41 : decode cX4_learn 41 = .ok (.invokestatic 247, 3) := by decide +kernel
theorem dX4_learn_44 : decode cX4_learn 44 = .ok (.iastore, 1) := by decide +kernel
theorem dX4_learn_45 : decode cX4_learn 45 = .ok (.aload_n 0, 1) := by decide +kernel
theorem dX4_learn_46 : decode cX4_learn 46 = .ok (.getfield 46, 3) := by decide +kernel
theorem dX4_learn_49 : decode cX4_learn 49 = .ok (.iconst 2, 1) := by decide +kernel
theorem dX4_learn_50 : decode cX4_learn 50 = .ok (.aload_n 3, 1) := by decide +kernel
theorem dX4_learn_51 : decode cX4_learn 51 = .ok (.getfield 94, 3) := by decide +kernel
theorem dX4_learn_54 : decode cX4_learn 54 = .ok (.iastore, 1) := by decide +kernel
theorem dX4_learn_55 : decode cX4_learn 55 = .ok (.aload_n 0, 1) := by decide +kernel
theorem dX4_learn_56 : decode cX4_learn 56 = .ok (.getfield 46, 3) := by decide +kernel
theorem dX4_learn_59 : decode cX4_learn 59 = .ok (.iconst 3, 1) := by decide +kernel
theorem dX4_learn_60 : decode cX4_learn 60 = .ok (.aload_n 0, 1) := by decide +kernel
theorem dX4_learn_61 : decode cX4_learn 61 = .ok (.getfield 55, 3) := by decide +kernel
theorem dX4_learn_64 : decode cX4_learn 64 = .ok (.aload_n 3, 1) := by decide +kernel
theorem dX4_learn_65 : decode cX4_learn 65 = .ok (.getfield 147, 3) := by decide +kernel
theorem dX4_learn_68 : decode cX4_learn 68 = .ok (.isub, 1) := by decide +kernel
theorem dX4_learn_69 : decode cX4_learn 69 = .ok (.iastore, 1) := by decide +kernel
theorem dX4_learn_70 : decode cX4_learn 70 = .ok (.aload_n 0, 1) := by decide +kernel
theorem dX4_learn_71 : decode cX4_learn 71 = .ok (.getfield 46, 3) := by decide +kernel
theorem dX4_learn_74 : decode cX4_learn 74 = .ok (.iconst 4, 1) := by decide +kernel
theorem dX4_learn_75 : decode cX4_learn 75 = .ok (.iload_n 2, 1) := by decide +kernel
theorem dX4_learn_76 : decode cX4_learn 76 = .ok (.iastore, 1) := by decide +kernel
theorem dX4_learn_77 : decode cX4_learn 77 = .ok (.aload_n 0, 1) := by decide +kernel
theorem dX4_learn_78 : decode cX4_learn 78 = .ok (.getfield 46, 3) := by decide +kernel
theorem dX4_learn_81 : decode cX4_learn 81 = .ok (.iconst 5, 1) := by decide +kernel
theorem dX4_learn_82 : decode cX4_learn 82 = .ok (.aload_n 0, 1) := by decide +kernel
theorem dX4_learn_83 : decode cX4_learn 83 = .ok (.getfield 11, 3) := by decide +kernel
theorem dX4_learn_86 : decode cX4_learn 86 = .ok (.iconst 5, 1) := by decide +kernel
theorem dX4_learn_87 : decode cX4_learn 87 = .ok (.iaload, 1) := by decide +kernel
theorem dX4_learn_88 : decode cX4_learn 88 = .ok (.iastore, 1) := by decide +kernel
theorem dX4_learn_89 : decode cX4_learn 89 = .ok (.aload_n 0, 1) := by decide +kernel
theorem dX4_learn_90 : decode cX4_learn 90 = .ok (.getfield 46, 3) := by decide +kernel
theorem dX4_learn_93 : decode cX4_learn 93 = .ok (.bipush 6, 2) := by decide +kernel
theorem dX4_learn_95 : decode cX4_learn 95 = .ok (.aload_n 0, 1) := by decide +kernel
theorem dX4_learn_96 : decode cX4_learn 96 = .ok (.iload_n 1, 1) := by decide +kernel
theorem dX4_learn_97 : decode cX4_learn 97 = .ok (.invokevirtual 237, 3) := by decide +kernel
theorem dX4_learn_100 : decode cX4_learn 100 = .ok (.iastore, 1) := by decide +kernel
theorem dX4_learn_101 : decode cX4_learn 101 = .ok (.aload_n 0, 1) := by decide +kernel
theorem dX4_learn_102 : decode cX4_learn 102 = .ok (.getfield 46, 3) := by decide +kernel
theorem dX4_learn_105 : decode cX4_learn 105 = .ok (.bipush 7, 2) := by decide +kernel
theorem dX4_learn_107 : decode cX4_learn 107 = .ok (.aload_n 3, 1) := by decide +kernel
theorem dX4_learn_108 : decode cX4_learn 108 = .ok (.invokevirtual 231, 3) := by decide +kernel
theorem dX4_learn_111 : decode cX4_learn 111 = .ok (.aload_n 0, 1) := by decide +kernel
theorem dX4_learn_112 : decode cX4_learn 112 = .ok (.getfield 55, 3) := by decide +kernel
theorem dX4_learn_115 : decode cX4_learn 115 = .ok (.isub, 1) := by decide +kernel
theorem dX4_learn_116 : decode cX4_learn 116 = .ok (.iastore, 1) := by decide +kernel
theorem dX4_learn_117 : decode cX4_learn 117 = .ok (.return_, 1) := by decide +kernel
theorem dX4_waitsForBags_0 : decode cX4_waitsForBags 0 = .ok (.aload_n 0, 1) := by decide +kernel
theorem dX4_waitsForBags_1 : decode cX4_waitsForBags 1 = .ok (.iload_n 1, 1) := by decide +kernel
theorem dX4_waitsForBags_2 : decode cX4_waitsForBags 2 = .ok (.invokevirtual 237, 3) := by decide +kernel
theorem dX4_waitsForBags_5 : decode cX4_waitsForBags 5 = .ok (.ifCond .ne 5, 3) := by decide +kernel
theorem dX4_waitsForBags_8 : decode cX4_waitsForBags 8 = .ok (.iconst 0, 1) := by decide +kernel
theorem dX4_waitsForBags_9 : decode cX4_waitsForBags 9 = .ok (.ireturn, 1) := by decide +kernel
theorem dX4_waitsForBags_10 : decode cX4_waitsForBags 10 = .ok (.aload_n 0, 1) := by decide +kernel
theorem dX4_waitsForBags_11 : decode cX4_waitsForBags 11 = .ok (.iload_n 1, 1) := by decide +kernel
theorem dX4_waitsForBags_12 : decode cX4_waitsForBags 12 = .ok (.iconst (-1), 1) := by decide +kernel
theorem dX4_waitsForBags_13 : decode cX4_waitsForBags 13 = .ok (.invokevirtual 240, 3) := by decide +kernel
theorem dX4_waitsForBags_16 : decode cX4_waitsForBags 16 = .ok (.aload_n 0, 1) := by decide +kernel
theorem dX4_waitsForBags_17 : decode cX4_waitsForBags 17 = .ok (.getfield 34, 3) := by decide +kernel
theorem dX4_waitsForBags_20 : decode cX4_waitsForBags 20 = .ok (.iload_n 1, 1) := by decide +kernel
theorem dX4_waitsForBags_21 : decode cX4_waitsForBags 21 = .ok (.aaload, 1) := by decide +kernel
theorem dX4_waitsForBags_22 : decode cX4_waitsForBags 22 = .ok (.getfield 228, 3) := by decide +kernel
theorem dX4_waitsForBags_25 : decode cX4_waitsForBags 25 = .ok (.i2l, 1) := by decide +kernel
theorem dX4_waitsForBags_26 : decode cX4_waitsForBags 26 = .ok (.iconst 0, 1) := by decide +kernel
theorem dX4_waitsForBags_27 : decode cX4_waitsForBags 27 = .ok (.aload_n 0, 1) := by decide +kernel
theorem dX4_waitsForBags_28 : decode cX4_waitsForBags 28 = .ok (.getfield 49, 3) := by decide +kernel
theorem dX4_waitsForBags_31 : decode cX4_waitsForBags 31 = .ok (.iconst 2, 1) := by decide +kernel
theorem dX4_waitsForBags_32 : decode cX4_waitsForBags 32 = .ok (.aload_n 0, 1) := by decide +kernel
theorem dX4_waitsForBags_33 : decode cX4_waitsForBags 33 = .ok (.getfield 46, 3) := by decide +kernel
theorem dX4_waitsForBags_36 : decode cX4_waitsForBags 36 = .ok (.invokevirtual 243, 3) := by decide +kernel
theorem dX4_waitsForBags_39 : decode cX4_waitsForBags 39 = .ok (.invokestatic 247, 3) := by decide +kernel
theorem dX4_waitsForBags_42 : decode cX4_waitsForBags 42 = .ok (.i2l, 1) := by decide +kernel
theorem dX4_waitsForBags_43 : decode cX4_waitsForBags 43 = .ok (.ladd, 1) := by decide +kernel
theorem dX4_waitsForBags_44 : decode cX4_waitsForBags 44 = .ok (.lstore_n 2, 1) := by decide +kernel
theorem dX4_waitsForBags_45 : decode cX4_waitsForBags 45 = .ok (.aload_n 0, 1) := by decide +kernel
theorem dX4_waitsForBags_46 : decode cX4_waitsForBags 46 = .ok (.getfield 55, 3) := by decide +kernel
theorem dX4_waitsForBags_49 : decode cX4_waitsForBags 49 = .ok (.i2l, 1) := by decide +kernel
theorem dX4_waitsForBags_50 : decode cX4_waitsForBags 50 = .ok (.lload_n 2, 1) := by decide +kernel
theorem dX4_waitsForBags_51 : decode cX4_waitsForBags 51 = .ok (.lcmp, 1) := by decide +kernel
theorem dX4_waitsForBags_52 : decode cX4_waitsForBags 52 = .ok (.ifCond .ge 7, 3) := by decide +kernel
theorem dX4_waitsForBags_55 : decode cX4_waitsForBags 55 = .ok (.iconst 1, 1) := by decide +kernel
theorem dX4_waitsForBags_56 : decode cX4_waitsForBags 56 = .ok (.goto 4, 3) := by decide +kernel
theorem dX4_waitsForBags_59 : decode cX4_waitsForBags 59 = .ok (.iconst 0, 1) := by decide +kernel
theorem dX4_waitsForBags_60 : decode cX4_waitsForBags 60 = .ok (.ireturn, 1) := by decide +kernel
theorem dX4_hindrance_0 : decode cX4_hindrance 0 = .ok (.aload_n 0, 1) := by decide +kernel
theorem dX4_hindrance_1 : decode cX4_hindrance 1 = .ok (.getfield 34, 3) := by decide +kernel
theorem dX4_hindrance_4 : decode cX4_hindrance 4 = .ok (.iload_n 1, 1) := by decide +kernel
theorem dX4_hindrance_5 : decode cX4_hindrance 5 = .ok (.aaload, 1) := by decide +kernel
theorem dX4_hindrance_6 : decode cX4_hindrance 6 = .ok (.astore_n 3, 1) := by decide +kernel
theorem dX4_hindrance_7 : decode cX4_hindrance 7 = .ok (.iload_n 2, 1) := by decide +kernel
theorem dX4_hindrance_8 : decode cX4_hindrance 8 = .ok (.iconst 5, 1) := by decide +kernel
theorem dX4_hindrance_9 : decode cX4_hindrance 9 = .ok (.if_icmp .ne 13, 3) := by decide +kernel
theorem dX4_hindrance_12 : decode cX4_hindrance 12 = .ok (.aload_n 0, 1) := by decide +kernel
theorem dX4_hindrance_13 : decode cX4_hindrance 13 = .ok (.iload_n 1, 1) := by decide +kernel
theorem dX4_hindrance_14 : decode cX4_hindrance 14 = .ok (.invokevirtual 225, 3) := by decide +kernel
theorem dX4_hindrance_17 : decode cX4_hindrance 17 = .ok (.ifCond .eq 5, 3) := by decide +kernel
theorem dX4_hindrance_20 : decode cX4_hindrance 20 = .ok (.iconst 4, 1) := by decide +kernel
theorem dX4_hindrance_21 : decode cX4_hindrance 21 = .ok (.ireturn, 1) := by decide +kernel
theorem dX4_hindrance_22 : decode cX4_hindrance 22 = .ok (.iload_n 2, 1) := by decide +kernel
theorem dX4_hindrance_23 : decode cX4_hindrance 23 = .ok (.bipush 7, 2) := by decide +kernel
theorem dX4_hindrance_25 : decode cX4_hindrance 25 = .ok (.if_icmp .ne 25, 3) := by decide +kernel
theorem dX4_hindrance_28 : decode cX4_hindrance 28 = .ok (.aload_n 0, 1) := by decide +kernel
theorem dX4_hindrance_29 : decode cX4_hindrance 29 = .ok (.getfield 55, 3) := by decide +kernel
theorem dX4_hindrance_32 : decode cX4_hindrance 32 = .ok (.aload_n 3, 1) := by decide +kernel
theorem dX4_hindrance_33 : decode cX4_hindrance 33 = .ok (.getfield 228, 3) := by decide +kernel
theorem dX4_hindrance_36 : decode cX4_hindrance 36 = .ok (.aload_n 3, 1) := by decide +kernel
theorem dX4_hindrance_37 : decode cX4_hindrance 37 = .ok (.getfield 94, 3) := by decide +kernel
theorem dX4_hindrance_40 : decode cX4_hindrance 40 = .ok (.iload_n 2, 1) := by decide +kernel
theorem dX4_hindrance_41 : decode cX4_hindrance 41 = .ok (.invokestatic 222, 3) := by decide +kernel
theorem dX4_hindrance_44 : decode cX4_hindrance 44 = .ok (.isub, 1) := by decide +kernel
theorem dX4_hindrance_45 : decode cX4_hindrance 45 = .ok (.if_icmp .ge 5, 3) := by decide +kernel
theorem dX4_hindrance_48 : decode cX4_hindrance 48 = .ok (.iconst 2, 1) := by decide +kernel
theorem dX4_hindrance_49 : decode cX4_hindrance 49 = .ok (.ireturn, 1) := by decide +kernel
theorem dX4_hindrance_50 : decode cX4_hindrance 50 = .ok (.iload_n 2, 1) := by decide +kernel
theorem dX4_hindrance_51 : decode cX4_hindrance 51 = .ok (.invokestatic 175, 3) := by decide +kernel
theorem dX4_hindrance_54 : decode cX4_hindrance 54 = .ok (.istore 4, 2) := by decide +kernel
theorem dX4_hindrance_56 : decode cX4_hindrance 56 = .ok (.iload 4, 2) := by decide +kernel
theorem dX4_hindrance_58 : decode cX4_hindrance 58 = .ok (.ifCond .lt 22, 3) := by decide +kernel
theorem dX4_hindrance_61 : decode cX4_hindrance 61 = .ok (.aload_n 0, 1) := by decide +kernel
theorem dX4_hindrance_62 : decode cX4_hindrance 62 = .ok (.getfield 17, 3) := by decide +kernel
theorem dX4_hindrance_65 : decode cX4_hindrance 65 = .ok (.iload 4, 2) := by decide +kernel
theorem dX4_hindrance_67 : decode cX4_hindrance 67 = .ok (.iaload, 1) := by decide +kernel
theorem dX4_hindrance_68 : decode cX4_hindrance 68 = .ok (.aload_n 0, 1) := by decide +kernel
theorem dX4_hindrance_69 : decode cX4_hindrance 69 = .ok (.getfield 11, 3) := by decide +kernel
theorem dX4_hindrance_72 : decode cX4_hindrance 72 = .ok (.iload 4, 2) := by decide +kernel
theorem dX4_hindrance_74 : decode cX4_hindrance 74 = .ok (.iaload, 1) := by decide +kernel
theorem dX4_hindrance_75 : decode cX4_hindrance 75 = .ok (.if_icmp .lt 5, 3) := by decide +kernel
theorem dX4_hindrance_78 : decode cX4_hindrance 78 = .ok (.iconst 3, 1) := by decide +kernel
theorem dX4_hindrance_79 : decode cX4_hindrance 79 = .ok (.ireturn, 1) := by decide +kernel
theorem dX4_hindrance_80 : decode cX4_hindrance 80 = .ok (.iload_n 2, 1) := by decide +kernel
theorem dX4_hindrance_81 : decode cX4_hindrance 81 = .ok (.bipush 7, 2) := by decide +kernel
theorem dX4_hindrance_83 : decode cX4_hindrance 83 = .ok (.if_icmp .ne 27, 3) := by decide +kernel
theorem dX4_hindrance_86 : decode cX4_hindrance 86 = .ok (.aload_n 0, 1) := by decide +kernel
theorem dX4_hindrance_87 : decode cX4_hindrance 87 = .ok (.getfield 55, 3) := by decide +kernel
theorem dX4_hindrance_90 : decode cX4_hindrance 90 = .ok (.aload_n 3, 1) := by decide +kernel
theorem dX4_hindrance_91 : decode cX4_hindrance 91 = .ok (.invokevirtual 231, 3) := by decide +kernel
theorem dX4_hindrance_94 : decode cX4_hindrance 94 = .ok (.if_icmp .le 16, 3) := by decide +kernel
theorem dX4_hindrance_97 : decode cX4_hindrance 97 = .ok (.aload_n 0, 1) := by decide +kernel
theorem dX4_hindrance_98 : decode cX4_hindrance 98 = .ok (.getfield 11, 3) := by decide +kernel
theorem dX4_hindrance_101 : decode cX4_hindrance 101 = .ok (.bipush 7, 2) := by decide +kernel
theorem dX4_hindrance_103 : decode cX4_hindrance 103 = .ok (.iaload, 1) := by decide +kernel
theorem dX4_hindrance_104 : decode cX4_hindrance 104 = .ok (.ifCond .ne 6, 3) := by decide +kernel
theorem dX4_hindrance_107 : decode cX4_hindrance 107 = .ok (.bipush 7, 2) := by decide +kernel
theorem dX4_hindrance_109 : decode cX4_hindrance 109 = .ok (.ireturn, 1) := by decide +kernel
theorem dX4_hindrance_110 : decode cX4_hindrance 110 = .ok (.iconst (-1), 1) := by decide +kernel
theorem dX4_hindrance_111 : decode cX4_hindrance 111 = .ok (.ireturn, 1) := by decide +kernel
theorem dX4_startNow_0 : decode cX4_startNow 0 = .ok (.iload_n 2, 1) := by decide +kernel
theorem dX4_startNow_1 : decode cX4_startNow 1 = .ok (.invokestatic 175, 3) := by decide +kernel
theorem dX4_startNow_4 : decode cX4_startNow 4 = .ok (.istore_n 3, 1) := by decide +kernel
theorem dX4_startNow_5 : decode cX4_startNow 5 = .ok (.iload_n 3, 1) := by decide +kernel
theorem dX4_startNow_6 : decode cX4_startNow 6 = .ok (.ifCond .lt 13, 3) := by decide +kernel
theorem dX4_startNow_9 : decode cX4_startNow 9 = .ok (.aload_n 0, 1) := by decide +kernel
theorem dX4_startNow_10 : decode cX4_startNow 10 = .ok (.getfield 17, 3) := by decide +kernel
theorem dX4_startNow_13 : decode cX4_startNow 13 = .ok (.iload_n 3, 1) := by decide +kernel
theorem dX4_startNow_14 : decode cX4_startNow 14 = .ok (.dup2, 1) := by decide +kernel
theorem dX4_startNow_15 : decode cX4_startNow 15 = .ok (.iaload, 1) := by decide +kernel
theorem dX4_startNow_16 : decode cX4_startNow 16 = .ok (.iconst 1, 1) := by decide +kernel
theorem dX4_startNow_17 : decode cX4_startNow 17 = .ok (.iadd, 1) := by decide +kernel
theorem dX4_startNow_18 : decode cX4_startNow 18 = .ok (.iastore, 1) := by decide +kernel
theorem dX4_startNow_19 : decode cX4_startNow 19 = .ok (.iload_n 2, 1) := by decide +kernel
theorem dX4_startNow_20 : decode cX4_startNow 20 = .ok (.bipush 7, 2) := by decide +kernel
theorem dX4_startNow_22 : decode cX4_startNow 22 = .ok (.if_icmp .ne 25, 3) := by decide +kernel
theorem dX4_startNow_25 : decode cX4_startNow 25 = .ok (.aload_n 0, 1) := by decide +kernel
theorem dX4_startNow_26 : decode cX4_startNow 26 = .ok (.getfield 55, 3) := by decide +kernel
theorem dX4_startNow_29 : decode cX4_startNow 29 = .ok (.aload_n 1, 1) := by decide +kernel
theorem dX4_startNow_30 : decode cX4_startNow 30 = .ok (.invokevirtual 231, 3) := by decide +kernel
theorem dX4_startNow_33 : decode cX4_startNow 33 = .ok (.if_icmp .le 14, 3) := by decide +kernel
theorem dX4_startNow_36 : decode cX4_startNow 36 = .ok (.aload_n 0, 1) := by decide +kernel
theorem dX4_startNow_37 : decode cX4_startNow 37 = .ok (.getfield 11, 3) := by decide +kernel
theorem dX4_startNow_40 : decode cX4_startNow 40 = .ok (.bipush 7, 2) := by decide +kernel
theorem dX4_startNow_42 : decode cX4_startNow 42 = .ok (.dup2, 1) := by decide +kernel
theorem dX4_startNow_43 : decode cX4_startNow 43 = .ok (.iaload, 1) := by decide +kernel
theorem dX4_startNow_44 : decode cX4_startNow 44 = .ok (.iconst 1, 1) := by decide +kernel
theorem dX4_startNow_45 : decode cX4_startNow 45 = .ok (.isub, 1) := by decide +kernel
theorem dX4_startNow_46 : decode cX4_startNow 46 = .ok (.iastore, 1) := by decide +kernel
theorem dX4_startNow_47 : decode cX4_startNow 47 = .ok (.aload_n 1, 1) := by decide +kernel
theorem dX4_startNow_48 : decode cX4_startNow 48 = .ok (.iload_n 2, 1) := by decide +kernel
theorem dX4_startNow_49 : decode cX4_startNow 49 = .ok (.invokevirtual 234, 3) := by decide +kernel
theorem dX4_startNow_52 : decode cX4_startNow 52 = .ok (.return_, 1) := by decide +kernel
theorem dX4_serve_0 : decode cX4_serve 0 = .ok (.aload_n 0, 1) := by decide +kernel
theorem dX4_serve_1 : decode cX4_serve 1 = .ok (.getfield 34, 3) := by decide +kernel
theorem dX4_serve_4 : decode cX4_serve 4 = .ok (.iload_n 1, 1) := by decide +kernel
theorem dX4_serve_5 : decode cX4_serve 5 = .ok (.aaload, 1) := by decide +kernel
theorem dX4_serve_6 : decode cX4_serve 6 = .ok (.astore_n 2, 1) := by decide +kernel
theorem dX4_serve_7 : decode cX4_serve 7 = .ok (.aload_n 2, 1) := by decide +kernel
theorem dX4_serve_8 : decode cX4_serve 8 = .ok (.iconst (-1), 1) := by decide +kernel
theorem dX4_serve_9 : decode cX4_serve 9 = .ok (.putfield 204, 3) := by decide +kernel
theorem dX4_serve_12 : decode cX4_serve 12 = .ok (.iconst 0, 1) := by decide +kernel
theorem dX4_serve_13 : decode cX4_serve 13 = .ok (.istore_n 3, 1) := by decide +kernel
theorem dX4_serve_14 : decode cX4_serve 14 = .ok (.iload_n 3, 1) := by decide +kernel
theorem dX4_serve_15 : decode cX4_serve 15 = .ok (.bipush 8, 2) := by decide +kernel
theorem dX4_serve_17 : decode cX4_serve 17 = .ok (.if_icmp .ge 91, 3) := by decide +kernel
theorem dX4_serve_20 : decode cX4_serve 20 = .ok (.aload_n 2, 1) := by decide +kernel
theorem dX4_serve_21 : decode cX4_serve 21 = .ok (.iload_n 3, 1) := by decide +kernel
theorem dX4_serve_22 : decode cX4_serve 22 = .ok (.invokevirtual 201, 3) := by decide +kernel
theorem dX4_serve_25 : decode cX4_serve 25 = .ok (.ifCond .ne 77, 3) := by decide +kernel
theorem dX4_serve_28 : decode cX4_serve 28 = .ok (.aload_n 2, 1) := by decide +kernel
theorem dX4_serve_29 : decode cX4_serve 29 = .ok (.iload_n 3, 1) := by decide +kernel
theorem dX4_serve_30 : decode cX4_serve 30 = .ok (.invokevirtual 207, 3) := by decide +kernel
theorem dX4_serve_33 : decode cX4_serve 33 = .ok (.ifCond .ne 6, 3) := by decide +kernel
theorem dX4_serve_36 : decode cX4_serve 36 = .ok (.goto 66, 3) := by decide +kernel
theorem dX4_serve_39 : decode cX4_serve 39 = .ok (.iconst 2, 1) := by decide +kernel
theorem dX4_serve_40 : decode cX4_serve 40 = .ok (.istore 4, 2) := by decide +kernel
theorem dX4_serve_42 : decode cX4_serve 42 = .ok (.aload_n 2, 1) := by decide +kernel
theorem dX4_serve_43 : decode cX4_serve 43 = .ok (.iload_n 3, 1) := by decide +kernel
theorem dX4_serve_44 : decode cX4_serve 44 = .ok (.invokevirtual 162, 3) := by decide +kernel
theorem dX4_serve_47 : decode cX4_serve 47 = .ok (.ifCond .ne 42, 3) := by decide +kernel
theorem dX4_serve_50 : decode cX4_serve 50 = .ok (.aload_n 0, 1) := by decide +kernel
theorem dX4_serve_51 : decode cX4_serve 51 = .ok (.aload_n 2, 1) := by decide +kernel
theorem dX4_serve_52 : decode cX4_serve 52 = .ok (.iload_n 3, 1) := by decide +kernel
theorem dX4_serve_53 : decode cX4_serve 53 = .ok (.invokevirtual 210, 3) := by decide +kernel
theorem dX4_serve_56 : decode cX4_serve 56 = .ok (.ifCond .eq 11, 3) := by decide +kernel
theorem dX4_serve_59 : decode cX4_serve 59 = .ok (.aload_n 2, 1) := by decide +kernel
theorem dX4_serve_60 : decode cX4_serve 60 = .ok (.iload_n 3, 1) := by decide +kernel
theorem dX4_serve_61 : decode cX4_serve 61 = .ok (.invokevirtual 172, 3) := by decide +kernel
theorem dX4_serve_64 : decode cX4_serve 64 = .ok (.goto 38, 3) := by decide +kernel
theorem dX4_serve_67 : decode cX4_serve 67 = .ok (.aload_n 0, 1) := by decide +kernel
theorem dX4_serve_68 : decode cX4_serve 68 = .ok (.iload_n 1, 1) := by decide +kernel
theorem dX4_serve_69 : decode cX4_serve 69 = .ok (.iload_n 3, 1) := by decide +kernel
theorem dX4_serve_70 : decode cX4_serve 70 = .ok (.invokevirtual 214, 3) := by decide +kernel
theorem dX4_serve_73 : decode cX4_serve 73 = .ok (.istore 4, 2) := by decide +kernel
theorem dX4_serve_75 : decode cX4_serve 75 = .ok (.iload 4, 2) := by decide +kernel
theorem dX4_serve_77 : decode cX4_serve 77 = .ok (.ifCond .ge 12, 3) := by decide +kernel
theorem dX4_serve_80 : decode cX4_serve 80 = .ok (.aload_n 0, 1) := by decide +kernel
theorem dX4_serve_81 : decode cX4_serve 81 = .ok (.aload_n 2, 1) := by decide +kernel
theorem dX4_serve_82 : decode cX4_serve 82 = .ok (.iload_n 3, 1) := by decide +kernel
theorem dX4_serve_83 : decode cX4_serve 83 = .ok (.invokevirtual 218, 3) := by decide +kernel
theorem dX4_serve_86 : decode cX4_serve 86 = .ok (.iconst 2, 1) := by decide +kernel
theorem dX4_serve_87 : decode cX4_serve 87 = .ok (.istore 4, 2) := by decide +kernel
theorem dX4_serve_89 : decode cX4_serve 89 = .ok (.aload_n 2, 1) := by decide +kernel
theorem dX4_serve_90 : decode cX4_serve 90 = .ok (.getfield 204, 3) := by decide +kernel
theorem dX4_serve_93 : decode cX4_serve 93 = .ok (.ifCond .ge 9, 3) := by decide +kernel
theorem dX4_serve_96 : decode cX4_serve 96 = .ok (.aload_n 2, 1) := by decide +kernel
theorem dX4_serve_97 : decode cX4_serve 97 = .ok (.iload 4, 2) := by decide +kernel
theorem dX4_serve_99 : decode cX4_serve 99 = .ok (.putfield 204, 3) := by decide +kernel
theorem dX4_serve_102 : decode cX4_serve 102 = .ok (.iinc 3 1, 3) := by decide +kernel
theorem dX4_serve_105 : decode cX4_serve 105 = .ok (.goto (-91), 3) := by decide +kernel
theorem dX4_serve_108 : decode cX4_serve 108 = .ok (.return_, 1) := by decide +kernel
theorem dX4_iceAgain_0 : decode cX4_iceAgain 0 = .ok (.aload_n 1, 1) := by decide +kernel
theorem dX4_iceAgain_1 : decode cX4_iceAgain 1 = .ok (.getfield 120, 3) := by decide +kernel
theorem dX4_iceAgain_4 : decode cX4_iceAgain 4 = .ok (.iconst 5, 1) := by decide +kernel
theorem dX4_iceAgain_5 : decode cX4_iceAgain 5 = .ok (.if_icmp .ne 30, 3) := by decide +kernel
theorem dX4_iceAgain_8 : decode cX4_iceAgain 8 = .ok (.aload_n 1, 1) := by decide +kernel
theorem dX4_iceAgain_9 : decode cX4_iceAgain 9 = .ok (.bipush 6, 2) := by decide +kernel
theorem dX4_iceAgain_11 : decode cX4_iceAgain 11 = .ok (.invokevirtual 162, 3) := by decide +kernel
theorem dX4_iceAgain_14 : decode cX4_iceAgain 14 = .ok (.ifCond .ne 21, 3) := by decide +kernel
theorem dX4_iceAgain_17 : decode cX4_iceAgain 17 = .ok (.aload_n 1, 1) := by decide +kernel
theorem dX4_iceAgain_18 : decode cX4_iceAgain 18 = .ok (.aload_n 0, 1) := by decide +kernel
theorem dX4_iceAgain_19 : decode cX4_iceAgain 19 = .ok (.getfield 11, 3) := by decide +kernel
theorem dX4_iceAgain_22 : decode cX4_iceAgain 22 = .ok (.bipush 6, 2) := by decide +kernel
theorem dX4_iceAgain_24 : decode cX4_iceAgain 24 = .ok (.iaload, 1) := by decide +kernel
theorem dX4_iceAgain_25 : decode cX4_iceAgain 25 = .ok (.aload_n 0, 1) := by decide +kernel
theorem dX4_iceAgain_26 : decode cX4_iceAgain 26 = .ok (.getfield 55, 3) := by decide +kernel
theorem dX4_iceAgain_29 : decode cX4_iceAgain 29 = .ok (.invokevirtual 252, 3) := by decide +kernel
theorem dX4_iceAgain_32 : decode cX4_iceAgain 32 = .ok (.ifCond .ne 4, 3) := by decide +kernel
theorem dX4_iceAgain_35 : decode cX4_iceAgain 35 = .ok (.return_, 1) := by decide +kernel
theorem dX4_iceAgain_36 : decode cX4_iceAgain 36 = .ok (.aload_n 0, 1) := by decide +kernel
theorem dX4_iceAgain_37 : decode cX4_iceAgain 37 = .ok (.getfield 17, 3) := by decide +kernel
theorem dX4_iceAgain_40 : decode cX4_iceAgain 40 = .ok (.iconst 4, 1) := by decide +kernel
theorem dX4_iceAgain_41 : decode cX4_iceAgain 41 = .ok (.iaload, 1) := by decide +kernel
theorem dX4_iceAgain_42 : decode cX4_iceAgain 42 = .ok (.aload_n 0, 1) := by decide +kernel
theorem dX4_iceAgain_43 : decode cX4_iceAgain 43 = .ok (.getfield 11, 3) := by decide +kernel
theorem dX4_iceAgain_46 : decode cX4_iceAgain 46 = .ok (.iconst 4, 1) := by decide +kernel
theorem dX4_iceAgain_47 : decode cX4_iceAgain 47 = .ok (.iaload, 1) := by decide +kernel
theorem dX4_iceAgain_48 : decode cX4_iceAgain 48 = .ok (.if_icmp .ge 10, 3) := by decide +kernel
theorem dX4_iceAgain_51 : decode cX4_iceAgain 51 = .ok (.aload_n 0, 1) := by decide +kernel
theorem dX4_iceAgain_52 : decode cX4_iceAgain 52 = .ok (.aload_n 1, 1) := by decide +kernel
theorem dX4_iceAgain_53 : decode cX4_iceAgain 53 = .ok (.bipush 6, 2) := by decide +kernel
theorem dX4_iceAgain_55 : decode cX4_iceAgain 55 = .ok (.invokevirtual 218, 3) := by decide +kernel
theorem dX4_iceAgain_58 : decode cX4_iceAgain 58 = .ok (.return_, 1) := by decide +kernel
theorem dX4_standFor_0 : decode cX4_standFor 0 = .ok (.aload_n 0, 1) := by decide +kernel
theorem dX4_standFor_1 : decode cX4_standFor 1 = .ok (.aload_n 1, 1) := by decide +kernel
theorem dX4_standFor_2 : decode cX4_standFor 2 = .ok (.getfield 267, 3) := by decide +kernel
theorem dX4_standFor_5 : decode cX4_standFor 5 = .ok (.invokevirtual 187, 3) := by decide +kernel
theorem dX4_standFor_8 : decode cX4_standFor 8 = .ok (.ifCond .eq 20, 3) := by decide +kernel
theorem dX4_standFor_11 : decode cX4_standFor 11 = .ok (.aload_n 0, 1) := by decide +kernel
theorem dX4_standFor_12 : decode cX4_standFor 12 = .ok (.getfield 23, 3) := by decide +kernel
theorem dX4_standFor_15 : decode cX4_standFor 15 = .ok (.aload_n 1, 1) := by decide +kernel
theorem dX4_standFor_16 : decode cX4_standFor 16 = .ok (.getfield 267, 3) := by decide +kernel
theorem dX4_standFor_19 : decode cX4_standFor 19 = .ok (.iaload, 1) := by decide +kernel
theorem dX4_standFor_20 : decode cX4_standFor 20 = .ok (.ifCond .ge 8, 3) := by decide +kernel
theorem dX4_standFor_23 : decode cX4_standFor 23 = .ok (.aload_n 1, 1) := by decide +kernel
theorem dX4_standFor_24 : decode cX4_standFor 24 = .ok (.getfield 267, 3) := by decide +kernel
theorem dX4_standFor_27 : decode cX4_standFor 27 = .ok (.ireturn, 1) := by decide +kernel
theorem dX4_standFor_28 : decode cX4_standFor 28 = .ok (.iconst (-1), 1) := by decide +kernel
theorem dX4_standFor_29 : decode cX4_standFor 29 = .ok (.istore_n 2, 1) := by decide +kernel
theorem dX4_standFor_30 : decode cX4_standFor 30 = .ok (.aload_n 1, 1) := by decide +kernel
theorem dX4_standFor_31 : decode cX4_standFor 31 = .ok (.getfield 94, 3) := by decide +kernel
theorem dX4_standFor_34 : decode cX4_standFor 34 = .ok (.invokestatic 97, 3) := by decide +kernel
theorem dX4_standFor_37 : decode cX4_standFor 37 = .ok (.istore_n 3, 1) := by decide +kernel
theorem dX4_standFor_38 : decode cX4_standFor 38 = .ok (.iconst 0, 1) := by decide +kernel
theorem dX4_standFor_39 : decode cX4_standFor 39 = .ok (.istore 4, 2) := by decide +kernel
theorem dX4_standFor_41 : decode cX4_standFor 41 = .ok (.iload 4, 2) := by decide +kernel
theorem dX4_standFor_43 : decode cX4_standFor 43 = .ok (.aload_n 0, 1) := by decide +kernel
theorem dX4_standFor_44 : decode cX4_standFor 44 = .ok (.getfield 59, 3) := by decide +kernel
theorem dX4_standFor_47 : decode cX4_standFor 47 = .ok (.if_icmp .ge 65, 3) := by decide +kernel
theorem dX4_standFor_50 : decode cX4_standFor 50 = .ok (.aload_n 0, 1) := by decide +kernel
theorem dX4_standFor_51 : decode cX4_standFor 51 = .ok (.getfield 23, 3) := by decide +kernel
theorem dX4_standFor_54 : decode cX4_standFor 54 = .ok (.iload 4, 2) := by decide +kernel
theorem dX4_standFor_56 : decode cX4_standFor 56 = .ok (.iaload, 1) := by decide +kernel
theorem dX4_standFor_57 : decode cX4_standFor 57 = .ok (.ifCond .ge 18, 3) := by decide +kernel
theorem dX4_standFor_60 : decode cX4_standFor 60 = .ok (.aload_n 0, 1) := by decide +kernel
theorem dX4_standFor_61 : decode cX4_standFor 61 = .ok (.getfield 20, 3) := by decide +kernel
theorem dX4_standFor_64 : decode cX4_standFor 64 = .ok (.iload 4, 2) := by decide +kernel
theorem dX4_standFor_66 : decode cX4_standFor 66 = .ok (.iaload, 1) := by decide +kernel
theorem dX4_standFor_67 : decode cX4_standFor 67 = .ok (.iload_n 3, 1) := by decide +kernel
theorem dX4_standFor_68 : decode cX4_standFor 68 = .ok (.if_icmp .lt 7, 3) := by decide +kernel
theorem dX4_standFor_71 : decode cX4_standFor 71 = .ok (.iconst 1, 1) := by decide +kernel
theorem dX4_standFor_72 : decode cX4_standFor 72 = .ok (.goto 4, 3) := by decide +kernel
theorem dX4_standFor_75 : decode cX4_standFor 75 = .ok (.iconst 0, 1) := by decide +kernel
theorem dX4_standFor_76 : decode cX4_standFor 76 = .ok (.istore 5, 2) := by decide +kernel
theorem dX4_standFor_78 : decode cX4_standFor 78 = .ok (.iload 5, 2) := by decide +kernel
theorem dX4_standFor_80 : decode cX4_standFor 80 = .ok (.ifCond .eq 26, 3) := by decide +kernel
theorem dX4_standFor_83 : decode cX4_standFor 83 = .ok (.iload_n 2, 1) := by decide +kernel
theorem dX4_standFor_84 : decode cX4_standFor 84 = .ok (.ifCond .lt 19, 3) := by decide +kernel
theorem dX4_standFor_87 : decode cX4_standFor 87 = .ok (.aload_n 0, 1) := by decide +kernel
theorem dX4_standFor_88 : decode cX4_standFor 88 = .ok (.getfield 20, 3) := by decide +kernel
theorem dX4_standFor_91 : decode cX4_standFor 91 = .ok (.iload 4, 2) := by decide +kernel
theorem dX4_standFor_93 : decode cX4_standFor 93 = .ok (.iaload, 1) := by decide +kernel
theorem dX4_standFor_94 : decode cX4_standFor 94 = .ok (.aload_n 0, 1) := by decide +kernel
theorem dX4_standFor_95 : decode cX4_standFor 95 = .ok (.getfield 20, 3) := by decide +kernel
theorem dX4_standFor_98 : decode cX4_standFor 98 = .ok (.iload_n 2, 1) := by decide +kernel
theorem dX4_standFor_99 : decode cX4_standFor 99 = .ok (.iaload, 1) := by decide +kernel
theorem dX4_standFor_100 : decode cX4_standFor 100 = .ok (.if_icmp .ge 6, 3) := by decide +kernel
theorem dX4_standFor_103 : decode cX4_standFor 103 = .ok (.iload 4, 2) := by decide +kernel
theorem dX4_standFor_105 : decode cX4_standFor 105 = .ok (.istore_n 2, 1) := by decide +kernel
theorem dX4_standFor_106 : decode cX4_standFor 106 = .ok (.iinc 4 1, 3) := by decide +kernel
theorem dX4_standFor_109 : decode cX4_standFor 109 = .ok (.goto (-68), 3) := by decide +kernel
theorem dX4_standFor_112 : decode cX4_standFor 112 = .ok (.iload_n 2, 1) := by decide +kernel
theorem dX4_standFor_113 : decode cX4_standFor 113 = .ok (.ireturn, 1) := by decide +kernel
theorem dX4_isReadyToLeave_0 : decode cX4_isReadyToLeave 0 = .ok (.aload_n 1, 1) := by decide +kernel
theorem dX4_isReadyToLeave_1 : decode cX4_isReadyToLeave 1 = .ok (.getfield 120, 3) := by decide +kernel
theorem dX4_isReadyToLeave_4 : decode cX4_isReadyToLeave 4 = .ok (.iconst 5, 1) := by decide +kernel
theorem dX4_isReadyToLeave_5 : decode cX4_isReadyToLeave 5 = .ok (.if_icmp .ne 47, 3) := by decide +kernel
theorem dX4_isReadyToLeave_8 : decode cX4_isReadyToLeave 8 = .ok (.aload_n 0, 1) := by decide +kernel
theorem dX4_isReadyToLeave_9 : decode cX4_isReadyToLeave 9 = .ok (.getfield 55, 3) := by decide +kernel
theorem dX4_isReadyToLeave_12 : decode cX4_isReadyToLeave 12 = .ok (.aload_n 1, 1) := by decide +kernel
theorem dX4_isReadyToLeave_13 : decode cX4_isReadyToLeave 13 = .ok (.getfield 147, 3) := by decide +kernel
theorem dX4_isReadyToLeave_16 : decode cX4_isReadyToLeave 16 = .ok (.isub, 1) := by decide +kernel
theorem dX4_isReadyToLeave_17 : decode cX4_isReadyToLeave 17 = .ok (.iconst 4, 1) := by decide +kernel
theorem dX4_isReadyToLeave_18 : decode cX4_isReadyToLeave 18 = .ok (.if_icmp .lt 34, 3) := by decide +kernel
theorem dX4_isReadyToLeave_21 : decode cX4_isReadyToLeave 21 = .ok (.aload_n 1, 1) := by decide +kernel
theorem dX4_isReadyToLeave_22 : decode cX4_isReadyToLeave 22 = .ok (.bipush 6, 2) := by decide +kernel
theorem dX4_isReadyToLeave_24 : decode cX4_isReadyToLeave 24 = .ok (.invokevirtual 162, 3) := by decide +kernel
theorem dX4_isReadyToLeave_27 : decode cX4_isReadyToLeave 27 = .ok (.ifCond .ne 25, 3) := by decide +kernel
theorem dX4_isReadyToLeave_30 : decode cX4_isReadyToLeave 30 = .ok (.aload_n 1, 1) := by decide +kernel
theorem dX4_isReadyToLeave_31 : decode cX4_isReadyToLeave 31 = .ok (.aload_n 0, 1) := by decide +kernel
theorem dX4_isReadyToLeave_32 : decode cX4_isReadyToLeave 32 = .ok (.getfield 11, 3) := by decide +kernel
theorem dX4_isReadyToLeave_35 : decode cX4_isReadyToLeave 35 = .ok (.bipush 6, 2) := by decide +kernel
theorem dX4_isReadyToLeave_37 : decode cX4_isReadyToLeave 37 = .ok (.iaload, 1) := by decide +kernel
theorem dX4_isReadyToLeave_38 : decode cX4_isReadyToLeave 38 = .ok (.aload_n 0, 1) := by decide +kernel
theorem dX4_isReadyToLeave_39 : decode cX4_isReadyToLeave 39 = .ok (.getfield 55, 3) := by decide +kernel
theorem dX4_isReadyToLeave_42 : decode cX4_isReadyToLeave 42 = .ok (.invokevirtual 252, 3) := by decide +kernel
theorem dX4_isReadyToLeave_45 : decode cX4_isReadyToLeave 45 = .ok (.ifCond .ne 7, 3) := by decide +kernel
theorem dX4_isReadyToLeave_48 : decode cX4_isReadyToLeave 48 = .ok (.iconst 1, 1) := by decide +kernel
theorem dX4_isReadyToLeave_49 : decode cX4_isReadyToLeave 49 = .ok (.goto 4, 3) := by decide +kernel
theorem dX4_isReadyToLeave_52 : decode cX4_isReadyToLeave 52 = .ok (.iconst 0, 1) := by decide +kernel
theorem dX4_isReadyToLeave_53 : decode cX4_isReadyToLeave 53 = .ok (.ireturn, 1) := by decide +kernel
theorem dX4_isReady_0 : decode cX4_isReady 0 = .ok (.aload_n 0, 1) := by decide +kernel
theorem dX4_isReady_1 : decode cX4_isReady 1 = .ok (.getfield 34, 3) := by decide +kernel
theorem dX4_isReady_4 : decode cX4_isReady 4 = .ok (.iload_n 1, 1) := by decide +kernel
theorem dX4_isReady_5 : decode cX4_isReady 5 = .ok (.aaload, 1) := by decide +kernel
theorem dX4_isReady_6 : decode cX4_isReady 6 = .ok (.astore_n 3, 1) := by decide +kernel
theorem dX4_isReady_7 : decode cX4_isReady 7 = .ok (.aload_n 3, 1) := by decide +kernel
theorem dX4_isReady_8 : decode cX4_isReady 8 = .ok (.getfield 120, 3) := by decide +kernel
theorem dX4_isReady_11 : decode cX4_isReady 11 = .ok (.iconst 1, 1) := by decide +kernel
theorem dX4_isReady_12 : decode cX4_isReady 12 = .ok (.if_icmp .ne 19, 3) := by decide +kernel
theorem dX4_isReady_15 : decode cX4_isReady 15 = .ok (.aload_n 0, 1) := by decide +kernel
theorem dX4_isReady_16 : decode cX4_isReady 16 = .ok (.aload_n 3, 1) := by decide +kernel
theorem dX4_isReady_17 : decode cX4_isReady 17 = .ok (.invokevirtual 259, 3) := by decide +kernel
theorem dX4_isReady_20 : decode cX4_isReady 20 = .ok (.ifCond .lt 7, 3) := by decide +kernel
theorem dX4_isReady_23 : decode cX4_isReady 23 = .ok (.iconst 1, 1) := by decide +kernel
theorem dX4_isReady_24 : decode cX4_isReady 24 = .ok (.goto 12, 3) := by decide +kernel
theorem dX4_isReady_27 : decode cX4_isReady 27 = .ok (.iconst 0, 1) := by decide +kernel
theorem dX4_isReady_28 : decode cX4_isReady 28 = .ok (.goto 8, 3) := by decide +kernel
theorem dX4_isReady_31 : decode cX4_isReady 31 = .ok (.aload_n 0, 1) := by decide +kernel
theorem dX4_isReady_32 : decode cX4_isReady 32 = .ok (.aload_n 3, 1) := by decide +kernel
theorem dX4_isReady_33 : decode cX4_isReady 33 = .ok (.invokevirtual 263, 3) := by decide +kernel
theorem dX4_isReady_36 : decode cX4_isReady 36 = .ok (.istore 4, 2) := by decide +kernel
theorem dX4_isReady_38 : decode cX4_isReady 38 = .ok (.iload 4, 2) := by decide +kernel
theorem dX4_isReady_40 : decode cX4_isReady 40 = .ok (.ifCond .ne 5, 3) := by decide +kernel
theorem dX4_isReady_43 : decode cX4_isReady 43 = .ok (.iconst 0, 1) := by decide +kernel
theorem dX4_isReady_44 : decode cX4_isReady 44 = .ok (.ireturn, 1) := by decide +kernel
theorem dX4_isReady_45 : decode cX4_isReady 45 = .ok (.aload_n 0, 1) := by decide +kernel
theorem dX4_isReady_46 : decode cX4_isReady 46 = .ok (.getfield 29, 3) := by decide +kernel
theorem dX4_isReady_49 : decode cX4_isReady 49 = .ok (.iload_n 2, 1) := by decide +kernel
theorem dX4_isReady_50 : decode cX4_isReady 50 = .ok (.iaload, 1) := by decide +kernel
theorem dX4_isReady_51 : decode cX4_isReady 51 = .ok (.ifCond .ge 5, 3) := by decide +kernel
theorem dX4_isReady_54 : decode cX4_isReady 54 = .ok (.iconst 1, 1) := by decide +kernel
theorem dX4_isReady_55 : decode cX4_isReady 55 = .ok (.ireturn, 1) := by decide +kernel
theorem dX4_isReady_56 : decode cX4_isReady 56 = .ok (.aload_n 0, 1) := by decide +kernel
theorem dX4_isReady_57 : decode cX4_isReady 57 = .ok (.iload_n 1, 1) := by decide +kernel
theorem dX4_isReady_58 : decode cX4_isReady 58 = .ok (.aload_n 0, 1) := by decide +kernel
theorem dX4_isReady_59 : decode cX4_isReady 59 = .ok (.getfield 29, 3) := by decide +kernel
theorem dX4_isReady_62 : decode cX4_isReady 62 = .ok (.iload_n 2, 1) := by decide +kernel
theorem dX4_isReady_63 : decode cX4_isReady 63 = .ok (.iaload, 1) := by decide +kernel
theorem dX4_isReady_64 : decode cX4_isReady 64 = .ok (.invokevirtual 240, 3) := by decide +kernel
theorem dX4_isReady_67 : decode cX4_isReady 67 = .ok (.aload_n 0, 1) := by decide +kernel
theorem dX4_isReady_68 : decode cX4_isReady 68 = .ok (.getfield 26, 3) := by decide +kernel
theorem dX4_isReady_71 : decode cX4_isReady 71 = .ok (.iload_n 2, 1) := by decide +kernel
theorem dX4_isReady_72 : decode cX4_isReady 72 = .ok (.iaload, 1) := by decide +kernel
theorem dX4_isReady_73 : decode cX4_isReady 73 = .ok (.i2l, 1) := by decide +kernel
theorem dX4_isReady_74 : decode cX4_isReady 74 = .ok (.iconst 0, 1) := by decide +kernel
theorem dX4_isReady_75 : decode cX4_isReady 75 = .ok (.aload_n 0, 1) := by decide +kernel
theorem dX4_isReady_76 : decode cX4_isReady 76 = .ok (.getfield 49, 3) := by decide +kernel
theorem dX4_isReady_79 : decode cX4_isReady 79 = .ok (.iconst 1, 1) := by decide +kernel
theorem dX4_isReady_80 : decode cX4_isReady 80 = .ok (.aload_n 0, 1) := by decide +kernel
theorem dX4_isReady_81 : decode cX4_isReady 81 = .ok (.getfield 46, 3) := by decide +kernel
theorem dX4_isReady_84 : decode cX4_isReady 84 = .ok (.invokevirtual 243, 3) := by decide +kernel
theorem dX4_isReady_87 : decode cX4_isReady 87 = .ok (.invokestatic 247, 3) := by decide +kernel
theorem dX4_isReady_90 : decode cX4_isReady 90 = .ok (.i2l, 1) := by decide +kernel
theorem dX4_isReady_91 : decode cX4_isReady 91 = .ok (.ladd, 1) := by decide +kernel
theorem dX4_isReady_92 : decode cX4_isReady 92 = .ok (.lstore 5, 2) := by decide +kernel
theorem dX4_isReady_94 : decode cX4_isReady 94 = .ok (.aload_n 0, 1) := by decide +kernel
theorem dX4_isReady_95 : decode cX4_isReady 95 = .ok (.getfield 55, 3) := by decide +kernel
theorem dX4_isReady_98 : decode cX4_isReady 98 = .ok (.i2l, 1) := by decide +kernel
theorem dX4_isReady_99 : decode cX4_isReady 99 = .ok (.lload 5, 2) := by decide +kernel
theorem dX4_isReady_101 : decode cX4_isReady 101 = .ok (.lcmp, 1) := by decide +kernel
theorem dX4_isReady_102 : decode cX4_isReady 102 = .ok (.ifCond .lt 7, 3) := by decide +kernel
theorem dX4_isReady_105 : decode cX4_isReady 105 = .ok (.iconst 1, 1) := by decide +kernel
theorem dX4_isReady_106 : decode cX4_isReady 106 = .ok (.goto 4, 3) := by decide +kernel
theorem dX4_isReady_109 : decode cX4_isReady 109 = .ok (.iconst 0, 1) := by decide +kernel
theorem dX4_isReady_110 : decode cX4_isReady 110 = .ok (.ireturn, 1) := by decide +kernel
theorem dX4_bestFor_0 : decode cX4_bestFor 0 = .ok (.aload_n 0, 1) := by decide +kernel
theorem dX4_bestFor_1 : decode cX4_bestFor 1 = .ok (.getfield 55, 3) := by decide +kernel
theorem dX4_bestFor_4 : decode cX4_bestFor 4 = .ok (.aload_n 0, 1) := by decide +kernel
theorem dX4_bestFor_5 : decode cX4_bestFor 5 = .ok (.getfield 26, 3) := by decide +kernel
theorem dX4_bestFor_8 : decode cX4_bestFor 8 = .ok (.iload_n 1, 1) := by decide +kernel
theorem dX4_bestFor_9 : decode cX4_bestFor 9 = .ok (.iaload, 1) := by decide +kernel
theorem dX4_bestFor_10 : decode cX4_bestFor 10 = .ok (.if_icmp .ge 5, 3) := by decide +kernel
theorem dX4_bestFor_13 : decode cX4_bestFor 13 = .ok (.iconst (-1), 1) := by decide +kernel
theorem dX4_bestFor_14 : decode cX4_bestFor 14 = .ok (.ireturn, 1) := by decide +kernel
theorem dX4_bestFor_15 : decode cX4_bestFor 15 = .ok (.iconst (-1), 1) := by decide +kernel
theorem dX4_bestFor_16 : decode cX4_bestFor 16 = .ok (.istore_n 2, 1) := by decide +kernel
theorem dX4_bestFor_17 : decode cX4_bestFor 17 = .ok (.iconst 0, 1) := by decide +kernel
theorem dX4_bestFor_18 : decode cX4_bestFor 18 = .ok (.istore_n 3, 1) := by decide +kernel
theorem dX4_bestFor_19 : decode cX4_bestFor 19 = .ok (.iconst 0, 1) := by decide +kernel
theorem dX4_bestFor_20 : decode cX4_bestFor 20 = .ok (.istore 4, 2) := by decide +kernel
theorem dX4_bestFor_22 : decode cX4_bestFor 22 = .ok (.iload 4, 2) := by decide +kernel
theorem dX4_bestFor_24 : decode cX4_bestFor 24 = .ok (.aload_n 0, 1) := by decide +kernel
theorem dX4_bestFor_25 : decode cX4_bestFor 25 = .ok (.getfield 62, 3) := by decide +kernel
theorem dX4_bestFor_28 : decode cX4_bestFor 28 = .ok (.if_icmp .ge 61, 3) := by decide +kernel
theorem dX4_bestFor_31 : decode cX4_bestFor 31 = .ok (.aload_n 0, 1) := by decide +kernel
theorem dX4_bestFor_32 : decode cX4_bestFor 32 = .ok (.iload 4, 2) := by decide +kernel
theorem dX4_bestFor_34 : decode cX4_bestFor 34 = .ok (.iload_n 1, 1) := by decide +kernel
theorem dX4_bestFor_35 : decode cX4_bestFor 35 = .ok (.invokevirtual 256, 3) := by decide +kernel
theorem dX4_bestFor_38 : decode cX4_bestFor 38 = .ok (.ifCond .eq 45, 3) := by decide +kernel
theorem dX4_bestFor_41 : decode cX4_bestFor 41 = .ok (.aload_n 0, 1) := by decide +kernel
theorem dX4_bestFor_42 : decode cX4_bestFor 42 = .ok (.iload 4, 2) := by decide +kernel
theorem dX4_bestFor_44 : decode cX4_bestFor 44 = .ok (.aload_n 0, 1) := by decide +kernel
theorem dX4_bestFor_45 : decode cX4_bestFor 45 = .ok (.getfield 29, 3) := by decide +kernel
theorem dX4_bestFor_48 : decode cX4_bestFor 48 = .ok (.iload_n 1, 1) := by decide +kernel
theorem dX4_bestFor_49 : decode cX4_bestFor 49 = .ok (.iaload, 1) := by decide +kernel
theorem dX4_bestFor_50 : decode cX4_bestFor 50 = .ok (.invokevirtual 240, 3) := by decide +kernel
theorem dX4_bestFor_53 : decode cX4_bestFor 53 = .ok (.aload_n 0, 1) := by decide +kernel
theorem dX4_bestFor_54 : decode cX4_bestFor 54 = .ok (.getfield 49, 3) := by decide +kernel
theorem dX4_bestFor_57 : decode cX4_bestFor 57 = .ok (.iconst 0, 1) := by decide +kernel
theorem dX4_bestFor_58 : decode cX4_bestFor 58 = .ok (.aload_n 0, 1) := by decide +kernel
theorem dX4_bestFor_59 : decode cX4_bestFor 59 = .ok (.getfield 46, 3) := by decide +kernel
theorem dX4_bestFor_62 : decode cX4_bestFor 62 = .ok (.invokevirtual 243, 3) := by decide +kernel
theorem dX4_bestFor_65 : decode cX4_bestFor 65 = .ok (.istore 5, 2) := by decide +kernel
theorem dX4_bestFor_67 : decode cX4_bestFor 67 = .ok (.iload_n 2, 1) := by decide +kernel
theorem dX4_bestFor_68 : decode cX4_bestFor 68 = .ok (.ifCond .lt 9, 3) := by decide +kernel
theorem dX4_bestFor_71 : decode cX4_bestFor 71 = .ok (.iload 5, 2) := by decide +kernel
theorem dX4_bestFor_73 : decode cX4_bestFor 73 = .ok (.iload_n 3, 1) := by decide +kernel
theorem dX4_bestFor_74 : decode cX4_bestFor 74 = .ok (.if_icmp .le 9, 3) := by decide +kernel
theorem dX4_bestFor_77 : decode cX4_bestFor 77 = .ok (.iload 4, 2) := by decide +kernel
theorem dX4_bestFor_79 : decode cX4_bestFor 79 = .ok (.istore_n 2, 1) := by decide +kernel
theorem dX4_bestFor_80 : decode cX4_bestFor 80 = .ok (.iload 5, 2) := by decide +kernel
theorem dX4_bestFor_82 : decode cX4_bestFor 82 = .ok (.istore_n 3, 1) := by decide +kernel
theorem dX4_bestFor_83 : decode cX4_bestFor 83 = .ok (.iinc 4 1, 3) := by decide +kernel
theorem dX4_bestFor_86 : decode cX4_bestFor 86 = .ok (.goto (-64), 3) := by decide +kernel
theorem dX4_bestFor_89 : decode cX4_bestFor 89 = .ok (.iload_n 2, 1) := by decide +kernel
theorem dX4_bestFor_90 : decode cX4_bestFor 90 = .ok (.ireturn, 1) := by decide +kernel
theorem dX4_giveRunway_0 : decode cX4_giveRunway 0 = .ok (.aload_n 0, 1) := by decide +kernel
theorem dX4_giveRunway_1 : decode cX4_giveRunway 1 = .ok (.iload_n 2, 1) := by decide +kernel
theorem dX4_giveRunway_2 : decode cX4_giveRunway 2 = .ok (.invokevirtual 270, 3) := by decide +kernel
theorem dX4_giveRunway_5 : decode cX4_giveRunway 5 = .ok (.ifCond .ne 4, 3) := by decide +kernel
theorem dX4_giveRunway_8 : decode cX4_giveRunway 8 = .ok (.return_, 1) := by decide +kernel
theorem dX4_giveRunway_9 : decode cX4_giveRunway 9 = .ok (.aload_n 0, 1) := by decide +kernel
theorem dX4_giveRunway_10 : decode cX4_giveRunway 10 = .ok (.getfield 34, 3) := by decide +kernel
theorem dX4_giveRunway_13 : decode cX4_giveRunway 13 = .ok (.iload_n 2, 1) := by decide +kernel
theorem dX4_giveRunway_14 : decode cX4_giveRunway 14 = .ok (.aaload, 1) := by decide +kernel
theorem dX4_giveRunway_15 : decode cX4_giveRunway 15 = .ok (.astore_n 3, 1) := by decide +kernel
theorem dX4_giveRunway_16 : decode cX4_giveRunway 16 = .ok (.aload_n 3, 1) := by decide +kernel
theorem dX4_giveRunway_17 : decode cX4_giveRunway 17 = .ok (.getfield 120, 3) := by decide +kernel
theorem dX4_giveRunway_20 : decode cX4_giveRunway 20 = .ok (.iconst 1, 1) := by decide +kernel
theorem dX4_giveRunway_21 : decode cX4_giveRunway 21 = .ok (.if_icmp .ne 45, 3) := by decide +kernel
theorem dX4_giveRunway_24 : decode cX4_giveRunway 24 = .ok (.aload_n 3, 1) := by decide +kernel
theorem dX4_giveRunway_25 : decode cX4_giveRunway 25 = .ok (.aload_n 0, 1) := by decide +kernel
theorem dX4_giveRunway_26 : decode cX4_giveRunway 26 = .ok (.aload_n 3, 1) := by decide +kernel
theorem dX4_giveRunway_27 : decode cX4_giveRunway 27 = .ok (.invokevirtual 259, 3) := by decide +kernel
theorem dX4_giveRunway_30 : decode cX4_giveRunway 30 = .ok (.putfield 184, 3) := by decide +kernel
theorem dX4_giveRunway_33 : decode cX4_giveRunway 33 = .ok (.aload_n 0, 1) := by decide +kernel
theorem dX4_giveRunway_34 : decode cX4_giveRunway 34 = .ok (.aload_n 3, 1) := by decide +kernel
theorem dX4_giveRunway_35 : decode cX4_giveRunway 35 = .ok (.getfield 184, 3) := by decide +kernel
theorem dX4_giveRunway_38 : decode cX4_giveRunway 38 = .ok (.invokevirtual 187, 3) := by decide +kernel
theorem dX4_giveRunway_41 : decode cX4_giveRunway 41 = .ok (.ifCond .eq 13, 3) := by decide +kernel
theorem dX4_giveRunway_44 : decode cX4_giveRunway 44 = .ok (.aload_n 0, 1) := by decide +kernel
theorem dX4_giveRunway_45 : decode cX4_giveRunway 45 = .ok (.getfield 23, 3) := by decide +kernel
theorem dX4_giveRunway_48 : decode cX4_giveRunway 48 = .ok (.aload_n 3, 1) := by decide +kernel
theorem dX4_giveRunway_49 : decode cX4_giveRunway 49 = .ok (.getfield 184, 3) := by decide +kernel
theorem dX4_giveRunway_52 : decode cX4_giveRunway 52 = .ok (.iload_n 2, 1) := by decide +kernel
theorem dX4_giveRunway_53 : decode cX4_giveRunway 53 = .ok (.iastore, 1) := by decide +kernel
theorem dX4_giveRunway_54 : decode cX4_giveRunway 54 = .ok (.aload_n 3, 1) := by decide +kernel
theorem dX4_giveRunway_55 : decode cX4_giveRunway 55 = .ok (.iconst 2, 1) := by decide +kernel
theorem dX4_giveRunway_56 : decode cX4_giveRunway 56 = .ok (.aload_n 0, 1) := by decide +kernel
theorem dX4_giveRunway_57 : decode cX4_giveRunway 57 = .ok (.getfield 55, 3) := by decide +kernel
theorem dX4_giveRunway_60 : decode cX4_giveRunway 60 = .ok (.invokevirtual 153, 3) := by decide +kernel
theorem dX4_giveRunway_63 : decode cX4_giveRunway 63 = .ok (.goto 13, 3) := by decide +kernel
theorem dX4_giveRunway_66 : decode cX4_giveRunway 66 = .ok (.aload_n 3, 1) := by decide +kernel
theorem dX4_giveRunway_67 : decode cX4_giveRunway 67 = .ok (.bipush 6, 2) := by decide +kernel
theorem dX4_giveRunway_69 : decode cX4_giveRunway 69 = .ok (.aload_n 0, 1) := by decide +kernel
theorem dX4_giveRunway_70 : decode cX4_giveRunway 70 = .ok (.getfield 55, 3) := by decide +kernel
theorem dX4_giveRunway_73 : decode cX4_giveRunway 73 = .ok (.invokevirtual 153, 3) := by decide +kernel
theorem dX4_giveRunway_76 : decode cX4_giveRunway 76 = .ok (.aload_n 0, 1) := by decide +kernel
theorem dX4_giveRunway_77 : decode cX4_giveRunway 77 = .ok (.getfield 26, 3) := by decide +kernel
theorem dX4_giveRunway_80 : decode cX4_giveRunway 80 = .ok (.iload_n 1, 1) := by decide +kernel
theorem dX4_giveRunway_81 : decode cX4_giveRunway 81 = .ok (.aload_n 0, 1) := by decide +kernel
theorem dX4_giveRunway_82 : decode cX4_giveRunway 82 = .ok (.getfield 55, 3) := by decide +kernel
theorem dX4_giveRunway_85 : decode cX4_giveRunway 85 = .ok (.aload_n 3, 1) := by decide +kernel
theorem dX4_giveRunway_86 : decode cX4_giveRunway 86 = .ok (.getfield 94, 3) := by decide +kernel
theorem dX4_giveRunway_89 : decode cX4_giveRunway 89 = .ok (.invokestatic 156, 3) := by decide +kernel
theorem dX4_giveRunway_92 : decode cX4_giveRunway 92 = .ok (.iadd, 1) := by decide +kernel
theorem dX4_giveRunway_93 : decode cX4_giveRunway 93 = .ok (.iastore, 1) := by decide +kernel
theorem dX4_giveRunway_94 : decode cX4_giveRunway 94 = .ok (.aload_n 0, 1) := by decide +kernel
theorem dX4_giveRunway_95 : decode cX4_giveRunway 95 = .ok (.getfield 29, 3) := by decide +kernel
theorem dX4_giveRunway_98 : decode cX4_giveRunway 98 = .ok (.iload_n 1, 1) := by decide +kernel
theorem dX4_giveRunway_99 : decode cX4_giveRunway 99 = .ok (.aload_n 3, 1) := by decide +kernel
theorem dX4_giveRunway_100 : decode cX4_giveRunway 100 = .ok (.getfield 94, 3) := by decide +kernel
theorem dX4_giveRunway_103 : decode cX4_giveRunway 103 = .ok (.iastore, 1) := by decide +kernel
theorem dX4_giveRunway_104 : decode cX4_giveRunway 104 = .ok (.return_, 1) := by decide +kernel
theorem dX4_causeOfRunways_0 : decode cX4_causeOfRunways 0 = .ok (.aload_n 0, 1) := by decide +kernel
theorem dX4_causeOfRunways_1 : decode cX4_causeOfRunways 1 = .ok (.getfield 11, 3) := by decide +kernel
theorem dX4_causeOfRunways_4 : decode cX4_causeOfRunways 4 = .ok (.iconst 5, 1) := by decide +kernel
theorem dX4_causeOfRunways_5 : decode cX4_causeOfRunways 5 = .ok (.iaload, 1) := by decide +kernel
theorem dX4_causeOfRunways_6 : decode cX4_causeOfRunways 6 = .ok (.iconst 1, 1) := by decide +kernel
theorem dX4_causeOfRunways_7 : decode cX4_causeOfRunways 7 = .ok (.if_icmp .ne 19, 3) := by decide +kernel
theorem dX4_causeOfRunways_10 : decode cX4_causeOfRunways 10 = .ok (.aload_n 0, 1) := by decide +kernel
theorem dX4_causeOfRunways_11 : decode cX4_causeOfRunways 11 = .ok (.getfield 11, 3) := by decide +kernel
theorem dX4_causeOfRunways_14 : decode cX4_causeOfRunways 14 = .ok (.bipush 8, 2) := by decide +kernel
theorem dX4_causeOfRunways_16 : decode cX4_causeOfRunways 16 = .ok (.iaload, 1) := by decide +kernel
theorem dX4_causeOfRunways_17 : decode cX4_causeOfRunways 17 = .ok (.iconst 2, 1) := by decide +kernel
theorem dX4_causeOfRunways_18 : decode cX4_causeOfRunways 18 = .ok (.if_icmp .ne 8, 3) := by decide +kernel
theorem dX4_causeOfRunways_21 : decode cX4_causeOfRunways 21 = .ok (.bipush 6, 2) := by decide +kernel
theorem dX4_causeOfRunways_23 : decode cX4_causeOfRunways 23 = .ok (.goto 4, 3) := by decide +kernel
theorem dX4_causeOfRunways_26 : decode cX4_causeOfRunways 26 = .ok (.iconst 5, 1) := by decide +kernel
theorem dX4_causeOfRunways_27 : decode cX4_causeOfRunways 27 = .ok (.ireturn, 1) := by decide +kernel
theorem dX4_causeNow_0 : decode cX4_causeNow 0 = .ok (.aload_n 1, 1) := by decide +kernel
theorem dX4_causeNow_1 : decode cX4_causeNow 1 = .ok (.getfield 120, 3) := by decide +kernel
theorem dX4_causeNow_4 : decode cX4_causeNow 4 = .ok (.tableswitch 110 1 5 #[36, 110, 110, 53, 58], 36) := by decide +kernel
theorem dX4_causeNow_40 : decode cX4_causeNow 40 = .ok (.aload_n 0, 1) := by decide +kernel
theorem dX4_causeNow_41 : decode cX4_causeNow 41 = .ok (.aload_n 1, 1) := by decide +kernel
theorem dX4_causeNow_42 : decode cX4_causeNow 42 = .ok (.invokevirtual 259, 3) := by decide +kernel
theorem dX4_causeNow_45 : decode cX4_causeNow 45 = .ok (.ifCond .ge 7, 3) := by decide +kernel
theorem dX4_causeNow_48 : decode cX4_causeNow 48 = .ok (.iconst 1, 1) := by decide +kernel
theorem dX4_causeNow_49 : decode cX4_causeNow 49 = .ok (.goto 7, 3) := by decide +kernel
theorem dX4_causeNow_52 : decode cX4_causeNow 52 = .ok (.aload_n 0, 1) := by decide +kernel
theorem dX4_causeNow_53 : decode cX4_causeNow 53 = .ok (.invokevirtual 279, 3) := by decide +kernel
theorem dX4_causeNow_56 : decode cX4_causeNow 56 = .ok (.ireturn, 1) := by decide +kernel
theorem dX4_causeNow_57 : decode cX4_causeNow 57 = .ok (.aload_n 1, 1) := by decide +kernel
theorem dX4_causeNow_58 : decode cX4_causeNow 58 = .ok (.getfield 204, 3) := by decide +kernel
theorem dX4_causeNow_61 : decode cX4_causeNow 61 = .ok (.ireturn, 1) := by decide +kernel
theorem dX4_causeNow_62 : decode cX4_causeNow 62 = .ok (.aload_n 1, 1) := by decide +kernel
theorem dX4_causeNow_63 : decode cX4_causeNow 63 = .ok (.bipush 6, 2) := by decide +kernel
theorem dX4_causeNow_65 : decode cX4_causeNow 65 = .ok (.invokevirtual 162, 3) := by decide +kernel
theorem dX4_causeNow_68 : decode cX4_causeNow 68 = .ok (.ifCond .ne 21, 3) := by decide +kernel
theorem dX4_causeNow_71 : decode cX4_causeNow 71 = .ok (.aload_n 1, 1) := by decide +kernel
theorem dX4_causeNow_72 : decode cX4_causeNow 72 = .ok (.aload_n 0, 1) := by decide +kernel
theorem dX4_causeNow_73 : decode cX4_causeNow 73 = .ok (.getfield 11, 3) := by decide +kernel
theorem dX4_causeNow_76 : decode cX4_causeNow 76 = .ok (.bipush 6, 2) := by decide +kernel
theorem dX4_causeNow_78 : decode cX4_causeNow 78 = .ok (.iaload, 1) := by decide +kernel
theorem dX4_causeNow_79 : decode cX4_causeNow 79 = .ok (.aload_n 0, 1) := by decide +kernel
theorem dX4_causeNow_80 : decode cX4_causeNow 80 = .ok (.getfield 55, 3) := by decide +kernel
theorem dX4_causeNow_83 : decode cX4_causeNow 83 = .ok (.invokevirtual 252, 3) := by decide +kernel
theorem dX4_causeNow_86 : decode cX4_causeNow 86 = .ok (.ifCond .eq 6, 3) := by decide +kernel
theorem dX4_causeNow_89 : decode cX4_causeNow 89 = .ok (.bipush 8, 2) := by decide +kernel
theorem dX4_causeNow_91 : decode cX4_causeNow 91 = .ok (.ireturn, 1) := by decide +kernel
theorem dX4_causeNow_92 : decode cX4_causeNow 92 = .ok (.aload_n 0, 1) := by decide +kernel
theorem dX4_causeNow_93 : decode cX4_causeNow 93 = .ok (.getfield 55, 3) := by decide +kernel
theorem dX4_causeNow_96 : decode cX4_causeNow 96 = .ok (.aload_n 1, 1) := by decide +kernel
theorem dX4_causeNow_97 : decode cX4_causeNow 97 = .ok (.getfield 147, 3) := by decide +kernel
theorem dX4_causeNow_100 : decode cX4_causeNow 100 = .ok (.isub, 1) := by decide +kernel
theorem dX4_causeNow_101 : decode cX4_causeNow 101 = .ok (.iconst 4, 1) := by decide +kernel
theorem dX4_causeNow_102 : decode cX4_causeNow 102 = .ok (.if_icmp .ge 7, 3) := by decide +kernel
theorem dX4_causeNow_105 : decode cX4_causeNow 105 = .ok (.iconst 2, 1) := by decide +kernel
theorem dX4_causeNow_106 : decode cX4_causeNow 106 = .ok (.goto 7, 3) := by decide +kernel
theorem dX4_causeNow_109 : decode cX4_causeNow 109 = .ok (.aload_n 0, 1) := by decide +kernel
theorem dX4_causeNow_110 : decode cX4_causeNow 110 = .ok (.invokevirtual 279, 3) := by decide +kernel
theorem dX4_causeNow_113 : decode cX4_causeNow 113 = .ok (.ireturn, 1) := by decide +kernel
theorem dX4_causeNow_114 : decode cX4_causeNow 114 = .ok (.iconst 0, 1) := by decide +kernel
theorem dX4_causeNow_115 : decode cX4_causeNow 115 = .ok (.ireturn, 1) := by decide +kernel
theorem dX4_blame_0 : decode cX4_blame 0 = .ok (.aload_n 1, 1) := by decide +kernel
theorem dX4_blame_1 : decode cX4_blame 1 = .ok (.getfield 120, 3) := by decide +kernel
theorem dX4_blame_4 : decode cX4_blame 4 = .ok (.iconst 5, 1) := by decide +kernel
theorem dX4_blame_5 : decode cX4_blame 5 = .ok (.if_icmp .gt 14, 3) := by decide +kernel
theorem dX4_blame_8 : decode cX4_blame 8 = .ok (.aload_n 0, 1) := by decide +kernel
theorem dX4_blame_9 : decode cX4_blame 9 = .ok (.getfield 55, 3) := by decide +kernel
theorem dX4_blame_12 : decode cX4_blame 12 = .ok (.aload_n 1, 1) := by decide +kernel
theorem dX4_blame_13 : decode cX4_blame 13 = .ok (.getfield 228, 3) := by decide +kernel
theorem dX4_blame_16 : decode cX4_blame 16 = .ok (.if_icmp .ge 4, 3) := by decide +kernel
theorem dX4_blame_19 : decode cX4_blame 19 = .ok (.return_, 1) := by decide +kernel
theorem dX4_blame_20 : decode cX4_blame 20 = .ok (.aload_n 0, 1) := by decide +kernel
theorem dX4_blame_21 : decode cX4_blame 21 = .ok (.aload_n 1, 1) := by decide +kernel
theorem dX4_blame_22 : decode cX4_blame 22 = .ok (.invokevirtual 273, 3) := by decide +kernel
theorem dX4_blame_25 : decode cX4_blame 25 = .ok (.istore_n 2, 1) := by decide +kernel
theorem dX4_blame_26 : decode cX4_blame 26 = .ok (.iload_n 2, 1) := by decide +kernel
theorem dX4_blame_27 : decode cX4_blame 27 = .ok (.ifCond .lt 13, 3) := by decide +kernel
theorem dX4_blame_30 : decode cX4_blame 30 = .ok (.aload_n 1, 1) := by decide +kernel
theorem dX4_blame_31 : decode cX4_blame 31 = .ok (.getfield 276, 3) := by decide +kernel
theorem dX4_blame_34 : decode cX4_blame 34 = .ok (.iload_n 2, 1) := by decide +kernel
theorem dX4_blame_35 : decode cX4_blame 35 = .ok (.dup2, 1) := by decide +kernel
theorem dX4_blame_36 : decode cX4_blame 36 = .ok (.iaload, 1) := by decide +kernel
theorem dX4_blame_37 : decode cX4_blame 37 = .ok (.iconst 1, 1) := by decide +kernel
theorem dX4_blame_38 : decode cX4_blame 38 = .ok (.iadd, 1) := by decide +kernel
theorem dX4_blame_39 : decode cX4_blame 39 = .ok (.iastore, 1) := by decide +kernel
theorem dX4_blame_40 : decode cX4_blame 40 = .ok (.return_, 1) := by decide +kernel
theorem dX4_step_0 : decode cX4_step 0 = .ok (.iconst 0, 1) := by decide +kernel
theorem dX4_step_1 : decode cX4_step 1 = .ok (.istore_n 1, 1) := by decide +kernel
theorem dX4_step_2 : decode cX4_step 2 = .ok (.iload_n 1, 1) := by decide +kernel
theorem dX4_step_3 : decode cX4_step 3 = .ok (.aload_n 0, 1) := by decide +kernel
theorem dX4_step_4 : decode cX4_step 4 = .ok (.getfield 62, 3) := by decide +kernel
theorem dX4_step_7 : decode cX4_step 7 = .ok (.if_icmp .ge 19, 3) := by decide +kernel
theorem dX4_step_10 : decode cX4_step 10 = .ok (.aload_n 0, 1) := by decide +kernel
theorem dX4_step_11 : decode cX4_step 11 = .ok (.aload_n 0, 1) := by decide +kernel
theorem dX4_step_12 : decode cX4_step 12 = .ok (.getfield 34, 3) := by decide +kernel
theorem dX4_step_15 : decode cX4_step 15 = .ok (.iload_n 1, 1) := by decide +kernel
theorem dX4_step_16 : decode cX4_step 16 = .ok (.aaload, 1) := by decide +kernel
theorem dX4_step_17 : decode cX4_step 17 = .ok (.invokevirtual 121, 3) := by decide +kernel
theorem dX4_step_20 : decode cX4_step 20 = .ok (.iinc 1 1, 3) := by decide +kernel
theorem dX4_step_23 : decode cX4_step 23 = .ok (.goto (-21), 3) := by decide +kernel
theorem dX4_step_26 : decode cX4_step 26 = .ok (.iconst 0, 1) := by decide +kernel
theorem dX4_step_27 : decode cX4_step 27 = .ok (.istore_n 1, 1) := by decide +kernel
theorem dX4_step_28 : decode cX4_step 28 = .ok (.iload_n 1, 1) := by decide +kernel
theorem dX4_step_29 : decode cX4_step 29 = .ok (.aload_n 0, 1) := by decide +kernel
theorem dX4_step_30 : decode cX4_step 30 = .ok (.getfield 62, 3) := by decide +kernel
theorem dX4_step_33 : decode cX4_step 33 = .ok (.if_icmp .ge 14, 3) := by decide +kernel
theorem dX4_step_36 : decode cX4_step 36 = .ok (.aload_n 0, 1) := by decide +kernel
theorem dX4_step_37 : decode cX4_step 37 = .ok (.iload_n 1, 1) := by decide +kernel
theorem dX4_step_38 : decode cX4_step 38 = .ok (.invokevirtual 124, 3) := by decide +kernel
theorem dX4_step_41 : decode cX4_step 41 = .ok (.iinc 1 1, 3) := by decide +kernel
theorem dX4_step_44 : decode cX4_step 44 = .ok (.goto (-16), 3) := by decide +kernel
theorem dX4_step_47 : decode cX4_step 47 = .ok (.iconst 0, 1) := by decide +kernel
theorem dX4_step_48 : decode cX4_step 48 = .ok (.istore_n 1, 1) := by decide +kernel
theorem dX4_step_49 : decode cX4_step 49 = .ok (.iload_n 1, 1) := by decide +kernel
theorem dX4_step_50 : decode cX4_step 50 = .ok (.aload_n 0, 1) := by decide +kernel
theorem dX4_step_51 : decode cX4_step 51 = .ok (.getfield 65, 3) := by decide +kernel
theorem dX4_step_54 : decode cX4_step 54 = .ok (.if_icmp .ge 19, 3) := by decide +kernel
theorem dX4_step_57 : decode cX4_step 57 = .ok (.aload_n 0, 1) := by decide +kernel
theorem dX4_step_58 : decode cX4_step 58 = .ok (.aload_n 0, 1) := by decide +kernel
theorem dX4_step_59 : decode cX4_step 59 = .ok (.getfield 40, 3) := by decide +kernel
theorem dX4_step_62 : decode cX4_step 62 = .ok (.iload_n 1, 1) := by decide +kernel
theorem dX4_step_63 : decode cX4_step 63 = .ok (.aaload, 1) := by decide +kernel
theorem dX4_step_64 : decode cX4_step 64 = .ok (.invokevirtual 128, 3) := by decide +kernel
theorem dX4_step_67 : decode cX4_step 67 = .ok (.iinc 1 1, 3) := by decide +kernel
theorem dX4_step_70 : decode cX4_step 70 = .ok (.goto (-21), 3) := by decide +kernel
theorem dX4_step_73 : decode cX4_step 73 = .ok (.iconst 0, 1) := by decide +kernel
theorem dX4_step_74 : decode cX4_step 74 = .ok (.istore_n 1, 1) := by decide +kernel
theorem dX4_step_75 : decode cX4_step 75 = .ok (.iload_n 1, 1) := by decide +kernel
theorem dX4_step_76 : decode cX4_step 76 = .ok (.aload_n 0, 1) := by decide +kernel
theorem dX4_step_77 : decode cX4_step 77 = .ok (.getfield 62, 3) := by decide +kernel
theorem dX4_step_80 : decode cX4_step 80 = .ok (.if_icmp .ge 27, 3) := by decide +kernel
theorem dX4_step_83 : decode cX4_step 83 = .ok (.aload_n 0, 1) := by decide +kernel
theorem dX4_step_84 : decode cX4_step 84 = .ok (.getfield 34, 3) := by decide +kernel
theorem dX4_step_87 : decode cX4_step 87 = .ok (.iload_n 1, 1) := by decide +kernel
theorem dX4_step_88 : decode cX4_step 88 = .ok (.aaload, 1) := by decide +kernel
theorem dX4_step_89 : decode cX4_step 89 = .ok (.getfield 120, 3) := by decide +kernel
theorem dX4_step_92 : decode cX4_step 92 = .ok (.iconst 4, 1) := by decide +kernel
theorem dX4_step_93 : decode cX4_step 93 = .ok (.if_icmp .ne 8, 3) := by decide +kernel
theorem dX4_step_96 : decode cX4_step 96 = .ok (.aload_n 0, 1) := by decide +kernel
theorem dX4_step_97 : decode cX4_step 97 = .ok (.iload_n 1, 1) := by decide +kernel
theorem dX4_step_98 : decode cX4_step 98 = .ok (.invokevirtual 131, 3) := by decide +kernel
theorem dX4_step_101 : decode cX4_step 101 = .ok (.iinc 1 1, 3) := by decide +kernel
theorem dX4_step_104 : decode cX4_step 104 = .ok (.goto (-29), 3) := by decide +kernel
theorem dX4_step_107 : decode cX4_step 107 = .ok (.iconst 0, 1) := by decide +kernel
theorem dX4_step_108 : decode cX4_step 108 = .ok (.istore_n 1, 1) := by decide +kernel
theorem dX4_step_109 : decode cX4_step 109 = .ok (.iload_n 1, 1) := by decide +kernel
theorem dX4_step_110 : decode cX4_step 110 = .ok (.aload_n 0, 1) := by decide +kernel
theorem dX4_step_111 : decode cX4_step 111 = .ok (.getfield 62, 3) := by decide +kernel
theorem dX4_step_114 : decode cX4_step 114 = .ok (.if_icmp .ge 19, 3) := by decide +kernel
theorem dX4_step_117 : decode cX4_step 117 = .ok (.aload_n 0, 1) := by decide +kernel
theorem dX4_step_118 : decode cX4_step 118 = .ok (.aload_n 0, 1) := by decide +kernel
theorem dX4_step_119 : decode cX4_step 119 = .ok (.getfield 34, 3) := by decide +kernel
theorem dX4_step_122 : decode cX4_step 122 = .ok (.iload_n 1, 1) := by decide +kernel
theorem dX4_step_123 : decode cX4_step 123 = .ok (.aaload, 1) := by decide +kernel
theorem dX4_step_124 : decode cX4_step 124 = .ok (.invokevirtual 134, 3) := by decide +kernel
theorem dX4_step_127 : decode cX4_step 127 = .ok (.iinc 1 1, 3) := by decide +kernel
theorem dX4_step_130 : decode cX4_step 130 = .ok (.goto (-21), 3) := by decide +kernel
theorem dX4_step_133 : decode cX4_step 133 = .ok (.aload_n 0, 1) := by decide +kernel
theorem dX4_step_134 : decode cX4_step 134 = .ok (.getfield 11, 3) := by decide +kernel
theorem dX4_step_137 : decode cX4_step 137 = .ok (.iconst 5, 1) := by decide +kernel
theorem dX4_step_138 : decode cX4_step 138 = .ok (.iaload, 1) := by decide +kernel
theorem dX4_step_139 : decode cX4_step 139 = .ok (.iconst 1, 1) := by decide +kernel
theorem dX4_step_140 : decode cX4_step 140 = .ok (.if_icmp .ne 7, 3) := by decide +kernel
theorem dX4_step_143 : decode cX4_step 143 = .ok (.iconst 1, 1) := by decide +kernel
theorem dX4_step_144 : decode cX4_step 144 = .ok (.goto 10, 3) := by decide +kernel
theorem dX4_step_147 : decode cX4_step 147 = .ok (.aload_n 0, 1) := by decide +kernel
theorem dX4_step_148 : decode cX4_step 148 = .ok (.getfield 11, 3) := by decide +kernel
theorem dX4_step_151 : decode cX4_step 151 = .ok (.bipush 8, 2) := by decide +kernel
theorem dX4_step_153 : decode cX4_step 153 = .ok (.iaload, 1) := by decide +kernel
theorem dX4_step_154 : decode cX4_step 154 = .ok (.istore_n 1, 1) := by decide +kernel
theorem dX4_step_155 : decode cX4_step 155 = .ok (.iconst 0, 1) := by decide +kernel
theorem dX4_step_156 : decode cX4_step 156 = .ok (.istore_n 2, 1) := by decide +kernel
theorem dX4_step_157 : decode cX4_step 157 = .ok (.iload_n 2, 1) := by decide +kernel
theorem dX4_step_158 : decode cX4_step 158 = .ok (.iload_n 1, 1) := by decide +kernel
theorem dX4_step_159 : decode cX4_step 159 = .ok (.if_icmp .ge 19, 3) := by decide +kernel
theorem dX4_step_162 : decode cX4_step 162 = .ok (.aload_n 0, 1) := by decide +kernel
theorem dX4_step_163 : decode cX4_step 163 = .ok (.iload_n 2, 1) := by decide +kernel
theorem dX4_step_164 : decode cX4_step 164 = .ok (.aload_n 0, 1) := by decide +kernel
theorem dX4_step_165 : decode cX4_step 165 = .ok (.iload_n 2, 1) := by decide +kernel
theorem dX4_step_166 : decode cX4_step 166 = .ok (.invokevirtual 137, 3) := by decide +kernel
theorem dX4_step_169 : decode cX4_step 169 = .ok (.invokevirtual 140, 3) := by decide +kernel
theorem dX4_step_172 : decode cX4_step 172 = .ok (.iinc 2 1, 3) := by decide +kernel
theorem dX4_step_175 : decode cX4_step 175 = .ok (.goto (-18), 3) := by decide +kernel
theorem dX4_step_178 : decode cX4_step 178 = .ok (.iconst 0, 1) := by decide +kernel
theorem dX4_step_179 : decode cX4_step 179 = .ok (.istore_n 2, 1) := by decide +kernel
theorem dX4_step_180 : decode cX4_step 180 = .ok (.iload_n 2, 1) := by decide +kernel
theorem dX4_step_181 : decode cX4_step 181 = .ok (.aload_n 0, 1) := by decide +kernel
theorem dX4_step_182 : decode cX4_step 182 = .ok (.getfield 62, 3) := by decide +kernel
theorem dX4_step_185 : decode cX4_step 185 = .ok (.if_icmp .ge 19, 3) := by decide +kernel
theorem dX4_step_188 : decode cX4_step 188 = .ok (.aload_n 0, 1) := by decide +kernel
theorem dX4_step_189 : decode cX4_step 189 = .ok (.aload_n 0, 1) := by decide +kernel
theorem dX4_step_190 : decode cX4_step 190 = .ok (.getfield 34, 3) := by decide +kernel
theorem dX4_step_193 : decode cX4_step 193 = .ok (.iload_n 2, 1) := by decide +kernel
theorem dX4_step_194 : decode cX4_step 194 = .ok (.aaload, 1) := by decide +kernel
theorem dX4_step_195 : decode cX4_step 195 = .ok (.invokevirtual 144, 3) := by decide +kernel
theorem dX4_step_198 : decode cX4_step 198 = .ok (.iinc 2 1, 3) := by decide +kernel
theorem dX4_step_201 : decode cX4_step 201 = .ok (.goto (-21), 3) := by decide +kernel
theorem dX4_step_204 : decode cX4_step 204 = .ok (.aload_n 0, 1) := by decide +kernel
theorem dX4_step_205 : decode cX4_step 205 = .ok (.dup, 1) := by decide +kernel
theorem dX4_step_206 : decode cX4_step 206 = .ok (.getfield 55, 3) := by decide +kernel
theorem dX4_step_209 : decode cX4_step 209 = .ok (.iconst 1, 1) := by decide +kernel
theorem dX4_step_210 : decode cX4_step 210 = .ok (.iadd, 1) := by decide +kernel
theorem dX4_step_211 : decode cX4_step 211 = .ok (.putfield 55, 3) := by decide +kernel
theorem dX4_step_214 : decode cX4_step 214 = .ok (.return_, 1) := by decide +kernel
section WK
variable {p : Program} {l : Launch} {e : Env} {s : State} {m : MethodId} {args : Array Value} {below : List Frame} {meth : Method} {c : Code}
set_option maxHeartbeats 4000000 in
set_option maxRecDepth 20000 in
theorem wX4_become_L160 {k : En} {S : Nat → Prop} (hS : ∀ t, S t) {i : Nat} {i1 : Nat} (hi : i < 2) (hi1 : i1 < 2) {res : Mm} (X : Cx YC S k p s m args meth c cX4_become 3 none RX4) {r : Mm} (JR : r = res) :
    ∀ (fu : Nat) (g : Mm) (x2 : Int32) (H : Heap) (locs : List Loc) (ls : Array Slot), Hx YC S k s g H locs → lv_has ls 3 [(0, .ref (k.1 + adC 9 i 0)), (1, .ref (k.1 + adC 9 i1 0)), (2, .int x2)] → wLp (fun q => fX4_become_B160 q.1 i i1 q.2) fu (g, x2) = some r → W p l e (RmN 2 81) s m args below meth c H locs 0 0 (Fin YC S k args s below none res) (F0 m 160 ls []) := by
  intro fu
  induction fu with
  | zero => intro g x2 H locs ls h hl hf; exact (wLp_0 hf).elim
  | succ fu ih1 =>
    intro g x2 H locs ls h hl hf
    obtain ⟨r1, hf, hr⟩ := wLp_s hf
    have J1n : ∀ (g : Mm) (x2 : Int32), r1 = .inl (g, x2) → ∀ (H : Heap) (locs : List Loc) (ls : Array Slot), Hx YC S k s g H locs → lv_has ls 3 [(0, .ref (k.1 + adC 9 i 0)), (1, .ref (k.1 + adC 9 i1 0)), (2, .int x2)] → W p l e (RmN 2 81) s m args below meth c H locs 0 0 (Fin YC S k args s below none res) (F0 m 160 ls []) := fun g x2 q H locs ls h hl => by subst q; exact ih1 _ _ _ _ _ h hl hr
    have JRn : ∀ t1, r1 = .inr t1 → t1 = res := fun t1 q => by subst q; obtain rfl := Option.some.inj hr; exact JR
    have J1 := J1n
    have JR := JRn
    clear J1n JRn
    have hf : fX4_become_B160 g i i1 x2 = some r1 := hf
    unfold fX4_become_B160 at hf
    refine lv_iload_n X.x X.b dX4_become_160 rfl (lv_at hl 2 rfl) ?_
    refine lv_aload_n X.x X.b dX4_become_161 rfl (lv_at hl 0 rfl) ?_
    refine gC_9_3 X h (hS 9) hi Nat.one_pos lk_X4_65 dX4_become_162 ?_
    refine lv_icmp_ge (tgt := 189) X.x X.b dX4_become_165 (by decide) (fun c39 => ?_) (fun c39 => ?_)
    · have hf := wT c39 hf
      obtain ⟨t40, hf, e41⟩ := wEx_s hf
      have JR := JR t40 e41
      cases (Option.some.inj hf).trans JR
      exact ro_vret X h dX4_become_189
    · have hf := wF c39 hf
      refine lv_aload_n X.x X.b dX4_become_168 rfl (lv_at hl 0 rfl) ?_
      refine gC_9_12 X h (hS 9) hi Nat.one_pos lk_X4_40 dX4_become_169 ?_
      refine lv_iload_n X.x X.b dX4_become_172 rfl (lv_at hl 2 rfl) ?_
      obtain ⟨b42, hf⟩ := wGi_s hf
      refine qC_17 X h (hS 17) hi Nat.one_pos b42 dX4_become_173 ?_
      refine lv_aload_n X.x X.b dX4_become_174 rfl (lv_at hl 1 rfl) ?_
      refine gC_9_12 X h (hS 9) hi1 Nat.one_pos lk_X4_40 dX4_become_175 ?_
      refine lv_iload_n X.x X.b dX4_become_178 rfl (lv_at hl 2 rfl) ?_
      obtain ⟨b43, hf⟩ := wGi_s hf
      refine qC_17 X h (hS 17) hi1 Nat.one_pos b43 dX4_become_179 ?_
      obtain ⟨g46, e44, hf⟩ := wBd_s hf
      refine ro_callvV (As := [.ref (k.1 + adC 22 i1 ((x2).toNatClampNeg))]) (g1 := g46) X h (kX1_become l hS hi (vin_lt b42) hi1 (vin_lt b43) e44) mv_X1_become lk_X4_78 ⟨rfl, rfl⟩ ⟨(Nat.le_of_ble_eq_true rfl), (Nat.le_of_ble_eq_true rfl)⟩ (rC_22 X h (hS 22) hi (vin_lt b42)) rfl hl rfl (Nat.le_of_ble_eq_true rfl) ⟨Nat.zero_le _, Nat.zero_le _⟩ dX4_become_180 (fun H locs h => ?_)
      obtain ⟨y47, e48, hf⟩ := wLe_s hf
      refine lv_iinc (v := y47) (lv' := [(2, .int y47), (0, .ref (k.1 + adC 9 i 0)), (1, .ref (k.1 + adC 9 i1 0))]) X.x X.b dX4_become_183 hl (k := 2) rfl (by rw [e48]; rfl) (by decide) rfl (fun ls hl => ?_)
      refine lv_goto (tgt := 160) X.x X.b dX4_become_186 (by decide) ?_
      exact J1 _ _ (Option.some.inj hf).symm _ _ _ h (lv_sub hl [1, 2, 0] rfl)
set_option maxHeartbeats 4000000 in
set_option maxRecDepth 20000 in
theorem wX4_become_L129 {k : En} {S : Nat → Prop} (hS : ∀ t, S t) {i : Nat} {i1 : Nat} (hi : i < 2) (hi1 : i1 < 2) {res : Mm} (X : Cx YC S k p s m args meth c cX4_become 3 none RX4) {r : Mm} (JR : r = res) :
    ∀ (fu : Nat) (g : Mm) (x2 : Int32) (H : Heap) (locs : List Loc) (ls : Array Slot), Hx YC S k s g H locs → lv_has ls 3 [(0, .ref (k.1 + adC 9 i 0)), (1, .ref (k.1 + adC 9 i1 0)), (2, .int x2)] → wLp (fun q => fX4_become_B129 q.1 i i1 q.2) fu (g, x2) = some r → W p l e (RmN 2 81) s m args below meth c H locs 0 0 (Fin YC S k args s below none res) (F0 m 129 ls []) := by
  intro fu
  induction fu with
  | zero => intro g x2 H locs ls h hl hf; exact (wLp_0 hf).elim
  | succ fu ih1 =>
    intro g x2 H locs ls h hl hf
    obtain ⟨r1, hf, hr⟩ := wLp_s hf
    have J1n : ∀ (g : Mm) (x2 : Int32), r1 = .inl (g, x2) → ∀ (H : Heap) (locs : List Loc) (ls : Array Slot), Hx YC S k s g H locs → lv_has ls 3 [(0, .ref (k.1 + adC 9 i 0)), (1, .ref (k.1 + adC 9 i1 0)), (2, .int x2)] → W p l e (RmN 2 81) s m args below meth c H locs 0 0 (Fin YC S k args s below none res) (F0 m 129 ls []) := fun g x2 q H locs ls h hl => by subst q; exact ih1 _ _ _ _ _ h hl hr
    have JRn : ∀ t1, r1 = .inr t1 → t1 = res := fun t1 q => by subst q; obtain rfl := Option.some.inj hr; exact JR
    have J1 := J1n
    have JR := JRn
    clear J1n JRn
    have hf : fX4_become_B129 g i i1 x2 = some r1 := hf
    unfold fX4_become_B129 at hf
    refine lv_iload_n X.x X.b dX4_become_129 rfl (lv_at hl 2 rfl) ?_
    refine lv_aload_n X.x X.b dX4_become_130 rfl (lv_at hl 0 rfl) ?_
    refine gC_9_2 X h (hS 9) hi Nat.one_pos lk_X4_62 dX4_become_131 ?_
    refine lv_icmp_ge (tgt := 158) X.x X.b dX4_become_134 (by decide) (fun c34 => ?_) (fun c34 => ?_)
    · have hf := wT c34 hf
      obtain ⟨t35, hf, e36⟩ := wEx_s hf
      have JR := JR t35 e36
      refine lv_iconst (v := 0) X.x X.b dX4_become_158 (by decide) ?_
      obtain ⟨y37, e38, hf⟩ := wLe_s hf
      refine lv_nmi e38 ?_
      refine lv_istore_n (lv' := [(2, .int y37), (0, .ref (k.1 + adC 9 i 0)), (1, .ref (k.1 + adC 9 i1 0))]) X.x X.b dX4_become_159 rfl hl (by decide) rfl (fun ls hl => ?_)
      exact wX4_become_L160 hS hi hi1 X JR _ _ _ _ _ _ h (lv_sub hl [1, 2, 0] rfl) hf
    · have hf := wF c34 hf
      refine lv_aload_n X.x X.b dX4_become_137 rfl (lv_at hl 0 rfl) ?_
      refine gC_9_11 X h (hS 9) hi Nat.one_pos lk_X4_34 dX4_become_138 ?_
      refine lv_iload_n X.x X.b dX4_become_141 rfl (lv_at hl 2 rfl) ?_
      obtain ⟨b49, hf⟩ := wGi_s hf
      refine qC_16 X h (hS 16) hi Nat.one_pos b49 dX4_become_142 ?_
      refine lv_aload_n X.x X.b dX4_become_143 rfl (lv_at hl 1 rfl) ?_
      refine gC_9_11 X h (hS 9) hi1 Nat.one_pos lk_X4_34 dX4_become_144 ?_
      refine lv_iload_n X.x X.b dX4_become_147 rfl (lv_at hl 2 rfl) ?_
      obtain ⟨b50, hf⟩ := wGi_s hf
      refine qC_16 X h (hS 16) hi1 Nat.one_pos b50 dX4_become_148 ?_
      obtain ⟨g53, e51, hf⟩ := wBd_s hf
      refine ro_callvV (As := [.ref (k.1 + adC 19 i1 ((x2).toNatClampNeg))]) (g1 := g53) X h (kX9_become l hS hi (vin_lt b49) hi1 (vin_lt b50) e51) mv_X9_become lk_X4_74 ⟨rfl, rfl⟩ ⟨(Nat.le_of_ble_eq_true rfl), (Nat.le_of_ble_eq_true rfl)⟩ (rC_19 X h (hS 19) hi (vin_lt b49)) rfl hl rfl (Nat.le_of_ble_eq_true rfl) ⟨Nat.zero_le _, Nat.zero_le _⟩ dX4_become_149 (fun H locs h => ?_)
      obtain ⟨y54, e55, hf⟩ := wLe_s hf
      refine lv_iinc (v := y54) (lv' := [(2, .int y54), (0, .ref (k.1 + adC 9 i 0)), (1, .ref (k.1 + adC 9 i1 0))]) X.x X.b dX4_become_152 hl (k := 2) rfl (by rw [e55]; rfl) (by decide) rfl (fun ls hl => ?_)
      refine lv_goto (tgt := 129) X.x X.b dX4_become_155 (by decide) ?_
      exact J1 _ _ (Option.some.inj hf).symm _ _ _ h (lv_sub hl [1, 2, 0] rfl)
set_option maxHeartbeats 4000000 in
set_option maxRecDepth 20000 in
theorem kX4_become (l : Launch) {k : En} {S : Nat → Prop} (hS : ∀ t, S t) {i : Nat} {i1 : Nat} (hi : i < 2) (hi1 : i1 < 2) {res : Mm} {g : Mm} (hf : fX4_become g i i1 = some res) : Mt l yX4_become cX4_become 3 none (RmN 2 81) YC S k [.ref (k.1 + adC 9 i 0), .ref (k.1 + adC 9 i1 0)] g none res := by
  refine Mt.of (by decide) (Nat.le_of_ble_eq_true rfl) ?_
  intro p e s m args below meth c ls X _ h hl
  have X : Cx YC S k p s m args meth c cX4_become 3 none RX4 := X
  have hl : lv_has ls 3 [(0, .ref (k.1 + adC 9 i 0)), (1, .ref (k.1 + adC 9 i1 0))] := hl
  have JR : res = res := rfl
  unfold fX4_become at hf
  refine lv_aload_n X.x X.b dX4_become_0 rfl (lv_at hl 0 rfl) ?_
  refine lv_aload_n X.x X.b dX4_become_1 rfl (lv_at hl 1 rfl) ?_
  refine gC_9_0 X h (hS 9) hi1 Nat.one_pos lk_X4_55 dX4_become_2 ?_
  obtain ⟨g1, e2, hf⟩ := wLe_s hf
  refine pC_9_0 X h (hS 9) hi Nat.one_pos lk_X4_55 e2 dX4_become_5 (fun H locs h => ?_)
  refine lv_aload_n X.x X.b dX4_become_8 rfl (lv_at hl 0 rfl) ?_
  refine lv_aload_n X.x X.b dX4_become_9 rfl (lv_at hl 1 rfl) ?_
  refine gC_9_1 X h (hS 9) hi1 Nat.one_pos lk_X4_59 dX4_become_10 ?_
  obtain ⟨g3, e4, hf⟩ := wLe_s hf
  refine pC_9_1 X h (hS 9) hi Nat.one_pos lk_X4_59 e4 dX4_become_13 (fun H locs h => ?_)
  refine lv_aload_n X.x X.b dX4_become_16 rfl (lv_at hl 0 rfl) ?_
  refine lv_aload_n X.x X.b dX4_become_17 rfl (lv_at hl 1 rfl) ?_
  refine gC_9_2 X h (hS 9) hi1 Nat.one_pos lk_X4_62 dX4_become_18 ?_
  obtain ⟨g5, e6, hf⟩ := wLe_s hf
  refine pC_9_2 X h (hS 9) hi Nat.one_pos lk_X4_62 e6 dX4_become_21 (fun H locs h => ?_)
  refine lv_aload_n X.x X.b dX4_become_24 rfl (lv_at hl 0 rfl) ?_
  refine lv_aload_n X.x X.b dX4_become_25 rfl (lv_at hl 1 rfl) ?_
  refine gC_9_3 X h (hS 9) hi1 Nat.one_pos lk_X4_65 dX4_become_26 ?_
  obtain ⟨g7, e8, hf⟩ := wLe_s hf
  refine pC_9_3 X h (hS 9) hi Nat.one_pos lk_X4_65 e8 dX4_become_29 (fun H locs h => ?_)
  refine lv_aload_n X.x X.b dX4_become_32 rfl (lv_at hl 0 rfl) ?_
  refine lv_aload_n X.x X.b dX4_become_33 rfl (lv_at hl 1 rfl) ?_
  obtain ⟨n9, hb11, e10, hf⟩ := wGr_s hf
  refine gC_9_4 X h (hS 9) hi1 Nat.one_pos lk_X4_49 e10 dX4_become_34 ?_
  obtain ⟨g12, e13, hf⟩ := wLe_s hf
  refine pC_9_4 X h (hS 9) hi Nat.one_pos lk_X4_49 hb11 e13 dX4_become_37 (fun H locs h => ?_)
  refine lv_aload_n X.x X.b dX4_become_40 rfl (lv_at hl 1 rfl) ?_
  refine gC_9_5 X h (hS 9) hi1 Nat.one_pos lk_X4_11 dX4_become_41 ?_
  refine lv_iconst (v := 0) X.x X.b dX4_become_44 (by decide) ?_
  refine lv_aload_n X.x X.b dX4_become_45 rfl (lv_at hl 0 rfl) ?_
  refine gC_9_5 X h (hS 9) hi Nat.one_pos lk_X4_11 dX4_become_46 ?_
  refine lv_iconst (v := 0) X.x X.b dX4_become_49 (by decide) ?_
  refine lv_bipush (v := 9) X.x X.b dX4_become_50 (by decide) ?_
  obtain ⟨b16, hf⟩ := wGd_s hf
  obtain ⟨g14, e15, hf⟩ := wLe_s hf
  refine ro_copy okC X h hl (hS 10) hi1 Nat.one_pos (fun _ => rfl) (hS 10) hi Nat.one_pos (fun _ => rfl) lk_X4_68 cp_f b16 e15 (Nat.le_of_ble_eq_true rfl) (Nat.le_of_ble_eq_true rfl) dX4_become_52 (fun H locs h => ?_)
  refine lv_aload_n X.x X.b dX4_become_55 rfl (lv_at hl 1 rfl) ?_
  refine gC_9_6 X h (hS 9) hi1 Nat.one_pos lk_X4_17 dX4_become_56 ?_
  refine lv_iconst (v := 0) X.x X.b dX4_become_59 (by decide) ?_
  refine lv_aload_n X.x X.b dX4_become_60 rfl (lv_at hl 0 rfl) ?_
  refine gC_9_6 X h (hS 9) hi Nat.one_pos lk_X4_17 dX4_become_61 ?_
  refine lv_iconst (v := 0) X.x X.b dX4_become_64 (by decide) ?_
  refine lv_iconst (v := 5) X.x X.b dX4_become_65 (by decide) ?_
  obtain ⟨b19, hf⟩ := wGd_s hf
  obtain ⟨g17, e18, hf⟩ := wLe_s hf
  refine ro_copy okC X h hl (hS 11) hi1 Nat.one_pos (fun _ => rfl) (hS 11) hi Nat.one_pos (fun _ => rfl) lk_X4_68 cp_f b19 e18 (Nat.le_of_ble_eq_true rfl) (Nat.le_of_ble_eq_true rfl) dX4_become_66 (fun H locs h => ?_)
  refine lv_aload_n X.x X.b dX4_become_69 rfl (lv_at hl 1 rfl) ?_
  refine gC_9_7 X h (hS 9) hi1 Nat.one_pos lk_X4_20 dX4_become_70 ?_
  refine lv_iconst (v := 0) X.x X.b dX4_become_73 (by decide) ?_
  refine lv_aload_n X.x X.b dX4_become_74 rfl (lv_at hl 0 rfl) ?_
  refine gC_9_7 X h (hS 9) hi Nat.one_pos lk_X4_20 dX4_become_75 ?_
  refine lv_iconst (v := 0) X.x X.b dX4_become_78 (by decide) ?_
  refine lv_bipush (v := 6) X.x X.b dX4_become_79 (by decide) ?_
  obtain ⟨b22, hf⟩ := wGd_s hf
  obtain ⟨g20, e21, hf⟩ := wLe_s hf
  refine ro_copy okC X h hl (hS 12) hi1 Nat.one_pos (fun _ => rfl) (hS 12) hi Nat.one_pos (fun _ => rfl) lk_X4_68 cp_f b22 e21 (Nat.le_of_ble_eq_true rfl) (Nat.le_of_ble_eq_true rfl) dX4_become_81 (fun H locs h => ?_)
  refine lv_aload_n X.x X.b dX4_become_84 rfl (lv_at hl 1 rfl) ?_
  refine gC_9_8 X h (hS 9) hi1 Nat.one_pos lk_X4_23 dX4_become_85 ?_
  refine lv_iconst (v := 0) X.x X.b dX4_become_88 (by decide) ?_
  refine lv_aload_n X.x X.b dX4_become_89 rfl (lv_at hl 0 rfl) ?_
  refine gC_9_8 X h (hS 9) hi Nat.one_pos lk_X4_23 dX4_become_90 ?_
  refine lv_iconst (v := 0) X.x X.b dX4_become_93 (by decide) ?_
  refine lv_bipush (v := 6) X.x X.b dX4_become_94 (by decide) ?_
  obtain ⟨b25, hf⟩ := wGd_s hf
  obtain ⟨g23, e24, hf⟩ := wLe_s hf
  refine ro_copy okC X h hl (hS 13) hi1 Nat.one_pos (fun _ => rfl) (hS 13) hi Nat.one_pos (fun _ => rfl) lk_X4_68 cp_f b25 e24 (Nat.le_of_ble_eq_true rfl) (Nat.le_of_ble_eq_true rfl) dX4_become_96 (fun H locs h => ?_)
  refine lv_aload_n X.x X.b dX4_become_99 rfl (lv_at hl 1 rfl) ?_
  refine gC_9_9 X h (hS 9) hi1 Nat.one_pos lk_X4_26 dX4_become_100 ?_
  refine lv_iconst (v := 0) X.x X.b dX4_become_103 (by decide) ?_
  refine lv_aload_n X.x X.b dX4_become_104 rfl (lv_at hl 0 rfl) ?_
  refine gC_9_9 X h (hS 9) hi Nat.one_pos lk_X4_26 dX4_become_105 ?_
  refine lv_iconst (v := 0) X.x X.b dX4_become_108 (by decide) ?_
  refine lv_iconst (v := 2) X.x X.b dX4_become_109 (by decide) ?_
  obtain ⟨b28, hf⟩ := wGd_s hf
  obtain ⟨g26, e27, hf⟩ := wLe_s hf
  refine ro_copy okC X h hl (hS 14) hi1 Nat.one_pos (fun _ => rfl) (hS 14) hi Nat.one_pos (fun _ => rfl) lk_X4_68 cp_f b28 e27 (Nat.le_of_ble_eq_true rfl) (Nat.le_of_ble_eq_true rfl) dX4_become_110 (fun H locs h => ?_)
  refine lv_aload_n X.x X.b dX4_become_113 rfl (lv_at hl 1 rfl) ?_
  refine gC_9_10 X h (hS 9) hi1 Nat.one_pos lk_X4_29 dX4_become_114 ?_
  refine lv_iconst (v := 0) X.x X.b dX4_become_117 (by decide) ?_
  refine lv_aload_n X.x X.b dX4_become_118 rfl (lv_at hl 0 rfl) ?_
  refine gC_9_10 X h (hS 9) hi Nat.one_pos lk_X4_29 dX4_become_119 ?_
  refine lv_iconst (v := 0) X.x X.b dX4_become_122 (by decide) ?_
  refine lv_iconst (v := 2) X.x X.b dX4_become_123 (by decide) ?_
  obtain ⟨b31, hf⟩ := wGd_s hf
  obtain ⟨g29, e30, hf⟩ := wLe_s hf
  refine ro_copy okC X h hl (hS 15) hi1 Nat.one_pos (fun _ => rfl) (hS 15) hi Nat.one_pos (fun _ => rfl) lk_X4_68 cp_f b31 e30 (Nat.le_of_ble_eq_true rfl) (Nat.le_of_ble_eq_true rfl) dX4_become_124 (fun H locs h => ?_)
  refine lv_iconst (v := 0) X.x X.b dX4_become_127 (by decide) ?_
  obtain ⟨y32, e33, hf⟩ := wLe_s hf
  refine lv_nmi e33 ?_
  refine lv_istore_n (lv' := [(2, .int y32), (0, .ref (k.1 + adC 9 i 0)), (1, .ref (k.1 + adC 9 i1 0))]) X.x X.b dX4_become_128 rfl hl (by decide) rfl (fun ls hl => ?_)
  exact wX4_become_L129 hS hi hi1 X JR _ _ _ _ _ _ h (lv_sub hl [1, 2, 0] rfl) hf
set_option maxHeartbeats 4000000 in
set_option maxRecDepth 20000 in
theorem kX4_maySet (l : Launch) {k : En} {S : Nat → Prop} (hS : ∀ t, S t) {g0 : Mm} {a0 : Int32} {a1 : Int32} {res : Int32} (hf : fX4_maySet g0 a0 a1 = some res) : Mt l yX4_maySet cX4_maySet 2 (some .boolean) (RmN 0 0) YC S k [.int a0, .int a1] g0 (some (.int res)) g0 := by
  refine Mt.of (by decide) (Nat.le_of_ble_eq_true rfl) ?_
  intro p e s m args below meth c ls X _ h hl
  have X : Cx YC S k p s m args meth c cX4_maySet 2 (some .boolean) RX4 := X
  have hl : lv_has ls 2 [(0, .int a0), (1, .int a1)] := hl
  have JR : res = res := rfl
  unfold fX4_maySet at hf
  refine lv_iload_n X.x X.b dX4_maySet_0 rfl (lv_at hl 0 rfl) ?_
  refine lv_if_lt (tgt := 32) X.x X.b dX4_maySet_1 (by decide) (fun c1 => ?_) (fun c1 => ?_)
  · have hf := wT c1 hf
    refine lv_iconst (v := 0) X.x X.b dX4_maySet_32 (by decide) ?_
    cases (Option.some.inj hf).trans JR
    exact ro_zret X h (Or.inl rfl) dX4_maySet_33
  · have hf := wF c1 hf
    refine lv_iload_n X.x X.b dX4_maySet_4 rfl (lv_at hl 0 rfl) ?_
    refine lv_bipush (v := 9) X.x X.b dX4_maySet_5 (by decide) ?_
    refine lv_icmp_ge (tgt := 32) X.x X.b dX4_maySet_7 (by decide) (fun c2 => ?_) (fun c2 => ?_)
    · have hf := wT c2 hf
      refine lv_iconst (v := 0) X.x X.b dX4_maySet_32 (by decide) ?_
      cases (Option.some.inj hf).trans JR
      exact ro_zret X h (Or.inl rfl) dX4_maySet_33
    · have hf := wF c2 hf
      refine lv_iload_n X.x X.b dX4_maySet_10 rfl (lv_at hl 1 rfl) ?_
      refine ro_gets X h 0 rfl lk_X4_81 dX4_maySet_11 ?_
      refine lv_iload_n X.x X.b dX4_maySet_14 rfl (lv_at hl 0 rfl) ?_
      obtain ⟨b3, hf⟩ := wGi_s hf
      refine ro_tld X h 0 rfl (n := 9) rfl b3 dX4_maySet_15 ?_
      refine lv_icmp_lt (tgt := 32) X.x X.b dX4_maySet_16 (by decide) (fun c4 => ?_) (fun c4 => ?_)
      · have hf := wT c4 hf
        refine lv_iconst (v := 0) X.x X.b dX4_maySet_32 (by decide) ?_
        cases (Option.some.inj hf).trans JR
        exact ro_zret X h (Or.inl rfl) dX4_maySet_33
      · have hf := wF c4 hf
        refine lv_iload_n X.x X.b dX4_maySet_19 rfl (lv_at hl 1 rfl) ?_
        refine ro_gets X h 1 rfl lk_X4_84 dX4_maySet_20 ?_
        refine lv_iload_n X.x X.b dX4_maySet_23 rfl (lv_at hl 0 rfl) ?_
        obtain ⟨b5, hf⟩ := wGi_s hf
        refine ro_tld X h 1 rfl (n := 9) rfl b5 dX4_maySet_24 ?_
        refine lv_icmp_gt (tgt := 32) X.x X.b dX4_maySet_25 (by decide) (fun c6 => ?_) (fun c6 => ?_)
        · have hf := wT c6 hf
          refine lv_iconst (v := 0) X.x X.b dX4_maySet_32 (by decide) ?_
          cases (Option.some.inj hf).trans JR
          exact ro_zret X h (Or.inl rfl) dX4_maySet_33
        · have hf := wF c6 hf
          refine lv_iconst (v := 1) X.x X.b dX4_maySet_28 (by decide) ?_
          refine lv_goto (tgt := 33) X.x X.b dX4_maySet_29 (by decide) ?_
          cases (Option.some.inj hf).trans JR
          exact ro_zret X h (Or.inr rfl) dX4_maySet_33
set_option maxHeartbeats 4000000 in
set_option maxRecDepth 20000 in
theorem kX4_hasVisit (l : Launch) {k : En} {S : Nat → Prop} (hS : ∀ t, S t) {g0 : Mm} {i : Nat} {a1 : Int32} (hi : i < 2) {res : Int32} (hf : fX4_hasVisit g0 i a1 = some res) : Mt l yX4_hasVisit cX4_hasVisit 2 (some .boolean) (RmN 0 0) YC S k [.ref (k.1 + adC 9 i 0), .int a1] g0 (some (.int res)) g0 := by
  refine Mt.of (by decide) (Nat.le_of_ble_eq_true rfl) ?_
  intro p e s m args below meth c ls X _ h hl
  have X : Cx YC S k p s m args meth c cX4_hasVisit 2 (some .boolean) RX4 := X
  have hl : lv_has ls 2 [(0, .ref (k.1 + adC 9 i 0)), (1, .int a1)] := hl
  have JR : res = res := rfl
  unfold fX4_hasVisit at hf
  refine lv_iload_n X.x X.b dX4_hasVisit_0 rfl (lv_at hl 1 rfl) ?_
  refine lv_if_lt (tgt := 16) X.x X.b dX4_hasVisit_1 (by decide) (fun c1 => ?_) (fun c1 => ?_)
  · have hf := wT c1 hf
    refine lv_iconst (v := 0) X.x X.b dX4_hasVisit_16 (by decide) ?_
    cases (Option.some.inj hf).trans JR
    exact ro_zret X h (Or.inl rfl) dX4_hasVisit_17
  · have hf := wF c1 hf
    refine lv_iload_n X.x X.b dX4_hasVisit_4 rfl (lv_at hl 1 rfl) ?_
    refine lv_aload_n X.x X.b dX4_hasVisit_5 rfl (lv_at hl 0 rfl) ?_
    refine gC_9_2 X h (hS 9) hi Nat.one_pos lk_X4_62 dX4_hasVisit_6 ?_
    refine lv_icmp_ge (tgt := 16) X.x X.b dX4_hasVisit_9 (by decide) (fun c2 => ?_) (fun c2 => ?_)
    · have hf := wT c2 hf
      refine lv_iconst (v := 0) X.x X.b dX4_hasVisit_16 (by decide) ?_
      cases (Option.some.inj hf).trans JR
      exact ro_zret X h (Or.inl rfl) dX4_hasVisit_17
    · have hf := wF c2 hf
      refine lv_iconst (v := 1) X.x X.b dX4_hasVisit_12 (by decide) ?_
      refine lv_goto (tgt := 17) X.x X.b dX4_hasVisit_13 (by decide) ?_
      cases (Option.some.inj hf).trans JR
      exact ro_zret X h (Or.inr rfl) dX4_hasVisit_17
set_option maxHeartbeats 4000000 in
set_option maxRecDepth 20000 in
theorem kX4_hasFeed (l : Launch) {k : En} {S : Nat → Prop} (hS : ∀ t, S t) {g0 : Mm} {i : Nat} {a1 : Int32} (hi : i < 2) {res : Int32} (hf : fX4_hasFeed g0 i a1 = some res) : Mt l yX4_hasFeed cX4_hasFeed 2 (some .boolean) (RmN 0 0) YC S k [.ref (k.1 + adC 9 i 0), .int a1] g0 (some (.int res)) g0 := by
  refine Mt.of (by decide) (Nat.le_of_ble_eq_true rfl) ?_
  intro p e s m args below meth c ls X _ h hl
  have X : Cx YC S k p s m args meth c cX4_hasFeed 2 (some .boolean) RX4 := X
  have hl : lv_has ls 2 [(0, .ref (k.1 + adC 9 i 0)), (1, .int a1)] := hl
  have JR : res = res := rfl
  unfold fX4_hasFeed at hf
  refine lv_iload_n X.x X.b dX4_hasFeed_0 rfl (lv_at hl 1 rfl) ?_
  refine lv_if_lt (tgt := 16) X.x X.b dX4_hasFeed_1 (by decide) (fun c1 => ?_) (fun c1 => ?_)
  · have hf := wT c1 hf
    refine lv_iconst (v := 0) X.x X.b dX4_hasFeed_16 (by decide) ?_
    cases (Option.some.inj hf).trans JR
    exact ro_zret X h (Or.inl rfl) dX4_hasFeed_17
  · have hf := wF c1 hf
    refine lv_iload_n X.x X.b dX4_hasFeed_4 rfl (lv_at hl 1 rfl) ?_
    refine lv_aload_n X.x X.b dX4_hasFeed_5 rfl (lv_at hl 0 rfl) ?_
    refine gC_9_3 X h (hS 9) hi Nat.one_pos lk_X4_65 dX4_hasFeed_6 ?_
    refine lv_icmp_ge (tgt := 16) X.x X.b dX4_hasFeed_9 (by decide) (fun c2 => ?_) (fun c2 => ?_)
    · have hf := wT c2 hf
      refine lv_iconst (v := 0) X.x X.b dX4_hasFeed_16 (by decide) ?_
      cases (Option.some.inj hf).trans JR
      exact ro_zret X h (Or.inl rfl) dX4_hasFeed_17
    · have hf := wF c2 hf
      refine lv_iconst (v := 1) X.x X.b dX4_hasFeed_12 (by decide) ?_
      refine lv_goto (tgt := 17) X.x X.b dX4_hasFeed_13 (by decide) ?_
      cases (Option.some.inj hf).trans JR
      exact ro_zret X h (Or.inr rfl) dX4_hasFeed_17
set_option maxHeartbeats 4000000 in
set_option maxRecDepth 20000 in
theorem kX4_hasStand (l : Launch) {k : En} {S : Nat → Prop} (hS : ∀ t, S t) {g0 : Mm} {i : Nat} {a1 : Int32} (hi : i < 2) {res : Int32} (hf : fX4_hasStand g0 i a1 = some res) : Mt l yX4_hasStand cX4_hasStand 2 (some .boolean) (RmN 0 0) YC S k [.ref (k.1 + adC 9 i 0), .int a1] g0 (some (.int res)) g0 := by
  refine Mt.of (by decide) (Nat.le_of_ble_eq_true rfl) ?_
  intro p e s m args below meth c ls X _ h hl
  have X : Cx YC S k p s m args meth c cX4_hasStand 2 (some .boolean) RX4 := X
  have hl : lv_has ls 2 [(0, .ref (k.1 + adC 9 i 0)), (1, .int a1)] := hl
  have JR : res = res := rfl
  unfold fX4_hasStand at hf
  refine lv_iload_n X.x X.b dX4_hasStand_0 rfl (lv_at hl 1 rfl) ?_
  refine lv_if_lt (tgt := 16) X.x X.b dX4_hasStand_1 (by decide) (fun c1 => ?_) (fun c1 => ?_)
  · have hf := wT c1 hf
    refine lv_iconst (v := 0) X.x X.b dX4_hasStand_16 (by decide) ?_
    cases (Option.some.inj hf).trans JR
    exact ro_zret X h (Or.inl rfl) dX4_hasStand_17
  · have hf := wF c1 hf
    refine lv_iload_n X.x X.b dX4_hasStand_4 rfl (lv_at hl 1 rfl) ?_
    refine lv_aload_n X.x X.b dX4_hasStand_5 rfl (lv_at hl 0 rfl) ?_
    refine gC_9_1 X h (hS 9) hi Nat.one_pos lk_X4_59 dX4_hasStand_6 ?_
    refine lv_icmp_ge (tgt := 16) X.x X.b dX4_hasStand_9 (by decide) (fun c2 => ?_) (fun c2 => ?_)
    · have hf := wT c2 hf
      refine lv_iconst (v := 0) X.x X.b dX4_hasStand_16 (by decide) ?_
      cases (Option.some.inj hf).trans JR
      exact ro_zret X h (Or.inl rfl) dX4_hasStand_17
    · have hf := wF c2 hf
      refine lv_iconst (v := 1) X.x X.b dX4_hasStand_12 (by decide) ?_
      refine lv_goto (tgt := 17) X.x X.b dX4_hasStand_13 (by decide) ?_
      cases (Option.some.inj hf).trans JR
      exact ro_zret X h (Or.inr rfl) dX4_hasStand_17
set_option maxHeartbeats 4000000 in
set_option maxRecDepth 20000 in
theorem kX4_addStand (l : Launch) {k : En} {S : Nat → Prop} (hS : ∀ t, S t) {i : Nat} {a1 : Int32} (hi : i < 2) {res : Mm × Int32} {g : Mm} (hf : fX4_addStand g i a1 = some res) : Mt l yX4_addStand cX4_addStand 2 (some .int) (RmN 0 0) YC S k [.ref (k.1 + adC 9 i 0), .int a1] g (some (.int res.2)) res.1 := by
  refine Mt.of (by decide) (Nat.le_of_ble_eq_true rfl) ?_
  intro p e s m args below meth c ls X _ h hl
  have X : Cx YC S k p s m args meth c cX4_addStand 2 (some .int) RX4 := X
  have hl : lv_has ls 2 [(0, .ref (k.1 + adC 9 i 0)), (1, .int a1)] := hl
  have JR : res = res := rfl
  unfold fX4_addStand at hf
  refine lv_aload_n X.x X.b dX4_addStand_0 rfl (lv_at hl 0 rfl) ?_
  refine gC_9_1 X h (hS 9) hi Nat.one_pos lk_X4_59 dX4_addStand_1 ?_
  refine lv_bipush (v := 6) X.x X.b dX4_addStand_4 (by decide) ?_
  refine lv_icmp_lt (tgt := 12) X.x X.b dX4_addStand_6 (by decide) (fun c1 => ?_) (fun c1 => ?_)
  · have hf := wT c1 hf
    refine lv_aload_n X.x X.b dX4_addStand_12 rfl (lv_at hl 0 rfl) ?_
    refine gC_9_7 X h (hS 9) hi Nat.one_pos lk_X4_20 dX4_addStand_13 ?_
    refine lv_aload_n X.x X.b dX4_addStand_16 rfl (lv_at hl 0 rfl) ?_
    refine gC_9_1 X h (hS 9) hi Nat.one_pos lk_X4_59 dX4_addStand_17 ?_
    refine lv_iload_n X.x X.b dX4_addStand_20 rfl (lv_at hl 1 rfl) ?_
    obtain ⟨b2, hf⟩ := wGi_s hf
    obtain ⟨g3, e4, hf⟩ := wLe_s hf
    refine bC_12 X h (hS 12) hi Nat.one_pos e4 b2 dX4_addStand_21 (fun H locs h => ?_)
    refine lv_aload_n X.x X.b dX4_addStand_22 rfl (lv_at hl 0 rfl) ?_
    refine gC_9_8 X h (hS 9) hi Nat.one_pos lk_X4_23 dX4_addStand_23 ?_
    refine lv_aload_n X.x X.b dX4_addStand_26 rfl (lv_at hl 0 rfl) ?_
    refine gC_9_1 X h (hS 9) hi Nat.one_pos lk_X4_59 dX4_addStand_27 ?_
    refine lv_iconst (v := (-1)) X.x X.b dX4_addStand_30 (by decide) ?_
    obtain ⟨b5, hf⟩ := wGi_s hf
    obtain ⟨g6, e7, hf⟩ := wLe_s hf
    refine bC_13 X h (hS 13) hi Nat.one_pos e7 b5 dX4_addStand_31 (fun H locs h => ?_)
    refine lv_aload_n X.x X.b dX4_addStand_32 rfl (lv_at hl 0 rfl) ?_
    refine lv_dup X.x X.b dX4_addStand_33 rfl ?_
    refine gC_9_1 X h (hS 9) hi Nat.one_pos lk_X4_59 dX4_addStand_34 ?_
    refine lv_dup_x1 X.x X.b dX4_addStand_37 rfl rfl ?_
    refine lv_iconst (v := 1) X.x X.b dX4_addStand_38 (by decide) ?_
    refine lv_iadd X.x X.b dX4_addStand_39 ?_
    obtain ⟨g8, e9, hf⟩ := wLe_s hf
    refine pC_9_1 X h (hS 9) hi Nat.one_pos lk_X4_59 e9 dX4_addStand_40 (fun H locs h => ?_)
    cases (Option.some.inj hf).trans JR
    exact ro_iret X h dX4_addStand_43
  · have hf := wF c1 hf
    refine lv_bipush (v := (-4)) X.x X.b dX4_addStand_9 (by decide) ?_
    cases (Option.some.inj hf).trans JR
    exact ro_iret X h dX4_addStand_11
set_option maxHeartbeats 4000000 in
set_option maxRecDepth 20000 in
theorem kX4_addVisit (l : Launch) {k : En} {S : Nat → Prop} (hS : ∀ t, S t) {i : Nat} {a1 : Int32} {a2 : Int32} {a3 : Int32} {a4 : Int32} (hi : i < 2) {res : Mm × Int32} {g : Mm} (hf : fX4_addVisit g i a1 a2 a3 a4 = some res) : Mt l yX4_addVisit cX4_addVisit 5 (some .int) (RmN 2 47) YC S k [.ref (k.1 + adC 9 i 0), .int a1, .int a2, .int a3, .int a4] g (some (.int res.2)) res.1 := by
  refine Mt.of (by decide) (Nat.le_of_ble_eq_true rfl) ?_
  intro p e s m args below meth c ls X _ h hl
  have X : Cx YC S k p s m args meth c cX4_addVisit 5 (some .int) RX4 := X
  have hl : lv_has ls 5 [(0, .ref (k.1 + adC 9 i 0)), (1, .int a1), (2, .int a2), (3, .int a3), (4, .int a4)] := hl
  have JR : res = res := rfl
  unfold fX4_addVisit at hf
  refine lv_aload_n X.x X.b dX4_addVisit_0 rfl (lv_at hl 0 rfl) ?_
  refine gC_9_2 X h (hS 9) hi Nat.one_pos lk_X4_62 dX4_addVisit_1 ?_
  refine lv_bipush (v := 12) X.x X.b dX4_addVisit_4 (by decide) ?_
  refine lv_icmp_lt (tgt := 12) X.x X.b dX4_addVisit_6 (by decide) (fun c1 => ?_) (fun c1 => ?_)
  · have hf := wT c1 hf
    refine lv_aload_n X.x X.b dX4_addVisit_12 rfl (lv_at hl 0 rfl) ?_
    refine gC_9_11 X h (hS 9) hi Nat.one_pos lk_X4_34 dX4_addVisit_13 ?_
    refine lv_aload_n X.x X.b dX4_addVisit_16 rfl (lv_at hl 0 rfl) ?_
    refine gC_9_2 X h (hS 9) hi Nat.one_pos lk_X4_62 dX4_addVisit_17 ?_
    obtain ⟨b2, hf⟩ := wGi_s hf
    refine qC_16 X h (hS 16) hi Nat.one_pos b2 dX4_addVisit_20 ?_
    refine lv_iload_n X.x X.b dX4_addVisit_21 rfl (lv_at hl 1 rfl) ?_
    refine lv_iload_n X.x X.b dX4_addVisit_22 rfl (lv_at hl 2 rfl) ?_
    refine lv_iload_n X.x X.b dX4_addVisit_23 rfl (lv_at hl 3 rfl) ?_
    refine lv_iload X.x X.b dX4_addVisit_24 (lv_at hl 4 rfl) ?_
    refine lv_aload_n X.x X.b dX4_addVisit_26 rfl (lv_at hl 0 rfl) ?_
    refine gC_9_0 X h (hS 9) hi Nat.one_pos lk_X4_55 dX4_addVisit_27 ?_
    obtain ⟨g5, e3, hf⟩ := wBd_s hf
    refine ro_callvV (As := [.int a1, .int a2, .int a3, .int a4, .int (g 9 i 0 0)]) (g1 := g5) X h (kX9_begin l hS hi (vin_lt b2) e3) mv_X9_begin lk_X4_87 ⟨rfl, rfl⟩ ⟨(Nat.le_of_ble_eq_true rfl), (Nat.le_of_ble_eq_true rfl)⟩ (rC_19 X h (hS 19) hi (vin_lt b2)) rfl hl rfl (Nat.le_of_ble_eq_true rfl) ⟨Nat.zero_le _, Nat.zero_le _⟩ dX4_addVisit_30 (fun H locs h => ?_)
    refine lv_aload_n X.x X.b dX4_addVisit_33 rfl (lv_at hl 0 rfl) ?_
    refine lv_dup X.x X.b dX4_addVisit_34 rfl ?_
    refine gC_9_2 X h (hS 9) hi Nat.one_pos lk_X4_62 dX4_addVisit_35 ?_
    refine lv_dup_x1 X.x X.b dX4_addVisit_38 rfl rfl ?_
    refine lv_iconst (v := 1) X.x X.b dX4_addVisit_39 (by decide) ?_
    refine lv_iadd X.x X.b dX4_addVisit_40 ?_
    obtain ⟨g6, e7, hf⟩ := wLe_s hf
    refine pC_9_2 X h (hS 9) hi Nat.one_pos lk_X4_62 e7 dX4_addVisit_41 (fun H locs h => ?_)
    cases (Option.some.inj hf).trans JR
    exact ro_iret X h dX4_addVisit_44
  · have hf := wF c1 hf
    refine lv_bipush (v := (-4)) X.x X.b dX4_addVisit_9 (by decide) ?_
    cases (Option.some.inj hf).trans JR
    exact ro_iret X h dX4_addVisit_11
set_option maxHeartbeats 4000000 in
set_option maxRecDepth 20000 in
theorem kX4_addFeed (l : Launch) {k : En} {S : Nat → Prop} (hS : ∀ t, S t) {i : Nat} {a1 : Int32} {a2 : Int32} {a3 : Int32} {a4 : Int32} (hi : i < 2) {res : Mm × Int32} {g : Mm} (hf : fX4_addFeed g i a1 a2 a3 a4 = some res) : Mt l yX4_addFeed cX4_addFeed 5 (some .int) (RmN 1 24) YC S k [.ref (k.1 + adC 9 i 0), .int a1, .int a2, .int a3, .int a4] g (some (.int res.2)) res.1 := by
  refine Mt.of (by decide) (Nat.le_of_ble_eq_true rfl) ?_
  intro p e s m args below meth c ls X _ h hl
  have X : Cx YC S k p s m args meth c cX4_addFeed 5 (some .int) RX4 := X
  have hl : lv_has ls 5 [(0, .ref (k.1 + adC 9 i 0)), (1, .int a1), (2, .int a2), (3, .int a3), (4, .int a4)] := hl
  have JR : res = res := rfl
  unfold fX4_addFeed at hf
  refine lv_aload_n X.x X.b dX4_addFeed_0 rfl (lv_at hl 0 rfl) ?_
  refine gC_9_3 X h (hS 9) hi Nat.one_pos lk_X4_65 dX4_addFeed_1 ?_
  refine lv_bipush (v := 16) X.x X.b dX4_addFeed_4 (by decide) ?_
  refine lv_icmp_lt (tgt := 12) X.x X.b dX4_addFeed_6 (by decide) (fun c1 => ?_) (fun c1 => ?_)
  · have hf := wT c1 hf
    refine lv_aload_n X.x X.b dX4_addFeed_12 rfl (lv_at hl 0 rfl) ?_
    refine gC_9_12 X h (hS 9) hi Nat.one_pos lk_X4_40 dX4_addFeed_13 ?_
    refine lv_aload_n X.x X.b dX4_addFeed_16 rfl (lv_at hl 0 rfl) ?_
    refine gC_9_3 X h (hS 9) hi Nat.one_pos lk_X4_65 dX4_addFeed_17 ?_
    obtain ⟨b2, hf⟩ := wGi_s hf
    refine qC_17 X h (hS 17) hi Nat.one_pos b2 dX4_addFeed_20 ?_
    refine lv_iload_n X.x X.b dX4_addFeed_21 rfl (lv_at hl 1 rfl) ?_
    refine lv_iload_n X.x X.b dX4_addFeed_22 rfl (lv_at hl 2 rfl) ?_
    refine lv_iload_n X.x X.b dX4_addFeed_23 rfl (lv_at hl 3 rfl) ?_
    refine lv_iload X.x X.b dX4_addFeed_24 (lv_at hl 4 rfl) ?_
    obtain ⟨g5, e3, hf⟩ := wBd_s hf
    refine ro_callvV (As := [.int a1, .int a2, .int a3, .int a4]) (g1 := g5) X h (kX1_begin l hS hi (vin_lt b2) e3) mv_X1_begin lk_X4_91 ⟨rfl, rfl⟩ ⟨(Nat.le_of_ble_eq_true rfl), (Nat.le_of_ble_eq_true rfl)⟩ (rC_22 X h (hS 22) hi (vin_lt b2)) rfl hl rfl (Nat.le_of_ble_eq_true rfl) ⟨Nat.zero_le _, Nat.zero_le _⟩ dX4_addFeed_26 (fun H locs h => ?_)
    refine lv_aload_n X.x X.b dX4_addFeed_29 rfl (lv_at hl 0 rfl) ?_
    refine lv_dup X.x X.b dX4_addFeed_30 rfl ?_
    refine gC_9_3 X h (hS 9) hi Nat.one_pos lk_X4_65 dX4_addFeed_31 ?_
    refine lv_dup_x1 X.x X.b dX4_addFeed_34 rfl rfl ?_
    refine lv_iconst (v := 1) X.x X.b dX4_addFeed_35 (by decide) ?_
    refine lv_iadd X.x X.b dX4_addFeed_36 ?_
    obtain ⟨g6, e7, hf⟩ := wLe_s hf
    refine pC_9_3 X h (hS 9) hi Nat.one_pos lk_X4_65 e7 dX4_addFeed_37 (fun H locs h => ?_)
    cases (Option.some.inj hf).trans JR
    exact ro_iret X h dX4_addFeed_40
  · have hf := wF c1 hf
    refine lv_bipush (v := (-4)) X.x X.b dX4_addFeed_9 (by decide) ?_
    cases (Option.some.inj hf).trans JR
    exact ro_iret X h dX4_addFeed_11
set_option maxHeartbeats 4000000 in
set_option maxRecDepth 20000 in
theorem kX4_fits (l : Launch) {k : En} {S : Nat → Prop} (hS : ∀ t, S t) {g0 : Mm} {i : Nat} {a1 : Int32} {a2 : Int32} (hi : i < 2) {res : Int32} (hf : fX4_fits g0 i a1 a2 = some res) : Mt l yX4_fits cX4_fits 3 (some .boolean) (RmN 1 20) YC S k [.ref (k.1 + adC 9 i 0), .int a1, .int a2] g0 (some (.int res)) g0 := by
  refine Mt.of (by decide) (Nat.le_of_ble_eq_true rfl) ?_
  intro p e s m args below meth c ls X _ h hl
  have X : Cx YC S k p s m args meth c cX4_fits 3 (some .boolean) RX4 := X
  have hl : lv_has ls 3 [(0, .ref (k.1 + adC 9 i 0)), (1, .int a1), (2, .int a2)] := hl
  have JR : res = res := rfl
  unfold fX4_fits at hf
  refine lv_iload_n X.x X.b dX4_fits_0 rfl (lv_at hl 2 rfl) ?_
  refine lv_if_lt (tgt := 25) X.x X.b dX4_fits_1 (by decide) (fun c1 => ?_) (fun c1 => ?_)
  · have hf := wT c1 hf
    refine lv_iconst (v := 1) X.x X.b dX4_fits_25 (by decide) ?_
    refine lv_goto (tgt := 30) X.x X.b dX4_fits_26 (by decide) ?_
    cases (Option.some.inj hf).trans JR
    exact ro_zret X h (Or.inr rfl) dX4_fits_30
  · have hf := wF c1 hf
    refine lv_aload_n X.x X.b dX4_fits_4 rfl (lv_at hl 0 rfl) ?_
    refine gC_9_7 X h (hS 9) hi Nat.one_pos lk_X4_20 dX4_fits_5 ?_
    refine lv_iload_n X.x X.b dX4_fits_8 rfl (lv_at hl 2 rfl) ?_
    obtain ⟨b2, hf⟩ := wGi_s hf
    refine aC_12 X h (hS 12) hi Nat.one_pos b2 dX4_fits_9 ?_
    refine lv_aload_n X.x X.b dX4_fits_10 rfl (lv_at hl 0 rfl) ?_
    refine gC_9_11 X h (hS 9) hi Nat.one_pos lk_X4_34 dX4_fits_11 ?_
    refine lv_iload_n X.x X.b dX4_fits_14 rfl (lv_at hl 1 rfl) ?_
    obtain ⟨b3, hf⟩ := wGi_s hf
    refine qC_16 X h (hS 16) hi Nat.one_pos b3 dX4_fits_15 ?_
    refine gC_19_0 X h (hS 19) hi (vin_lt b3) lk_X4_94 dX4_fits_16 ?_
    obtain ⟨y5, e4, hf⟩ := wBd_s hf
    refine ro_callsI (As := [.int (g0 19 i ((a1).toNatClampNeg) 0)]) (g1 := g0) (x := y5) X h (kX3_size l hS e4) mv_X3_size lk_X4_97 ⟨rfl, rfl⟩ ⟨(Nat.le_of_ble_eq_true rfl), (Nat.le_of_ble_eq_true rfl)⟩ rfl hl rfl (Nat.le_of_ble_eq_true rfl) ⟨Nat.zero_le _, Nat.zero_le _⟩ dX4_fits_19 (fun H locs h => ?_)
    refine lv_icmp_lt (tgt := 29) X.x X.b dX4_fits_22 (by decide) (fun c6 => ?_) (fun c6 => ?_)
    · have hf := wT c6 hf
      refine lv_iconst (v := 0) X.x X.b dX4_fits_29 (by decide) ?_
      cases (Option.some.inj hf).trans JR
      exact ro_zret X h (Or.inl rfl) dX4_fits_30
    · have hf := wF c6 hf
      refine lv_iconst (v := 1) X.x X.b dX4_fits_25 (by decide) ?_
      refine lv_goto (tgt := 30) X.x X.b dX4_fits_26 (by decide) ?_
      cases (Option.some.inj hf).trans JR
      exact ro_zret X h (Or.inr rfl) dX4_fits_30
set_option maxHeartbeats 4000000 in
set_option maxRecDepth 20000 in
theorem wX4_lateInAll_L4 {k : En} {S : Nat → Prop} (hS : ∀ t, S t) {g0 : Mm} {i : Nat} (hi : i < 2) {res : Int32} (X : Cx YC S k p s m args meth c cX4_lateInAll 3 (some .int) RX4) {r : Int32} (JR : r = res) :
    ∀ (fu : Nat) (x1 : Int32) (x2 : Int32) (H : Heap) (locs : List Loc) (ls : Array Slot), Hx YC S k s g0 H locs → lv_has ls 3 [(0, .ref (k.1 + adC 9 i 0)), (1, .int x1), (2, .int x2)] → wLp (fun q => fX4_lateInAll_B4 g0 i q.1 q.2) fu (x1, x2) = some r → W p l e (RmN 1 22) s m args below meth c H locs 0 0 (Fin YC S k args s below (some (.int res)) g0) (F0 m 4 ls []) := by
  intro fu
  induction fu with
  | zero => intro x1 x2 H locs ls h hl hf; exact (wLp_0 hf).elim
  | succ fu ih1 =>
    intro x1 x2 H locs ls h hl hf
    obtain ⟨r1, hf, hr⟩ := wLp_s hf
    have J1n : ∀ (x1 : Int32) (x2 : Int32), r1 = .inl (x1, x2) → ∀ (H : Heap) (locs : List Loc) (ls : Array Slot), Hx YC S k s g0 H locs → lv_has ls 3 [(0, .ref (k.1 + adC 9 i 0)), (1, .int x1), (2, .int x2)] → W p l e (RmN 1 22) s m args below meth c H locs 0 0 (Fin YC S k args s below (some (.int res)) g0) (F0 m 4 ls []) := fun x1 x2 q H locs ls h hl => by subst q; exact ih1 _ _ _ _ _ h hl hr
    have JRn : ∀ t1, r1 = .inr t1 → t1 = res := fun t1 q => by subst q; obtain rfl := Option.some.inj hr; exact JR
    have J1 := J1n
    have JR := JRn
    clear J1n JRn
    have hf : fX4_lateInAll_B4 g0 i x1 x2 = some r1 := hf
    unfold fX4_lateInAll_B4 at hf
    refine lv_iload_n X.x X.b dX4_lateInAll_4 rfl (lv_at hl 2 rfl) ?_
    refine lv_aload_n X.x X.b dX4_lateInAll_5 rfl (lv_at hl 0 rfl) ?_
    refine gC_9_2 X h (hS 9) hi Nat.one_pos lk_X4_62 dX4_lateInAll_6 ?_
    refine lv_icmp_ge (tgt := 30) X.x X.b dX4_lateInAll_9 (by decide) (fun c5 => ?_) (fun c5 => ?_)
    · have hf := wT c5 hf
      obtain ⟨t6, hf, e7⟩ := wEx_s hf
      have JR := JR t6 e7
      refine lv_iload_n X.x X.b dX4_lateInAll_30 rfl (lv_at hl 1 rfl) ?_
      cases (Option.some.inj hf).trans JR
      exact ro_iret X h dX4_lateInAll_31
    · have hf := wF c5 hf
      refine lv_iload_n X.x X.b dX4_lateInAll_12 rfl (lv_at hl 1 rfl) ?_
      refine lv_aload_n X.x X.b dX4_lateInAll_13 rfl (lv_at hl 0 rfl) ?_
      refine gC_9_11 X h (hS 9) hi Nat.one_pos lk_X4_34 dX4_lateInAll_14 ?_
      refine lv_iload_n X.x X.b dX4_lateInAll_17 rfl (lv_at hl 2 rfl) ?_
      obtain ⟨b8, hf⟩ := wGi_s hf
      refine qC_16 X h (hS 16) hi Nat.one_pos b8 dX4_lateInAll_18 ?_
      obtain ⟨y10, e9, hf⟩ := wBd_s hf
      refine ro_callvI (As := []) (g1 := g0) (x := y10) X h (kX9_lateTicks l hS hi (vin_lt b8) e9) mv_X9_lateTicks lk_X4_111 ⟨rfl, rfl⟩ ⟨(Nat.le_of_ble_eq_true rfl), (Nat.le_of_ble_eq_true rfl)⟩ (rC_19 X h (hS 19) hi (vin_lt b8)) rfl hl rfl (Nat.le_of_ble_eq_true rfl) ⟨Nat.zero_le _, Nat.zero_le _⟩ dX4_lateInAll_19 (fun H locs h => ?_)
      refine lv_iadd X.x X.b dX4_lateInAll_22 ?_
      obtain ⟨y11, e12, hf⟩ := wLe_s hf
      refine lv_nmi e12 ?_
      refine lv_istore_n (lv' := [(1, .int y11), (0, .ref (k.1 + adC 9 i 0)), (2, .int x2)]) X.x X.b dX4_lateInAll_23 rfl hl (by decide) rfl (fun ls hl => ?_)
      obtain ⟨y13, e14, hf⟩ := wLe_s hf
      refine lv_iinc (v := y13) (lv' := [(2, .int y13), (1, .int y11), (0, .ref (k.1 + adC 9 i 0))]) X.x X.b dX4_lateInAll_24 hl (k := 2) rfl (by rw [e14]; rfl) (by decide) rfl (fun ls hl => ?_)
      refine lv_goto (tgt := 4) X.x X.b dX4_lateInAll_27 (by decide) ?_
      exact J1 _ _ (Option.some.inj hf).symm _ _ _ h (lv_sub hl [2, 1, 0] rfl)
set_option maxHeartbeats 4000000 in
set_option maxRecDepth 20000 in
theorem kX4_lateInAll (l : Launch) {k : En} {S : Nat → Prop} (hS : ∀ t, S t) {g0 : Mm} {i : Nat} (hi : i < 2) {res : Int32} (hf : fX4_lateInAll g0 i = some res) : Mt l yX4_lateInAll cX4_lateInAll 3 (some .int) (RmN 1 22) YC S k [.ref (k.1 + adC 9 i 0)] g0 (some (.int res)) g0 := by
  refine Mt.of (by decide) (Nat.le_of_ble_eq_true rfl) ?_
  intro p e s m args below meth c ls X _ h hl
  have X : Cx YC S k p s m args meth c cX4_lateInAll 3 (some .int) RX4 := X
  have hl : lv_has ls 3 [(0, .ref (k.1 + adC 9 i 0))] := hl
  have JR : res = res := rfl
  unfold fX4_lateInAll at hf
  refine lv_iconst (v := 0) X.x X.b dX4_lateInAll_0 (by decide) ?_
  obtain ⟨y1, e2, hf⟩ := wLe_s hf
  refine lv_nmi e2 ?_
  refine lv_istore_n (lv' := [(1, .int y1), (0, .ref (k.1 + adC 9 i 0))]) X.x X.b dX4_lateInAll_1 rfl hl (by decide) rfl (fun ls hl => ?_)
  refine lv_iconst (v := 0) X.x X.b dX4_lateInAll_2 (by decide) ?_
  obtain ⟨y3, e4, hf⟩ := wLe_s hf
  refine lv_nmi e4 ?_
  refine lv_istore_n (lv' := [(2, .int y3), (1, .int y1), (0, .ref (k.1 + adC 9 i 0))]) X.x X.b dX4_lateInAll_3 rfl hl (by decide) rfl (fun ls hl => ?_)
  exact wX4_lateInAll_L4 hS hi X JR _ _ _ _ _ _ h (lv_sub hl [2, 1, 0] rfl) hf
set_option maxHeartbeats 4000000 in
set_option maxRecDepth 20000 in
theorem wX4_howMany_b28 {k : En} {S : Nat → Prop} (hS : ∀ t, S t) {g0 : Mm} {i : Nat} {a1 : Int32} (hi : i < 2) {res : Int32} (X : Cx YC S k p s m args meth c cX4_howMany 4 (some .int) RX4) {x2 : Int32} {x3 : Int32} {H : Heap} {locs : List Loc} {ls : Array Slot} (h : Hx YC S k s g0 H locs) (hl : lv_has ls 4 [(0, .ref (k.1 + adC 9 i 0)), (1, .int a1), (2, .int x2), (3, .int x3)]) {r : (Int32 × Int32) ⊕ (Int32)} (hf : fX4_howMany_b28 g0 i a1 x2 x3 = some r) (J1 : ∀ (x2 : Int32) (x3 : Int32), r = .inl (x2, x3) → ∀ (H : Heap) (locs : List Loc) (ls : Array Slot), Hx YC S k s g0 H locs → lv_has ls 4 [(0, .ref (k.1 + adC 9 i 0)), (1, .int a1), (2, .int x2), (3, .int x3)] → W p l e (RmN 0 0) s m args below meth c H locs 0 0 (Fin YC S k args s below (some (.int res)) g0) (F0 m 4 ls [])) (JR : ∀ t1, r = .inr t1 → t1 = res) :
    W p l e (RmN 0 0) s m args below meth c H locs 0 0 (Fin YC S k args s below (some (.int res)) g0) (F0 m 28 ls []) := by
  unfold fX4_howMany_b28 at hf
  obtain ⟨y10, e11, hf⟩ := wLe_s hf
  refine lv_iinc (v := y10) (lv' := [(3, .int y10), (0, .ref (k.1 + adC 9 i 0)), (1, .int a1), (2, .int x2)]) X.x X.b dX4_howMany_28 hl (k := 3) rfl (by rw [e11]; rfl) (by decide) rfl (fun ls hl => ?_)
  refine lv_goto (tgt := 4) X.x X.b dX4_howMany_31 (by decide) ?_
  exact J1 _ _ (Option.some.inj hf).symm _ _ _ h (lv_sub hl [1, 2, 3, 0] rfl)
set_option maxHeartbeats 4000000 in
set_option maxRecDepth 20000 in
theorem wX4_howMany_L4 {k : En} {S : Nat → Prop} (hS : ∀ t, S t) {g0 : Mm} {i : Nat} {a1 : Int32} (hi : i < 2) {res : Int32} (X : Cx YC S k p s m args meth c cX4_howMany 4 (some .int) RX4) {r : Int32} (JR : r = res) :
    ∀ (fu : Nat) (x2 : Int32) (x3 : Int32) (H : Heap) (locs : List Loc) (ls : Array Slot), Hx YC S k s g0 H locs → lv_has ls 4 [(0, .ref (k.1 + adC 9 i 0)), (1, .int a1), (2, .int x2), (3, .int x3)] → wLp (fun q => fX4_howMany_B4 g0 i a1 q.1 q.2) fu (x2, x3) = some r → W p l e (RmN 0 0) s m args below meth c H locs 0 0 (Fin YC S k args s below (some (.int res)) g0) (F0 m 4 ls []) := by
  intro fu
  induction fu with
  | zero => intro x2 x3 H locs ls h hl hf; exact (wLp_0 hf).elim
  | succ fu ih1 =>
    intro x2 x3 H locs ls h hl hf
    obtain ⟨r1, hf, hr⟩ := wLp_s hf
    have J1n : ∀ (x2 : Int32) (x3 : Int32), r1 = .inl (x2, x3) → ∀ (H : Heap) (locs : List Loc) (ls : Array Slot), Hx YC S k s g0 H locs → lv_has ls 4 [(0, .ref (k.1 + adC 9 i 0)), (1, .int a1), (2, .int x2), (3, .int x3)] → W p l e (RmN 0 0) s m args below meth c H locs 0 0 (Fin YC S k args s below (some (.int res)) g0) (F0 m 4 ls []) := fun x2 x3 q H locs ls h hl => by subst q; exact ih1 _ _ _ _ _ h hl hr
    have JRn : ∀ t1, r1 = .inr t1 → t1 = res := fun t1 q => by subst q; obtain rfl := Option.some.inj hr; exact JR
    have J1 := J1n
    have JR := JRn
    clear J1n JRn
    have hf : fX4_howMany_B4 g0 i a1 x2 x3 = some r1 := hf
    unfold fX4_howMany_B4 at hf
    refine lv_iload_n X.x X.b dX4_howMany_4 rfl (lv_at hl 3 rfl) ?_
    refine lv_aload_n X.x X.b dX4_howMany_5 rfl (lv_at hl 0 rfl) ?_
    refine gC_9_2 X h (hS 9) hi Nat.one_pos lk_X4_62 dX4_howMany_6 ?_
    refine lv_icmp_ge (tgt := 34) X.x X.b dX4_howMany_9 (by decide) (fun c5 => ?_) (fun c5 => ?_)
    · have hf := wT c5 hf
      obtain ⟨t6, hf, e7⟩ := wEx_s hf
      have JR := JR t6 e7
      refine lv_iload_n X.x X.b dX4_howMany_34 rfl (lv_at hl 2 rfl) ?_
      cases (Option.some.inj hf).trans JR
      exact ro_iret X h dX4_howMany_35
    · have hf := wF c5 hf
      refine lv_aload_n X.x X.b dX4_howMany_12 rfl (lv_at hl 0 rfl) ?_
      refine gC_9_11 X h (hS 9) hi Nat.one_pos lk_X4_34 dX4_howMany_13 ?_
      refine lv_iload_n X.x X.b dX4_howMany_16 rfl (lv_at hl 3 rfl) ?_
      obtain ⟨b8, hf⟩ := wGi_s hf
      refine qC_16 X h (hS 16) hi Nat.one_pos b8 dX4_howMany_17 ?_
      refine gC_19_6 X h (hS 19) hi (vin_lt b8) lk_X4_120 dX4_howMany_18 ?_
      refine lv_iload_n X.x X.b dX4_howMany_21 rfl (lv_at hl 1 rfl) ?_
      refine lv_icmp_ne (tgt := 28) X.x X.b dX4_howMany_22 (by decide) (fun c9 => ?_) (fun c9 => ?_)
      · have hf := wF c9 hf
        exact wX4_howMany_b28 hS hi X h (lv_sub hl [0, 1, 2, 3] rfl) hf J1 JR
      · have hf := wT c9 hf
        obtain ⟨y12, e13, hf⟩ := wLe_s hf
        refine lv_iinc (v := y12) (lv' := [(2, .int y12), (0, .ref (k.1 + adC 9 i 0)), (1, .int a1), (3, .int x3)]) X.x X.b dX4_howMany_25 hl (k := 2) rfl (by rw [e13]; rfl) (by decide) rfl (fun ls hl => ?_)
        exact wX4_howMany_b28 hS hi X h (lv_sub hl [1, 2, 0, 3] rfl) hf J1 JR
set_option maxHeartbeats 4000000 in
set_option maxRecDepth 20000 in
theorem kX4_howMany (l : Launch) {k : En} {S : Nat → Prop} (hS : ∀ t, S t) {g0 : Mm} {i : Nat} {a1 : Int32} (hi : i < 2) {res : Int32} (hf : fX4_howMany g0 i a1 = some res) : Mt l yX4_howMany cX4_howMany 4 (some .int) (RmN 0 0) YC S k [.ref (k.1 + adC 9 i 0), .int a1] g0 (some (.int res)) g0 := by
  refine Mt.of (by decide) (Nat.le_of_ble_eq_true rfl) ?_
  intro p e s m args below meth c ls X _ h hl
  have X : Cx YC S k p s m args meth c cX4_howMany 4 (some .int) RX4 := X
  have hl : lv_has ls 4 [(0, .ref (k.1 + adC 9 i 0)), (1, .int a1)] := hl
  have JR : res = res := rfl
  unfold fX4_howMany at hf
  refine lv_iconst (v := 0) X.x X.b dX4_howMany_0 (by decide) ?_
  obtain ⟨y1, e2, hf⟩ := wLe_s hf
  refine lv_nmi e2 ?_
  refine lv_istore_n (lv' := [(2, .int y1), (0, .ref (k.1 + adC 9 i 0)), (1, .int a1)]) X.x X.b dX4_howMany_1 rfl hl (by decide) rfl (fun ls hl => ?_)
  refine lv_iconst (v := 0) X.x X.b dX4_howMany_2 (by decide) ?_
  obtain ⟨y3, e4, hf⟩ := wLe_s hf
  refine lv_nmi e4 ?_
  refine lv_istore_n (lv' := [(3, .int y3), (2, .int y1), (0, .ref (k.1 + adC 9 i 0)), (1, .int a1)]) X.x X.b dX4_howMany_3 rfl hl (by decide) rfl (fun ls hl => ?_)
  exact wX4_howMany_L4 hS hi X JR _ _ _ _ _ _ h (lv_sub hl [2, 3, 1, 0] rfl) hf
set_option maxHeartbeats 4000000 in
set_option maxRecDepth 20000 in
theorem wX4_missedBags_b37 {k : En} {S : Nat → Prop} (hS : ∀ t, S t) {g0 : Mm} {i : Nat} (hi : i < 2) {res : Int32} (X : Cx YC S k p s m args meth c cX4_missedBags 3 (some .int) RX4) {x1 : Int32} {x2 : Int32} {H : Heap} {locs : List Loc} {ls : Array Slot} (h : Hx YC S k s g0 H locs) (hl : lv_has ls 3 [(0, .ref (k.1 + adC 9 i 0)), (1, .int x1), (2, .int x2)]) {r : (Int32 × Int32) ⊕ (Int32)} (hf : fX4_missedBags_b37 g0 i x1 x2 = some r) (J1 : ∀ (x1 : Int32) (x2 : Int32), r = .inl (x1, x2) → ∀ (H : Heap) (locs : List Loc) (ls : Array Slot), Hx YC S k s g0 H locs → lv_has ls 3 [(0, .ref (k.1 + adC 9 i 0)), (1, .int x1), (2, .int x2)] → W p l e (RmN 0 0) s m args below meth c H locs 0 0 (Fin YC S k args s below (some (.int res)) g0) (F0 m 4 ls [])) (JR : ∀ t1, r = .inr t1 → t1 = res) :
    W p l e (RmN 0 0) s m args below meth c H locs 0 0 (Fin YC S k args s below (some (.int res)) g0) (F0 m 37 ls []) := by
  unfold fX4_missedBags_b37 at hf
  obtain ⟨y10, e11, hf⟩ := wLe_s hf
  refine lv_iinc (v := y10) (lv' := [(2, .int y10), (0, .ref (k.1 + adC 9 i 0)), (1, .int x1)]) X.x X.b dX4_missedBags_37 hl (k := 2) rfl (by rw [e11]; rfl) (by decide) rfl (fun ls hl => ?_)
  refine lv_goto (tgt := 4) X.x X.b dX4_missedBags_40 (by decide) ?_
  exact J1 _ _ (Option.some.inj hf).symm _ _ _ h (lv_sub hl [1, 2, 0] rfl)
set_option maxHeartbeats 4000000 in
set_option maxRecDepth 20000 in
theorem wX4_missedBags_L4 {k : En} {S : Nat → Prop} (hS : ∀ t, S t) {g0 : Mm} {i : Nat} (hi : i < 2) {res : Int32} (X : Cx YC S k p s m args meth c cX4_missedBags 3 (some .int) RX4) {r : Int32} (JR : r = res) :
    ∀ (fu : Nat) (x1 : Int32) (x2 : Int32) (H : Heap) (locs : List Loc) (ls : Array Slot), Hx YC S k s g0 H locs → lv_has ls 3 [(0, .ref (k.1 + adC 9 i 0)), (1, .int x1), (2, .int x2)] → wLp (fun q => fX4_missedBags_B4 g0 i q.1 q.2) fu (x1, x2) = some r → W p l e (RmN 0 0) s m args below meth c H locs 0 0 (Fin YC S k args s below (some (.int res)) g0) (F0 m 4 ls []) := by
  intro fu
  induction fu with
  | zero => intro x1 x2 H locs ls h hl hf; exact (wLp_0 hf).elim
  | succ fu ih1 =>
    intro x1 x2 H locs ls h hl hf
    obtain ⟨r1, hf, hr⟩ := wLp_s hf
    have J1n : ∀ (x1 : Int32) (x2 : Int32), r1 = .inl (x1, x2) → ∀ (H : Heap) (locs : List Loc) (ls : Array Slot), Hx YC S k s g0 H locs → lv_has ls 3 [(0, .ref (k.1 + adC 9 i 0)), (1, .int x1), (2, .int x2)] → W p l e (RmN 0 0) s m args below meth c H locs 0 0 (Fin YC S k args s below (some (.int res)) g0) (F0 m 4 ls []) := fun x1 x2 q H locs ls h hl => by subst q; exact ih1 _ _ _ _ _ h hl hr
    have JRn : ∀ t1, r1 = .inr t1 → t1 = res := fun t1 q => by subst q; obtain rfl := Option.some.inj hr; exact JR
    have J1 := J1n
    have JR := JRn
    clear J1n JRn
    have hf : fX4_missedBags_B4 g0 i x1 x2 = some r1 := hf
    unfold fX4_missedBags_B4 at hf
    refine lv_iload_n X.x X.b dX4_missedBags_4 rfl (lv_at hl 2 rfl) ?_
    refine lv_aload_n X.x X.b dX4_missedBags_5 rfl (lv_at hl 0 rfl) ?_
    refine gC_9_3 X h (hS 9) hi Nat.one_pos lk_X4_65 dX4_missedBags_6 ?_
    refine lv_icmp_ge (tgt := 43) X.x X.b dX4_missedBags_9 (by decide) (fun c5 => ?_) (fun c5 => ?_)
    · have hf := wT c5 hf
      obtain ⟨t6, hf, e7⟩ := wEx_s hf
      have JR := JR t6 e7
      refine lv_iload_n X.x X.b dX4_missedBags_43 rfl (lv_at hl 1 rfl) ?_
      cases (Option.some.inj hf).trans JR
      exact ro_iret X h dX4_missedBags_44
    · have hf := wF c5 hf
      refine lv_aload_n X.x X.b dX4_missedBags_12 rfl (lv_at hl 0 rfl) ?_
      refine gC_9_12 X h (hS 9) hi Nat.one_pos lk_X4_40 dX4_missedBags_13 ?_
      refine lv_iload_n X.x X.b dX4_missedBags_16 rfl (lv_at hl 2 rfl) ?_
      obtain ⟨b8, hf⟩ := wGi_s hf
      refine qC_17 X h (hS 17) hi Nat.one_pos b8 dX4_missedBags_17 ?_
      refine gC_22_4 X h (hS 22) hi (vin_lt b8) lk_X4_114 dX4_missedBags_18 ?_
      refine lv_iconst (v := 3) X.x X.b dX4_missedBags_21 (by decide) ?_
      refine lv_icmp_ne (tgt := 37) X.x X.b dX4_missedBags_22 (by decide) (fun c9 => ?_) (fun c9 => ?_)
      · have hf := wF c9 hf
        exact wX4_missedBags_b37 hS hi X h (lv_sub hl [0, 1, 2] rfl) hf J1 JR
      · have hf := wT c9 hf
        refine lv_iload_n X.x X.b dX4_missedBags_25 rfl (lv_at hl 1 rfl) ?_
        refine lv_aload_n X.x X.b dX4_missedBags_26 rfl (lv_at hl 0 rfl) ?_
        refine gC_9_12 X h (hS 9) hi Nat.one_pos lk_X4_40 dX4_missedBags_27 ?_
        refine lv_iload_n X.x X.b dX4_missedBags_30 rfl (lv_at hl 2 rfl) ?_
        obtain ⟨b12, hf⟩ := wGi_s hf
        refine qC_17 X h (hS 17) hi Nat.one_pos b12 dX4_missedBags_31 ?_
        refine gC_22_2 X h (hS 22) hi (vin_lt b12) lk_X4_117 dX4_missedBags_32 ?_
        refine lv_iadd X.x X.b dX4_missedBags_35 ?_
        obtain ⟨y13, e14, hf⟩ := wLe_s hf
        refine lv_nmi e14 ?_
        refine lv_istore_n (lv' := [(1, .int y13), (0, .ref (k.1 + adC 9 i 0)), (2, .int x2)]) X.x X.b dX4_missedBags_36 rfl hl (by decide) rfl (fun ls hl => ?_)
        exact wX4_missedBags_b37 hS hi X h (lv_sub hl [1, 0, 2] rfl) hf J1 JR
set_option maxHeartbeats 4000000 in
set_option maxRecDepth 20000 in
theorem kX4_missedBags (l : Launch) {k : En} {S : Nat → Prop} (hS : ∀ t, S t) {g0 : Mm} {i : Nat} (hi : i < 2) {res : Int32} (hf : fX4_missedBags g0 i = some res) : Mt l yX4_missedBags cX4_missedBags 3 (some .int) (RmN 0 0) YC S k [.ref (k.1 + adC 9 i 0)] g0 (some (.int res)) g0 := by
  refine Mt.of (by decide) (Nat.le_of_ble_eq_true rfl) ?_
  intro p e s m args below meth c ls X _ h hl
  have X : Cx YC S k p s m args meth c cX4_missedBags 3 (some .int) RX4 := X
  have hl : lv_has ls 3 [(0, .ref (k.1 + adC 9 i 0))] := hl
  have JR : res = res := rfl
  unfold fX4_missedBags at hf
  refine lv_iconst (v := 0) X.x X.b dX4_missedBags_0 (by decide) ?_
  obtain ⟨y1, e2, hf⟩ := wLe_s hf
  refine lv_nmi e2 ?_
  refine lv_istore_n (lv' := [(1, .int y1), (0, .ref (k.1 + adC 9 i 0))]) X.x X.b dX4_missedBags_1 rfl hl (by decide) rfl (fun ls hl => ?_)
  refine lv_iconst (v := 0) X.x X.b dX4_missedBags_2 (by decide) ?_
  obtain ⟨y3, e4, hf⟩ := wLe_s hf
  refine lv_nmi e4 ?_
  refine lv_istore_n (lv' := [(2, .int y3), (1, .int y1), (0, .ref (k.1 + adC 9 i 0))]) X.x X.b dX4_missedBags_3 rfl hl (by decide) rfl (fun ls hl => ?_)
  exact wX4_missedBags_L4 hS hi X JR _ _ _ _ _ _ h (lv_sub hl [2, 1, 0] rfl) hf
set_option maxHeartbeats 4000000 in
set_option maxRecDepth 20000 in
theorem kX4_outcome (l : Launch) {k : En} {S : Nat → Prop} (hS : ∀ t, S t) {g0 : Mm} {i : Nat} {a1 : Int32} (hi : i < 2) {res : Int32} (hf : fX4_outcome g0 i a1 = some res) : Mt l yX4_outcome cX4_outcome 2 (some .int) (RmN 2 44) YC S k [.ref (k.1 + adC 9 i 0), .int a1] g0 (some (.int res)) g0 := by
  refine Mt.of (by decide) (Nat.le_of_ble_eq_true rfl) ?_
  intro p e s m args below meth c ls X _ h hl
  have X : Cx YC S k p s m args meth c cX4_outcome 2 (some .int) RX4 := X
  have hl : lv_has ls 2 [(0, .ref (k.1 + adC 9 i 0)), (1, .int a1)] := hl
  have JR : res = res := rfl
  unfold fX4_outcome at hf
  refine lv_iload_n X.x X.b dX4_outcome_0 rfl (lv_at hl 1 rfl) ?_
  by_cases c1 : a1 = (0 : Int32)
  · have hf := wT c1 hf
    refine lv_tableIn (off := 31) (tgt := 32) X.x X.b dX4_outcome_1 (by rw [c1]; decide) (by rw [c1]; decide) (by rw [c1]; rfl) (by decide) ?_
    refine lv_aload_n X.x X.b dX4_outcome_32 rfl (lv_at hl 0 rfl) ?_
    obtain ⟨y3, e2, hf⟩ := wBd_s hf
    refine ro_callvI (As := []) (g1 := g0) (x := y3) X h (kX4_lateInAll l hS hi e2) mv_X4_lateInAll lk_X4_101 ⟨rfl, rfl⟩ ⟨(Nat.le_of_ble_eq_true rfl), (Nat.le_of_ble_eq_true rfl)⟩ (rC_9 X h (hS 9) hi Nat.one_pos) rfl hl rfl (Nat.le_of_ble_eq_true rfl) ⟨Nat.zero_le _, Nat.zero_le _⟩ dX4_outcome_33 (fun H locs h => ?_)
    cases (Option.some.inj hf).trans JR
    exact ro_iret X h dX4_outcome_36
  · have hf := wF c1 hf
    by_cases c4 : a1 = (1 : Int32)
    · have hf := wT c4 hf
      refine lv_tableIn (off := 36) (tgt := 37) X.x X.b dX4_outcome_1 (by rw [c4]; decide) (by rw [c4]; decide) (by rw [c4]; rfl) (by decide) ?_
      refine lv_aload_n X.x X.b dX4_outcome_37 rfl (lv_at hl 0 rfl) ?_
      refine lv_bipush (v := 7) X.x X.b dX4_outcome_38 (by decide) ?_
      obtain ⟨y6, e5, hf⟩ := wBd_s hf
      refine ro_callvI (As := [.int (7 : Int32)]) (g1 := g0) (x := y6) X h (kX4_howMany l hS hi e5) mv_X4_howMany lk_X4_105 ⟨rfl, rfl⟩ ⟨(Nat.le_of_ble_eq_true rfl), (Nat.le_of_ble_eq_true rfl)⟩ (rC_9 X h (hS 9) hi Nat.one_pos) rfl hl rfl (Nat.le_of_ble_eq_true rfl) ⟨Nat.zero_le _, Nat.zero_le _⟩ dX4_outcome_40 (fun H locs h => ?_)
      cases (Option.some.inj hf).trans JR
      exact ro_iret X h dX4_outcome_43
    · have hf := wF c4 hf
      by_cases c7 : a1 = (2 : Int32)
      · have hf := wT c7 hf
        refine lv_tableIn (off := 43) (tgt := 44) X.x X.b dX4_outcome_1 (by rw [c7]; decide) (by rw [c7]; decide) (by rw [c7]; rfl) (by decide) ?_
        refine lv_aload_n X.x X.b dX4_outcome_44 rfl (lv_at hl 0 rfl) ?_
        refine lv_bipush (v := 8) X.x X.b dX4_outcome_45 (by decide) ?_
        obtain ⟨y9, e8, hf⟩ := wBd_s hf
        refine ro_callvI (As := [.int (8 : Int32)]) (g1 := g0) (x := y9) X h (kX4_howMany l hS hi e8) mv_X4_howMany lk_X4_105 ⟨rfl, rfl⟩ ⟨(Nat.le_of_ble_eq_true rfl), (Nat.le_of_ble_eq_true rfl)⟩ (rC_9 X h (hS 9) hi Nat.one_pos) rfl hl rfl (Nat.le_of_ble_eq_true rfl) ⟨Nat.zero_le _, Nat.zero_le _⟩ dX4_outcome_47 (fun H locs h => ?_)
        cases (Option.some.inj hf).trans JR
        exact ro_iret X h dX4_outcome_50
      · have hf := wF c7 hf
        by_cases c10 : a1 = (3 : Int32)
        · have hf := wT c10 hf
          refine lv_tableIn (off := 50) (tgt := 51) X.x X.b dX4_outcome_1 (by rw [c10]; decide) (by rw [c10]; decide) (by rw [c10]; rfl) (by decide) ?_
          refine lv_aload_n X.x X.b dX4_outcome_51 rfl (lv_at hl 0 rfl) ?_
          obtain ⟨y12, e11, hf⟩ := wBd_s hf
          refine ro_callvI (As := []) (g1 := g0) (x := y12) X h (kX4_missedBags l hS hi e11) mv_X4_missedBags lk_X4_108 ⟨rfl, rfl⟩ ⟨(Nat.le_of_ble_eq_true rfl), (Nat.le_of_ble_eq_true rfl)⟩ (rC_9 X h (hS 9) hi Nat.one_pos) rfl hl rfl (Nat.le_of_ble_eq_true rfl) ⟨Nat.zero_le _, Nat.zero_le _⟩ dX4_outcome_52 (fun H locs h => ?_)
          cases (Option.some.inj hf).trans JR
          exact ro_iret X h dX4_outcome_55
        · have hf := wF c10 hf
          refine lv_tableOut (tgt := 56) X.x X.b dX4_outcome_1 (by have q0 := lv_neT c1 (a := 0) rfl; have q1 := lv_neT c4 (a := 1) rfl; have q2 := lv_neT c7 (a := 2) rfl; have q3 := lv_neT c10 (a := 3) rfl; omega) (by decide) ?_
          refine lv_aload_n X.x X.b dX4_outcome_56 rfl (lv_at hl 0 rfl) ?_
          refine gC_9_5 X h (hS 9) hi Nat.one_pos lk_X4_11 dX4_outcome_57 ?_
          refine lv_bipush (v := 7) X.x X.b dX4_outcome_60 (by decide) ?_
          obtain ⟨b13, hf⟩ := wGi_s hf
          refine aC_10 X h (hS 10) hi Nat.one_pos b13 dX4_outcome_62 ?_
          cases (Option.some.inj hf).trans JR
          exact ro_iret X h dX4_outcome_63
set_option maxHeartbeats 4000000 in
set_option maxRecDepth 20000 in
theorem kX4_move (l : Launch) {k : En} {S : Nat → Prop} (hS : ∀ t, S t) {i : Nat} {i1 : Nat} {v1 : Nat} (hi : i < 2) (hi1 : i1 < 2) (hv1 : v1 < 12) {res : Mm} {g : Mm} (hf : fX4_move g i i1 v1 = some res) : Mt l yX4_move cX4_move 3 none (RmN 1 22) YC S k [.ref (k.1 + adC 9 i 0), .ref (k.1 + adC 19 i1 v1)] g none res := by
  refine Mt.of (by decide) (Nat.le_of_ble_eq_true rfl) ?_
  intro p e s m args below meth c ls X _ h hl
  have X : Cx YC S k p s m args meth c cX4_move 3 none RX4 := X
  have hl : lv_has ls 3 [(0, .ref (k.1 + adC 9 i 0)), (1, .ref (k.1 + adC 19 i1 v1))] := hl
  have JR : res = res := rfl
  unfold fX4_move at hf
  refine lv_aload_n X.x X.b dX4_move_0 rfl (lv_at hl 0 rfl) ?_
  refine gC_9_0 X h (hS 9) hi Nat.one_pos lk_X4_55 dX4_move_1 ?_
  refine lv_aload_n X.x X.b dX4_move_4 rfl (lv_at hl 1 rfl) ?_
  refine gC_19_7 X h (hS 19) hi1 hv1 lk_X4_147 dX4_move_5 ?_
  refine lv_isub X.x X.b dX4_move_8 ?_
  obtain ⟨y1, e2, hf⟩ := wLe_s hf
  refine lv_nmi e2 ?_
  refine lv_istore_n (lv' := [(2, .int y1), (0, .ref (k.1 + adC 9 i 0)), (1, .ref (k.1 + adC 19 i1 v1))]) X.x X.b dX4_move_9 rfl hl (by decide) rfl (fun ls hl => ?_)
  refine lv_aload_n X.x X.b dX4_move_10 rfl (lv_at hl 2 rfl) ?_
  refine gC_19_6 X h (hS 19) hi1 hv1 lk_X4_120 dX4_move_11 ?_
  obtain ⟨y3, e4, hf⟩ := wLe_s hf
  refine lv_nmi e4 ?_
  by_cases c5 : y3 = (0 : Int32)
  · have hf := wT c5 hf
    refine lv_tableIn (off := 42) (tgt := 56) X.x X.b dX4_move_14 (by rw [c5]; decide) (by rw [c5]; decide) (by rw [c5]; rfl) (by decide) ?_
    refine lv_aload_n X.x X.b dX4_move_56 rfl (lv_at hl 1 rfl) ?_
    refine gC_9_0 X h (hS 9) hi Nat.one_pos lk_X4_55 dX4_move_57 ?_
    refine lv_aload_n X.x X.b dX4_move_60 rfl (lv_at hl 2 rfl) ?_
    obtain ⟨y7, e6, hf⟩ := wBd_s hf
    refine ro_callvI (As := []) (g1 := g) (x := y7) X h (kX9_comes l hS hi1 hv1 e6) mv_X9_comes lk_X4_150 ⟨rfl, rfl⟩ ⟨(Nat.le_of_ble_eq_true rfl), (Nat.le_of_ble_eq_true rfl)⟩ (rC_19 X h (hS 19) hi1 hv1) rfl hl rfl (Nat.le_of_ble_eq_true rfl) ⟨Nat.zero_le _, Nat.zero_le _⟩ dX4_move_61 (fun H locs h => ?_)
    refine lv_icmp_lt (tgt := 162) X.x X.b dX4_move_64 (by decide) (fun c8 => ?_) (fun c8 => ?_)
    · have hf := wT c8 hf
      cases (Option.some.inj hf).trans JR
      exact ro_vret X h dX4_move_162
    · have hf := wF c8 hf
      refine lv_aload_n X.x X.b dX4_move_67 rfl (lv_at hl 2 rfl) ?_
      refine lv_iconst (v := 1) X.x X.b dX4_move_68 (by decide) ?_
      refine lv_aload_n X.x X.b dX4_move_69 rfl (lv_at hl 1 rfl) ?_
      refine gC_9_0 X h (hS 9) hi Nat.one_pos lk_X4_55 dX4_move_70 ?_
      obtain ⟨g11, e9, hf⟩ := wBd_s hf
      refine ro_callvV (As := [.int (1 : Int32), .int (g 9 i 0 0)]) (g1 := g11) X h (kX9_enter l hS hi1 hv1 e9) mv_X9_enter lk_X4_153 ⟨rfl, rfl⟩ ⟨(Nat.le_of_ble_eq_true rfl), (Nat.le_of_ble_eq_true rfl)⟩ (rC_19 X h (hS 19) hi1 hv1) rfl hl rfl (Nat.le_of_ble_eq_true rfl) ⟨Nat.zero_le _, Nat.zero_le _⟩ dX4_move_73 (fun H locs h => ?_)
      refine lv_goto (tgt := 162) X.x X.b dX4_move_76 (by decide) ?_
      cases (Option.some.inj hf).trans JR
      exact ro_vret X h dX4_move_162
  · have hf := wF c5 hf
    by_cases c12 : y3 = (1 : Int32)
    · have hf := wT c12 hf
      refine lv_tableIn (off := 65) (tgt := 79) X.x X.b dX4_move_14 (by rw [c12]; decide) (by rw [c12]; decide) (by rw [c12]; rfl) (by decide) ?_
      refine lv_iload_n X.x X.b dX4_move_79 rfl (lv_at hl 0 rfl) ?_
      refine lv_bipush (v := 60) X.x X.b dX4_move_80 (by decide) ?_
      refine lv_icmp_lt (tgt := 162) X.x X.b dX4_move_82 (by decide) (fun c13 => ?_) (fun c13 => ?_)
      · have hf := wT c13 hf
        cases (Option.some.inj hf).trans JR
        exact ro_vret X h dX4_move_162
      · have hf := wF c13 hf
        refine lv_aload_n X.x X.b dX4_move_85 rfl (lv_at hl 2 rfl) ?_
        refine lv_bipush (v := 8) X.x X.b dX4_move_86 (by decide) ?_
        refine lv_aload_n X.x X.b dX4_move_88 rfl (lv_at hl 1 rfl) ?_
        refine gC_9_0 X h (hS 9) hi Nat.one_pos lk_X4_55 dX4_move_89 ?_
        obtain ⟨g16, e14, hf⟩ := wBd_s hf
        refine ro_callvV (As := [.int (8 : Int32), .int (g 9 i 0 0)]) (g1 := g16) X h (kX9_enter l hS hi1 hv1 e14) mv_X9_enter lk_X4_153 ⟨rfl, rfl⟩ ⟨(Nat.le_of_ble_eq_true rfl), (Nat.le_of_ble_eq_true rfl)⟩ (rC_19 X h (hS 19) hi1 hv1) rfl hl rfl (Nat.le_of_ble_eq_true rfl) ⟨Nat.zero_le _, Nat.zero_le _⟩ dX4_move_92 (fun H locs h => ?_)
        refine lv_goto (tgt := 162) X.x X.b dX4_move_95 (by decide) ?_
        cases (Option.some.inj hf).trans JR
        exact ro_vret X h dX4_move_162
    · have hf := wF c12 hf
      by_cases c17 : y3 = (2 : Int32)
      · have hf := wT c17 hf
        refine lv_tableIn (off := 84) (tgt := 98) X.x X.b dX4_move_14 (by rw [c17]; decide) (by rw [c17]; decide) (by rw [c17]; rfl) (by decide) ?_
        refine lv_iload_n X.x X.b dX4_move_98 rfl (lv_at hl 0 rfl) ?_
        refine lv_aload_n X.x X.b dX4_move_99 rfl (lv_at hl 2 rfl) ?_
        refine gC_19_0 X h (hS 19) hi1 hv1 lk_X4_94 dX4_move_100 ?_
        obtain ⟨y19, e18, hf⟩ := wBd_s hf
        refine ro_callsI (As := [.int (g 19 i1 v1 0)]) (g1 := g) (x := y19) X h (kX3_roll l hS e18) mv_X3_roll lk_X4_156 ⟨rfl, rfl⟩ ⟨(Nat.le_of_ble_eq_true rfl), (Nat.le_of_ble_eq_true rfl)⟩ rfl hl rfl (Nat.le_of_ble_eq_true rfl) ⟨Nat.zero_le _, Nat.zero_le _⟩ dX4_move_103 (fun H locs h => ?_)
        refine lv_icmp_lt (tgt := 162) X.x X.b dX4_move_106 (by decide) (fun c20 => ?_) (fun c20 => ?_)
        · have hf := wT c20 hf
          cases (Option.some.inj hf).trans JR
          exact ro_vret X h dX4_move_162
        · have hf := wF c20 hf
          refine lv_aload_n X.x X.b dX4_move_109 rfl (lv_at hl 2 rfl) ?_
          refine lv_iconst (v := 3) X.x X.b dX4_move_110 (by decide) ?_
          refine lv_aload_n X.x X.b dX4_move_111 rfl (lv_at hl 1 rfl) ?_
          refine gC_9_0 X h (hS 9) hi Nat.one_pos lk_X4_55 dX4_move_112 ?_
          obtain ⟨g23, e21, hf⟩ := wBd_s hf
          refine ro_callvV (As := [.int (3 : Int32), .int (g 9 i 0 0)]) (g1 := g23) X h (kX9_enter l hS hi1 hv1 e21) mv_X9_enter lk_X4_153 ⟨rfl, rfl⟩ ⟨(Nat.le_of_ble_eq_true rfl), (Nat.le_of_ble_eq_true rfl)⟩ (rC_19 X h (hS 19) hi1 hv1) rfl hl rfl (Nat.le_of_ble_eq_true rfl) ⟨Nat.zero_le _, Nat.zero_le _⟩ dX4_move_115 (fun H locs h => ?_)
          refine lv_goto (tgt := 162) X.x X.b dX4_move_118 (by decide) ?_
          cases (Option.some.inj hf).trans JR
          exact ro_vret X h dX4_move_162
      · have hf := wF c17 hf
        by_cases c24 : y3 = (3 : Int32)
        · have hf := wT c24 hf
          refine lv_tableIn (off := 107) (tgt := 121) X.x X.b dX4_move_14 (by rw [c24]; decide) (by rw [c24]; decide) (by rw [c24]; rfl) (by decide) ?_
          refine lv_iload_n X.x X.b dX4_move_121 rfl (lv_at hl 0 rfl) ?_
          refine lv_iconst (v := 4) X.x X.b dX4_move_122 (by decide) ?_
          refine lv_icmp_lt (tgt := 162) X.x X.b dX4_move_123 (by decide) (fun c25 => ?_) (fun c25 => ?_)
          · have hf := wT c25 hf
            cases (Option.some.inj hf).trans JR
            exact ro_vret X h dX4_move_162
          · have hf := wF c25 hf
            refine lv_aload_n X.x X.b dX4_move_126 rfl (lv_at hl 2 rfl) ?_
            refine lv_iconst (v := 4) X.x X.b dX4_move_127 (by decide) ?_
            refine lv_aload_n X.x X.b dX4_move_128 rfl (lv_at hl 1 rfl) ?_
            refine gC_9_0 X h (hS 9) hi Nat.one_pos lk_X4_55 dX4_move_129 ?_
            obtain ⟨g28, e26, hf⟩ := wBd_s hf
            refine ro_callvV (As := [.int (4 : Int32), .int (g 9 i 0 0)]) (g1 := g28) X h (kX9_enter l hS hi1 hv1 e26) mv_X9_enter lk_X4_153 ⟨rfl, rfl⟩ ⟨(Nat.le_of_ble_eq_true rfl), (Nat.le_of_ble_eq_true rfl)⟩ (rC_19 X h (hS 19) hi1 hv1) rfl hl rfl (Nat.le_of_ble_eq_true rfl) ⟨Nat.zero_le _, Nat.zero_le _⟩ dX4_move_132 (fun H locs h => ?_)
            refine lv_goto (tgt := 162) X.x X.b dX4_move_135 (by decide) ?_
            cases (Option.some.inj hf).trans JR
            exact ro_vret X h dX4_move_162
        · have hf := wF c24 hf
          by_cases c29 : y3 = (4 : Int32)
          · have hf := wT c29 hf
            refine lv_tableIn (off := 148) (tgt := 162) X.x X.b dX4_move_14 (by rw [c29]; decide) (by rw [c29]; decide) (by rw [c29]; rfl) (by decide) ?_
            cases (Option.some.inj hf).trans JR
            exact ro_vret X h dX4_move_162
          · have hf := wF c29 hf
            by_cases c30 : y3 = (5 : Int32)
            · have hf := wT c30 hf
              refine lv_tableIn (off := 148) (tgt := 162) X.x X.b dX4_move_14 (by rw [c30]; decide) (by rw [c30]; decide) (by rw [c30]; rfl) (by decide) ?_
              cases (Option.some.inj hf).trans JR
              exact ro_vret X h dX4_move_162
            · have hf := wF c30 hf
              by_cases c31 : y3 = (6 : Int32)
              · have hf := wT c31 hf
                refine lv_tableIn (off := 124) (tgt := 138) X.x X.b dX4_move_14 (by rw [c31]; decide) (by rw [c31]; decide) (by rw [c31]; rfl) (by decide) ?_
                refine lv_iload_n X.x X.b dX4_move_138 rfl (lv_at hl 0 rfl) ?_
                refine lv_aload_n X.x X.b dX4_move_139 rfl (lv_at hl 2 rfl) ?_
                refine gC_19_0 X h (hS 19) hi1 hv1 lk_X4_94 dX4_move_140 ?_
                obtain ⟨y33, e32, hf⟩ := wBd_s hf
                refine ro_callsI (As := [.int (g 19 i1 v1 0)]) (g1 := g) (x := y33) X h (kX3_roll l hS e32) mv_X3_roll lk_X4_156 ⟨rfl, rfl⟩ ⟨(Nat.le_of_ble_eq_true rfl), (Nat.le_of_ble_eq_true rfl)⟩ rfl hl rfl (Nat.le_of_ble_eq_true rfl) ⟨Nat.zero_le _, Nat.zero_le _⟩ dX4_move_143 (fun H locs h => ?_)
                refine lv_icmp_lt (tgt := 162) X.x X.b dX4_move_146 (by decide) (fun c34 => ?_) (fun c34 => ?_)
                · have hf := wT c34 hf
                  cases (Option.some.inj hf).trans JR
                  exact ro_vret X h dX4_move_162
                · have hf := wF c34 hf
                  refine lv_aload_n X.x X.b dX4_move_149 rfl (lv_at hl 2 rfl) ?_
                  refine lv_bipush (v := 7) X.x X.b dX4_move_150 (by decide) ?_
                  refine lv_aload_n X.x X.b dX4_move_152 rfl (lv_at hl 1 rfl) ?_
                  refine gC_9_0 X h (hS 9) hi Nat.one_pos lk_X4_55 dX4_move_153 ?_
                  obtain ⟨g37, e35, hf⟩ := wBd_s hf
                  refine ro_callvV (As := [.int (7 : Int32), .int (g 9 i 0 0)]) (g1 := g37) X h (kX9_enter l hS hi1 hv1 e35) mv_X9_enter lk_X4_153 ⟨rfl, rfl⟩ ⟨(Nat.le_of_ble_eq_true rfl), (Nat.le_of_ble_eq_true rfl)⟩ (rC_19 X h (hS 19) hi1 hv1) rfl hl rfl (Nat.le_of_ble_eq_true rfl) ⟨Nat.zero_le _, Nat.zero_le _⟩ dX4_move_156 (fun H locs h => ?_)
                  refine lv_goto (tgt := 162) X.x X.b dX4_move_159 (by decide) ?_
                  cases (Option.some.inj hf).trans JR
                  exact ro_vret X h dX4_move_162
              · have hf := wF c31 hf
                refine lv_tableOut (tgt := 162) X.x X.b dX4_move_14 (by have q0 := lv_neT c5 (a := 0) rfl; have q1 := lv_neT c12 (a := 1) rfl; have q2 := lv_neT c17 (a := 2) rfl; have q3 := lv_neT c24 (a := 3) rfl; have q4 := lv_neT c29 (a := 4) rfl; have q5 := lv_neT c30 (a := 5) rfl; have q6 := lv_neT c31 (a := 6) rfl; omega) (by decide) ?_
                cases (Option.some.inj hf).trans JR
                exact ro_vret X h dX4_move_162
set_option maxHeartbeats 4000000 in
set_option maxRecDepth 20000 in
theorem wX4_sendCarts_b50 {k : En} {S : Nat → Prop} (hS : ∀ t, S t) {i : Nat} {a1 : Int32} (hi : i < 2) {res : Mm} (X : Cx YC S k p s m args meth c cX4_sendCarts 4 none RX4) {g : Mm} {x2 : Int32} {H : Heap} {locs : List Loc} {ls : Array Slot} (h : Hx YC S k s g H locs) (hl : lv_has ls 4 [(0, .ref (k.1 + adC 9 i 0)), (1, .int a1), (2, .int x2)]) {r : (Mm × Int32) ⊕ (Mm)} (hf : fX4_sendCarts_b50 g i a1 x2 = some r) (J1 : ∀ (g : Mm) (x2 : Int32), r = .inl (g, x2) → ∀ (H : Heap) (locs : List Loc) (ls : Array Slot), Hx YC S k s g H locs → lv_has ls 4 [(0, .ref (k.1 + adC 9 i 0)), (1, .int a1), (2, .int x2)] → W p l e (RmN 0 0) s m args below meth c H locs 0 0 (Fin YC S k args s below none res) (F0 m 2 ls [])) (JR : ∀ t1, r = .inr t1 → t1 = res) :
    W p l e (RmN 0 0) s m args below meth c H locs 0 0 (Fin YC S k args s below none res) (F0 m 50 ls []) := by
  unfold fX4_sendCarts_b50 at hf
  obtain ⟨y8, e9, hf⟩ := wLe_s hf
  refine lv_iinc (v := y8) (lv' := [(2, .int y8), (0, .ref (k.1 + adC 9 i 0)), (1, .int a1)]) X.x X.b dX4_sendCarts_50 hl (k := 2) rfl (by rw [e9]; rfl) (by decide) rfl (fun ls hl => ?_)
  refine lv_goto (tgt := 2) X.x X.b dX4_sendCarts_53 (by decide) ?_
  exact J1 _ _ (Option.some.inj hf).symm _ _ _ h (lv_sub hl [1, 2, 0] rfl)
set_option maxHeartbeats 4000000 in
set_option maxRecDepth 20000 in
theorem wX4_sendCarts_L2 {k : En} {S : Nat → Prop} (hS : ∀ t, S t) {i : Nat} {a1 : Int32} (hi : i < 2) {res : Mm} (X : Cx YC S k p s m args meth c cX4_sendCarts 4 none RX4) {r : Mm} (JR : r = res) :
    ∀ (fu : Nat) (g : Mm) (x2 : Int32) (H : Heap) (locs : List Loc) (ls : Array Slot), Hx YC S k s g H locs → lv_has ls 4 [(0, .ref (k.1 + adC 9 i 0)), (1, .int a1), (2, .int x2)] → wLp (fun q => fX4_sendCarts_B2 q.1 i a1 q.2) fu (g, x2) = some r → W p l e (RmN 0 0) s m args below meth c H locs 0 0 (Fin YC S k args s below none res) (F0 m 2 ls []) := by
  intro fu
  induction fu with
  | zero => intro g x2 H locs ls h hl hf; exact (wLp_0 hf).elim
  | succ fu ih1 =>
    intro g x2 H locs ls h hl hf
    obtain ⟨r1, hf, hr⟩ := wLp_s hf
    have J1n : ∀ (g : Mm) (x2 : Int32), r1 = .inl (g, x2) → ∀ (H : Heap) (locs : List Loc) (ls : Array Slot), Hx YC S k s g H locs → lv_has ls 4 [(0, .ref (k.1 + adC 9 i 0)), (1, .int a1), (2, .int x2)] → W p l e (RmN 0 0) s m args below meth c H locs 0 0 (Fin YC S k args s below none res) (F0 m 2 ls []) := fun g x2 q H locs ls h hl => by subst q; exact ih1 _ _ _ _ _ h hl hr
    have JRn : ∀ t1, r1 = .inr t1 → t1 = res := fun t1 q => by subst q; obtain rfl := Option.some.inj hr; exact JR
    have J1 := J1n
    have JR := JRn
    clear J1n JRn
    have hf : fX4_sendCarts_B2 g i a1 x2 = some r1 := hf
    unfold fX4_sendCarts_B2 at hf
    refine lv_iload_n X.x X.b dX4_sendCarts_2 rfl (lv_at hl 2 rfl) ?_
    refine lv_aload_n X.x X.b dX4_sendCarts_3 rfl (lv_at hl 0 rfl) ?_
    refine gC_9_3 X h (hS 9) hi Nat.one_pos lk_X4_65 dX4_sendCarts_4 ?_
    refine lv_icmp_ge (tgt := 56) X.x X.b dX4_sendCarts_7 (by decide) (fun c3 => ?_) (fun c3 => ?_)
    · have hf := wT c3 hf
      obtain ⟨t4, hf, e5⟩ := wEx_s hf
      have JR := JR t4 e5
      cases (Option.some.inj hf).trans JR
      exact ro_vret X h dX4_sendCarts_56
    · have hf := wF c3 hf
      refine lv_aload_n X.x X.b dX4_sendCarts_10 rfl (lv_at hl 0 rfl) ?_
      refine gC_9_12 X h (hS 9) hi Nat.one_pos lk_X4_40 dX4_sendCarts_11 ?_
      refine lv_iload_n X.x X.b dX4_sendCarts_14 rfl (lv_at hl 2 rfl) ?_
      obtain ⟨b6, hf⟩ := wGi_s hf
      refine qC_17 X h (hS 17) hi Nat.one_pos b6 dX4_sendCarts_15 ?_
      refine lv_astore_n (lv' := [(3, .ref (k.1 + adC 22 i ((x2).toNatClampNeg))), (0, .ref (k.1 + adC 9 i 0)), (1, .int a1), (2, .int x2)]) X.x X.b dX4_sendCarts_16 rfl hl (by decide) rfl (fun ls hl => ?_)
      refine lv_aload_n X.x X.b dX4_sendCarts_17 rfl (lv_at hl 0 rfl) ?_
      refine gC_22_0 X h (hS 22) hi (vin_lt b6) lk_X4_190 dX4_sendCarts_18 ?_
      refine lv_iload_n X.x X.b dX4_sendCarts_21 rfl (lv_at hl 2 rfl) ?_
      refine lv_icmp_ne (tgt := 50) X.x X.b dX4_sendCarts_22 (by decide) (fun c7 => ?_) (fun c7 => ?_)
      · have hf := wF c7 hf
        exact wX4_sendCarts_b50 hS hi X h (lv_sub hl [1, 2, 3] rfl) hf J1 JR
      · have hf := wT c7 hf
        refine lv_aload_n X.x X.b dX4_sendCarts_25 rfl (lv_at hl 0 rfl) ?_
        refine gC_22_4 X h (hS 22) hi (vin_lt b6) lk_X4_114 dX4_sendCarts_26 ?_
        refine lv_if_ne (tgt := 50) X.x X.b dX4_sendCarts_29 (by decide) (fun c10 => ?_) (fun c10 => ?_)
        · have hf := wF c10 hf
          exact wX4_sendCarts_b50 hS hi X h (lv_sub hl [1, 2, 3] rfl) hf J1 JR
        · have hf := wT c10 hf
          refine lv_aload_n X.x X.b dX4_sendCarts_32 rfl (lv_at hl 0 rfl) ?_
          refine lv_iconst (v := 1) X.x X.b dX4_sendCarts_33 (by decide) ?_
          obtain ⟨g11, e12, hf⟩ := wLe_s hf
          refine pC_22_4 X h (hS 22) hi (vin_lt b6) lk_X4_114 e12 dX4_sendCarts_34 (fun H locs h => ?_)
          refine lv_aload_n X.x X.b dX4_sendCarts_37 rfl (lv_at hl 0 rfl) ?_
          refine lv_aload_n X.x X.b dX4_sendCarts_38 rfl (lv_at hl 1 rfl) ?_
          refine gC_9_0 X h (hS 9) hi Nat.one_pos lk_X4_55 dX4_sendCarts_39 ?_
          refine lv_aload_n X.x X.b dX4_sendCarts_42 rfl (lv_at hl 0 rfl) ?_
          refine gC_22_3 X h (hS 22) hi (vin_lt b6) lk_X4_193 dX4_sendCarts_43 ?_
          refine lv_iadd X.x X.b dX4_sendCarts_46 ?_
          obtain ⟨g13, e14, hf⟩ := wLe_s hf
          refine pC_22_5 X h (hS 22) hi (vin_lt b6) lk_X4_196 e14 dX4_sendCarts_47 (fun H locs h => ?_)
          exact wX4_sendCarts_b50 hS hi X h (lv_sub hl [1, 2, 3] rfl) hf J1 JR
set_option maxHeartbeats 4000000 in
set_option maxRecDepth 20000 in
theorem kX4_sendCarts (l : Launch) {k : En} {S : Nat → Prop} (hS : ∀ t, S t) {i : Nat} {a1 : Int32} (hi : i < 2) {res : Mm} {g : Mm} (hf : fX4_sendCarts g i a1 = some res) : Mt l yX4_sendCarts cX4_sendCarts 4 none (RmN 0 0) YC S k [.ref (k.1 + adC 9 i 0), .int a1] g none res := by
  refine Mt.of (by decide) (Nat.le_of_ble_eq_true rfl) ?_
  intro p e s m args below meth c ls X _ h hl
  have X : Cx YC S k p s m args meth c cX4_sendCarts 4 none RX4 := X
  have hl : lv_has ls 4 [(0, .ref (k.1 + adC 9 i 0)), (1, .int a1)] := hl
  have JR : res = res := rfl
  unfold fX4_sendCarts at hf
  refine lv_iconst (v := 0) X.x X.b dX4_sendCarts_0 (by decide) ?_
  obtain ⟨y1, e2, hf⟩ := wLe_s hf
  refine lv_nmi e2 ?_
  refine lv_istore_n (lv' := [(2, .int y1), (0, .ref (k.1 + adC 9 i 0)), (1, .int a1)]) X.x X.b dX4_sendCarts_1 rfl hl (by decide) rfl (fun ls hl => ?_)
  exact wX4_sendCarts_L2 hS hi X JR _ _ _ _ _ _ h (lv_sub hl [1, 2, 0] rfl) hf
set_option maxHeartbeats 4000000 in
set_option maxRecDepth 20000 in
theorem wX4_finish_b91 {k : En} {S : Nat → Prop} (hS : ∀ t, S t) {i : Nat} {a1 : Int32} {a2 : Int32} (hi : i < 2) {res : Mm} (X : Cx YC S k p s m args meth c cX4_finish 5 none RX4) {g : Mm} {x3v : Nat} (hx3v : x3v < 12) {H : Heap} {locs : List Loc} {ls : Array Slot} (h : Hx YC S k s g H locs) (hl : lv_has ls 5 [(0, .ref (k.1 + adC 9 i 0)), (3, .ref (k.1 + adC 19 i x3v))]) {r : Mm} (hf : fX4_finish_b91 g i a1 a2 x3v = some r) (JR : r = res) :
    W p l e (RmN 1 23) s m args below meth c H locs 0 0 (Fin YC S k args s below none res) (F0 m 91 ls []) := by
  unfold fX4_finish_b91 at hf
  refine lv_aload_n X.x X.b dX4_finish_91 rfl (lv_at hl 1 rfl) ?_
  refine lv_iconst (v := (-1)) X.x X.b dX4_finish_92 (by decide) ?_
  obtain ⟨g14, e15, hf⟩ := wLe_s hf
  refine pC_19_8 X h (hS 19) hi hx3v lk_X4_184 e15 dX4_finish_93 (fun H locs h => ?_)
  refine lv_aload_n X.x X.b dX4_finish_96 rfl (lv_at hl 1 rfl) ?_
  refine lv_iconst (v := 5) X.x X.b dX4_finish_97 (by decide) ?_
  refine lv_aload_n X.x X.b dX4_finish_98 rfl (lv_at hl 0 rfl) ?_
  refine gC_9_0 X h (hS 9) hi Nat.one_pos lk_X4_55 dX4_finish_99 ?_
  obtain ⟨g18, e16, hf⟩ := wBd_s hf
  refine ro_callvV (As := [.int (5 : Int32), .int (g14 9 i 0 0)]) (g1 := g18) X h (kX9_enter l hS hi hx3v e16) mv_X9_enter lk_X4_153 ⟨rfl, rfl⟩ ⟨(Nat.le_of_ble_eq_true rfl), (Nat.le_of_ble_eq_true rfl)⟩ (rC_19 X h (hS 19) hi hx3v) rfl hl rfl (Nat.le_of_ble_eq_true rfl) ⟨Nat.zero_le _, Nat.zero_le _⟩ dX4_finish_102 (fun H locs h => ?_)
  cases (Option.some.inj hf).trans JR
  exact ro_vret X h dX4_finish_105
set_option maxHeartbeats 4000000 in
set_option maxRecDepth 20000 in
theorem wX4_finish_b34 {k : En} {S : Nat → Prop} (hS : ∀ t, S t) {i : Nat} {a1 : Int32} {a2 : Int32} (hi : i < 2) {res : Mm} (X : Cx YC S k p s m args meth c cX4_finish 5 none RX4) {g : Mm} {x3v : Nat} (hx3v : x3v < 12) {H : Heap} {locs : List Loc} {ls : Array Slot} (h : Hx YC S k s g H locs) (hl : lv_has ls 5 [(0, .ref (k.1 + adC 9 i 0)), (1, .int a1), (2, .int a2), (3, .ref (k.1 + adC 19 i x3v))]) {r : Mm} (hf : fX4_finish_b34 g i a1 a2 x3v = some r) (JR : r = res) :
    W p l e (RmN 1 23) s m args below meth c H locs 0 0 (Fin YC S k args s below none res) (F0 m 34 ls []) := by
  unfold fX4_finish_b34 at hf
  refine lv_iload_n X.x X.b dX4_finish_34 rfl (lv_at hl 2 rfl) ?_
  refine lv_iconst (v := 1) X.x X.b dX4_finish_35 (by decide) ?_
  refine lv_icmp_ne (tgt := 47) X.x X.b dX4_finish_36 (by decide) (fun c8 => ?_) (fun c8 => ?_)
  · have hf := wF c8 hf
    refine lv_iload_n X.x X.b dX4_finish_47 rfl (lv_at hl 2 rfl) ?_
    refine lv_bipush (v := 6) X.x X.b dX4_finish_48 (by decide) ?_
    refine lv_icmp_ne (tgt := 64) X.x X.b dX4_finish_50 (by decide) (fun c9 => ?_) (fun c9 => ?_)
    · have hf := wF c9 hf
      refine lv_iload_n X.x X.b dX4_finish_64 rfl (lv_at hl 2 rfl) ?_
      refine lv_bipush (v := 7) X.x X.b dX4_finish_65 (by decide) ?_
      refine lv_icmp_ne (tgt := 105) X.x X.b dX4_finish_67 (by decide) (fun c10 => ?_) (fun c10 => ?_)
      · have hf := wF c10 hf
        cases (Option.some.inj hf).trans JR
        exact ro_vret X h dX4_finish_105
      · have hf := wT c10 hf
        refine lv_aload_n X.x X.b dX4_finish_70 rfl (lv_at hl 0 rfl) ?_
        refine lv_aload_n X.x X.b dX4_finish_71 rfl (lv_at hl 3 rfl) ?_
        refine gC_19_8 X h (hS 19) hi hx3v lk_X4_184 dX4_finish_72 ?_
        obtain ⟨y12, e11, hf⟩ := wBd_s hf
        refine ro_callvI (As := [.int (g 19 i x3v 8)]) (g1 := g) (x := y12) X h (kX4_hasStand l hS hi e11) mv_X4_hasStand lk_X4_187 ⟨rfl, rfl⟩ ⟨(Nat.le_of_ble_eq_true rfl), (Nat.le_of_ble_eq_true rfl)⟩ (rC_9 X h (hS 9) hi Nat.one_pos) rfl hl rfl (Nat.le_of_ble_eq_true rfl) ⟨Nat.zero_le _, Nat.zero_le _⟩ dX4_finish_75 (fun H locs h => ?_)
        refine lv_if_eq (tgt := 91) X.x X.b dX4_finish_78 (by decide) (fun c13 => ?_) (fun c13 => ?_)
        · have hf := wT c13 hf
          exact wX4_finish_b91 hS hi X hx3v h (lv_sub hl [0, 3] rfl) hf JR
        · have hf := wF c13 hf
          refine lv_aload_n X.x X.b dX4_finish_81 rfl (lv_at hl 0 rfl) ?_
          refine gC_9_8 X h (hS 9) hi Nat.one_pos lk_X4_23 dX4_finish_82 ?_
          refine lv_aload_n X.x X.b dX4_finish_85 rfl (lv_at hl 3 rfl) ?_
          refine gC_19_8 X h (hS 19) hi hx3v lk_X4_184 dX4_finish_86 ?_
          refine lv_iconst (v := (-1)) X.x X.b dX4_finish_89 (by decide) ?_
          obtain ⟨b19, hf⟩ := wGi_s hf
          obtain ⟨g20, e21, hf⟩ := wLe_s hf
          refine bC_13 X h (hS 13) hi Nat.one_pos e21 b19 dX4_finish_90 (fun H locs h => ?_)
          exact wX4_finish_b91 hS hi X hx3v h (lv_sub hl [0, 3] rfl) hf JR
    · have hf := wT c9 hf
      refine lv_aload_n X.x X.b dX4_finish_53 rfl (lv_at hl 3 rfl) ?_
      refine lv_aload_n X.x X.b dX4_finish_54 rfl (lv_at hl 0 rfl) ?_
      refine gC_9_0 X h (hS 9) hi Nat.one_pos lk_X4_55 dX4_finish_55 ?_
      obtain ⟨g22, e23, hf⟩ := wLe_s hf
      refine pC_19_12 X h (hS 19) hi hx3v lk_X4_181 e23 dX4_finish_58 (fun H locs h => ?_)
      refine lv_goto (tgt := 105) X.x X.b dX4_finish_61 (by decide) ?_
      cases (Option.some.inj hf).trans JR
      exact ro_vret X h dX4_finish_105
  · have hf := wT c8 hf
    refine lv_aload_n X.x X.b dX4_finish_39 rfl (lv_at hl 0 rfl) ?_
    refine lv_iload_n X.x X.b dX4_finish_40 rfl (lv_at hl 1 rfl) ?_
    obtain ⟨g26, e24, hf⟩ := wBd_s hf
    refine ro_callvV (As := [.int a1]) (g1 := g26) X h (kX4_sendCarts l hS hi e24) mv_X4_sendCarts lk_X4_178 ⟨rfl, rfl⟩ ⟨(Nat.le_of_ble_eq_true rfl), (Nat.le_of_ble_eq_true rfl)⟩ (rC_9 X h (hS 9) hi Nat.one_pos) rfl hl rfl (Nat.le_of_ble_eq_true rfl) ⟨Nat.zero_le _, Nat.zero_le _⟩ dX4_finish_41 (fun H locs h => ?_)
    refine lv_goto (tgt := 105) X.x X.b dX4_finish_44 (by decide) ?_
    cases (Option.some.inj hf).trans JR
    exact ro_vret X h dX4_finish_105
set_option maxHeartbeats 4000000 in
set_option maxRecDepth 20000 in
theorem kX4_finish (l : Launch) {k : En} {S : Nat → Prop} (hS : ∀ t, S t) {i : Nat} {a1 : Int32} {a2 : Int32} (hi : i < 2) {res : Mm} {g : Mm} (hf : fX4_finish g i a1 a2 = some res) : Mt l yX4_finish cX4_finish 5 none (RmN 1 23) YC S k [.ref (k.1 + adC 9 i 0), .int a1, .int a2] g none res := by
  refine Mt.of (by decide) (Nat.le_of_ble_eq_true rfl) ?_
  intro p e s m args below meth c ls X _ h hl
  have X : Cx YC S k p s m args meth c cX4_finish 5 none RX4 := X
  have hl : lv_has ls 5 [(0, .ref (k.1 + adC 9 i 0)), (1, .int a1), (2, .int a2)] := hl
  have JR : res = res := rfl
  unfold fX4_finish at hf
  refine lv_aload_n X.x X.b dX4_finish_0 rfl (lv_at hl 0 rfl) ?_
  refine gC_9_11 X h (hS 9) hi Nat.one_pos lk_X4_34 dX4_finish_1 ?_
  refine lv_iload_n X.x X.b dX4_finish_4 rfl (lv_at hl 1 rfl) ?_
  obtain ⟨b1, hf⟩ := wGi_s hf
  refine qC_16 X h (hS 16) hi Nat.one_pos b1 dX4_finish_5 ?_
  refine lv_astore_n (lv' := [(3, .ref (k.1 + adC 19 i ((a1).toNatClampNeg))), (0, .ref (k.1 + adC 9 i 0)), (1, .int a1), (2, .int a2)]) X.x X.b dX4_finish_6 rfl hl (by decide) rfl (fun ls hl => ?_)
  refine lv_aload_n X.x X.b dX4_finish_7 rfl (lv_at hl 0 rfl) ?_
  refine lv_iload_n X.x X.b dX4_finish_8 rfl (lv_at hl 3 rfl) ?_
  obtain ⟨g4, e2, hf⟩ := wBd_s hf
  refine ro_callvV (As := [.int a2]) (g1 := g4) X h (kX9_endAct l hS hi (vin_lt b1) e2) mv_X9_endAct lk_X4_172 ⟨rfl, rfl⟩ ⟨(Nat.le_of_ble_eq_true rfl), (Nat.le_of_ble_eq_true rfl)⟩ (rC_19 X h (hS 19) hi (vin_lt b1)) rfl hl rfl (Nat.le_of_ble_eq_true rfl) ⟨Nat.zero_le _, Nat.zero_le _⟩ dX4_finish_9 (fun H locs h => ?_)
  refine lv_iload_n X.x X.b dX4_finish_12 rfl (lv_at hl 3 rfl) ?_
  obtain ⟨y6, e5, hf⟩ := wBd_s hf
  refine ro_callsI (As := [.int a2]) (g1 := g4) (x := y6) X h (kX3_truckFor l hS e5) mv_X3_truckFor lk_X4_175 ⟨rfl, rfl⟩ ⟨(Nat.le_of_ble_eq_true rfl), (Nat.le_of_ble_eq_true rfl)⟩ rfl hl rfl (Nat.le_of_ble_eq_true rfl) ⟨Nat.zero_le _, Nat.zero_le _⟩ dX4_finish_13 (fun H locs h => ?_)
  refine lv_istore (lv' := [(4, .int y6), (3, .ref (k.1 + adC 19 i ((a1).toNatClampNeg))), (0, .ref (k.1 + adC 9 i 0)), (1, .int a1), (2, .int a2)]) X.x X.b dX4_finish_16 hl (by decide) rfl (fun ls hl => ?_)
  refine lv_iload X.x X.b dX4_finish_18 (lv_at hl 0 rfl) ?_
  refine lv_if_lt (tgt := 34) X.x X.b dX4_finish_20 (by decide) (fun c7 => ?_) (fun c7 => ?_)
  · have hf := wT c7 hf
    exact wX4_finish_b34 hS hi X (vin_lt b1) h (lv_sub hl [2, 3, 4, 1] rfl) hf JR
  · have hf := wF c7 hf
    refine lv_aload_n X.x X.b dX4_finish_23 rfl (lv_at hl 2 rfl) ?_
    refine gC_9_6 X h (hS 9) hi Nat.one_pos lk_X4_17 dX4_finish_24 ?_
    refine lv_iload X.x X.b dX4_finish_27 (lv_at hl 0 rfl) ?_
    refine lv_dup2_11 X.x X.b dX4_finish_29 rfl rfl ?_
    obtain ⟨b27, hf⟩ := wGi_s hf
    refine aC_11 X h (hS 11) hi Nat.one_pos b27 dX4_finish_30 ?_
    refine lv_iconst (v := 1) X.x X.b dX4_finish_31 (by decide) ?_
    refine lv_isub X.x X.b dX4_finish_32 ?_
    obtain ⟨b28, hf⟩ := wGi_s hf
    obtain ⟨g29, e30, hf⟩ := wLe_s hf
    refine bC_11 X h (hS 11) hi Nat.one_pos e30 b28 dX4_finish_33 (fun H locs h => ?_)
    exact wX4_finish_b34 hS hi X (vin_lt b1) h (lv_sub hl [2, 3, 4, 1] rfl) hf JR
set_option maxHeartbeats 4000000 in
set_option maxRecDepth 20000 in
theorem wX4_work_b56 {k : En} {S : Nat → Prop} (hS : ∀ t, S t) {i : Nat} {a1 : Int32} (hi : i < 2) {res : Mm} (X : Cx YC S k p s m args meth c cX4_work 4 none RX4) {g : Mm} {x2v : Nat} {x3 : Int32} (hx2v : x2v < 12) {H : Heap} {locs : List Loc} {ls : Array Slot} (h : Hx YC S k s g H locs) (hl : lv_has ls 4 [(0, .ref (k.1 + adC 9 i 0)), (1, .int a1), (2, .ref (k.1 + adC 19 i x2v)), (3, .int x3)]) {r : (Mm × Int32) ⊕ (Mm)} (hf : fX4_work_b56 g i a1 x2v x3 = some r) (J1 : ∀ (g : Mm) (x3 : Int32), r = .inl (g, x3) → ∀ (H : Heap) (locs : List Loc) (ls : Array Slot), Hx YC S k s g H locs → lv_has ls 4 [(0, .ref (k.1 + adC 9 i 0)), (1, .int a1), (2, .ref (k.1 + adC 19 i x2v)), (3, .int x3)] → W p l e (RmN 2 47) s m args below meth c H locs 0 0 (Fin YC S k args s below none res) (F0 m 17 ls [])) (JR : ∀ t1, r = .inr t1 → t1 = res) :
    W p l e (RmN 2 47) s m args below meth c H locs 0 0 (Fin YC S k args s below none res) (F0 m 56 ls []) := by
  unfold fX4_work_b56 at hf
  obtain ⟨y11, e12, hf⟩ := wLe_s hf
  refine lv_iinc (v := y11) (lv' := [(3, .int y11), (0, .ref (k.1 + adC 9 i 0)), (1, .int a1), (2, .ref (k.1 + adC 19 i x2v))]) X.x X.b dX4_work_56 hl (k := 3) rfl (by rw [e12]; rfl) (by decide) rfl (fun ls hl => ?_)
  refine lv_goto (tgt := 17) X.x X.b dX4_work_59 (by decide) ?_
  exact J1 _ _ (Option.some.inj hf).symm _ _ _ h (lv_sub hl [1, 2, 3, 0] rfl)
set_option maxHeartbeats 4000000 in
set_option maxRecDepth 20000 in
theorem wX4_work_L17 {k : En} {S : Nat → Prop} (hS : ∀ t, S t) {i : Nat} {a1 : Int32} (hi : i < 2) {res : Mm} (X : Cx YC S k p s m args meth c cX4_work 4 none RX4) {x2v : Nat} (hx2v : x2v < 12) {r : Mm} (JR : r = res) :
    ∀ (fu : Nat) (g : Mm) (x3 : Int32) (H : Heap) (locs : List Loc) (ls : Array Slot), Hx YC S k s g H locs → lv_has ls 4 [(0, .ref (k.1 + adC 9 i 0)), (1, .int a1), (2, .ref (k.1 + adC 19 i x2v)), (3, .int x3)] → wLp (fun q => fX4_work_B17 q.1 i a1 x2v q.2) fu (g, x3) = some r → W p l e (RmN 2 47) s m args below meth c H locs 0 0 (Fin YC S k args s below none res) (F0 m 17 ls []) := by
  intro fu
  induction fu with
  | zero => intro g x3 H locs ls h hl hf; exact (wLp_0 hf).elim
  | succ fu ih1 =>
    intro g x3 H locs ls h hl hf
    obtain ⟨r1, hf, hr⟩ := wLp_s hf
    have J1n : ∀ (g : Mm) (x3 : Int32), r1 = .inl (g, x3) → ∀ (H : Heap) (locs : List Loc) (ls : Array Slot), Hx YC S k s g H locs → lv_has ls 4 [(0, .ref (k.1 + adC 9 i 0)), (1, .int a1), (2, .ref (k.1 + adC 19 i x2v)), (3, .int x3)] → W p l e (RmN 2 47) s m args below meth c H locs 0 0 (Fin YC S k args s below none res) (F0 m 17 ls []) := fun g x3 q H locs ls h hl => by subst q; exact ih1 _ _ _ _ _ h hl hr
    have JRn : ∀ t1, r1 = .inr t1 → t1 = res := fun t1 q => by subst q; obtain rfl := Option.some.inj hr; exact JR
    have J1 := J1n
    have JR := JRn
    clear J1n JRn
    have hf : fX4_work_B17 g i a1 x2v x3 = some r1 := hf
    unfold fX4_work_B17 at hf
    refine lv_iload_n X.x X.b dX4_work_17 rfl (lv_at hl 3 rfl) ?_
    refine lv_bipush (v := 8) X.x X.b dX4_work_18 (by decide) ?_
    refine lv_icmp_ge (tgt := 62) X.x X.b dX4_work_20 (by decide) (fun c5 => ?_) (fun c5 => ?_)
    · have hf := wT c5 hf
      obtain ⟨t6, hf, e7⟩ := wEx_s hf
      have JR := JR t6 e7
      cases (Option.some.inj hf).trans JR
      exact ro_vret X h dX4_work_62
    · have hf := wF c5 hf
      refine lv_aload_n X.x X.b dX4_work_23 rfl (lv_at hl 2 rfl) ?_
      refine lv_iload_n X.x X.b dX4_work_24 rfl (lv_at hl 3 rfl) ?_
      obtain ⟨y9, e8, hf⟩ := wBd_s hf
      refine ro_callvI (As := [.int x3]) (g1 := g) (x := y9) X h (kX9_isUnder l hS hi hx2v e8) mv_X9_isUnder lk_X4_162 ⟨rfl, rfl⟩ ⟨(Nat.le_of_ble_eq_true rfl), (Nat.le_of_ble_eq_true rfl)⟩ (rC_19 X h (hS 19) hi hx2v) rfl hl rfl (Nat.le_of_ble_eq_true rfl) ⟨Nat.zero_le _, Nat.zero_le _⟩ dX4_work_25 (fun H locs h => ?_)
      refine lv_if_eq (tgt := 56) X.x X.b dX4_work_28 (by decide) (fun c10 => ?_) (fun c10 => ?_)
      · have hf := wT c10 hf
        exact wX4_work_b56 hS hi X hx2v h (lv_sub hl [0, 1, 2, 3] rfl) hf J1 JR
      · have hf := wF c10 hf
        refine lv_aload_n X.x X.b dX4_work_31 rfl (lv_at hl 2 rfl) ?_
        refine gC_19_13 X h (hS 19) hi hx2v lk_X4_166 dX4_work_32 ?_
        refine lv_iload_n X.x X.b dX4_work_35 rfl (lv_at hl 3 rfl) ?_
        refine lv_dup2_11 X.x X.b dX4_work_36 rfl rfl ?_
        obtain ⟨b13, hf⟩ := wGi_s hf
        refine aC_20 X h (hS 20) hi hx2v b13 dX4_work_37 ?_
        refine lv_iconst (v := 1) X.x X.b dX4_work_38 (by decide) ?_
        refine lv_isub X.x X.b dX4_work_39 ?_
        obtain ⟨b14, hf⟩ := wGi_s hf
        obtain ⟨g15, e16, hf⟩ := wLe_s hf
        refine bC_20 X h (hS 20) hi hx2v e16 b14 dX4_work_40 (fun H locs h => ?_)
        refine lv_aload_n X.x X.b dX4_work_41 rfl (lv_at hl 2 rfl) ?_
        refine gC_19_13 X h (hS 19) hi hx2v lk_X4_166 dX4_work_42 ?_
        refine lv_iload_n X.x X.b dX4_work_45 rfl (lv_at hl 3 rfl) ?_
        obtain ⟨b17, hf⟩ := wGi_s hf
        refine aC_20 X h (hS 20) hi hx2v b17 dX4_work_46 ?_
        refine lv_if_ne (tgt := 56) X.x X.b dX4_work_47 (by decide) (fun c18 => ?_) (fun c18 => ?_)
        · have hf := wF c18 hf
          exact wX4_work_b56 hS hi X hx2v h (lv_sub hl [0, 1, 2, 3] rfl) hf J1 JR
        · have hf := wT c18 hf
          refine lv_aload_n X.x X.b dX4_work_50 rfl (lv_at hl 0 rfl) ?_
          refine lv_iload_n X.x X.b dX4_work_51 rfl (lv_at hl 1 rfl) ?_
          refine lv_iload_n X.x X.b dX4_work_52 rfl (lv_at hl 3 rfl) ?_
          obtain ⟨g21, e19, hf⟩ := wBd_s hf
          refine ro_callvV (As := [.int a1, .int x3]) (g1 := g21) X h (kX4_finish l hS hi e19) mv_X4_finish lk_X4_169 ⟨rfl, rfl⟩ ⟨(Nat.le_of_ble_eq_true rfl), (Nat.le_of_ble_eq_true rfl)⟩ (rC_9 X h (hS 9) hi Nat.one_pos) rfl hl rfl (Nat.le_of_ble_eq_true rfl) ⟨Nat.zero_le _, Nat.zero_le _⟩ dX4_work_53 (fun H locs h => ?_)
          exact wX4_work_b56 hS hi X hx2v h (lv_sub hl [0, 1, 2, 3] rfl) hf J1 JR
set_option maxHeartbeats 4000000 in
set_option maxRecDepth 20000 in
theorem kX4_work (l : Launch) {k : En} {S : Nat → Prop} (hS : ∀ t, S t) {i : Nat} {a1 : Int32} (hi : i < 2) {res : Mm} {g : Mm} (hf : fX4_work g i a1 = some res) : Mt l yX4_work cX4_work 4 none (RmN 2 47) YC S k [.ref (k.1 + adC 9 i 0), .int a1] g none res := by
  refine Mt.of (by decide) (Nat.le_of_ble_eq_true rfl) ?_
  intro p e s m args below meth c ls X _ h hl
  have X : Cx YC S k p s m args meth c cX4_work 4 none RX4 := X
  have hl : lv_has ls 4 [(0, .ref (k.1 + adC 9 i 0)), (1, .int a1)] := hl
  have JR : res = res := rfl
  unfold fX4_work at hf
  refine lv_aload_n X.x X.b dX4_work_0 rfl (lv_at hl 0 rfl) ?_
  refine gC_9_11 X h (hS 9) hi Nat.one_pos lk_X4_34 dX4_work_1 ?_
  refine lv_iload_n X.x X.b dX4_work_4 rfl (lv_at hl 1 rfl) ?_
  obtain ⟨b1, hf⟩ := wGi_s hf
  refine qC_16 X h (hS 16) hi Nat.one_pos b1 dX4_work_5 ?_
  refine lv_astore_n (lv' := [(2, .ref (k.1 + adC 19 i ((a1).toNatClampNeg))), (0, .ref (k.1 + adC 9 i 0)), (1, .int a1)]) X.x X.b dX4_work_6 rfl hl (by decide) rfl (fun ls hl => ?_)
  refine lv_aload_n X.x X.b dX4_work_7 rfl (lv_at hl 0 rfl) ?_
  refine gC_19_10 X h (hS 19) hi (vin_lt b1) lk_X4_159 dX4_work_8 ?_
  refine lv_if_ne (tgt := 15) X.x X.b dX4_work_11 (by decide) (fun c2 => ?_) (fun c2 => ?_)
  · have hf := wF c2 hf
    refine lv_iconst (v := 0) X.x X.b dX4_work_15 (by decide) ?_
    obtain ⟨y3, e4, hf⟩ := wLe_s hf
    refine lv_nmi e4 ?_
    refine lv_istore_n (lv' := [(3, .int y3), (2, .ref (k.1 + adC 19 i ((a1).toNatClampNeg))), (0, .ref (k.1 + adC 9 i 0)), (1, .int a1)]) X.x X.b dX4_work_16 rfl hl (by decide) rfl (fun ls hl => ?_)
    exact wX4_work_L17 hS hi X (vin_lt b1) JR _ _ _ _ _ _ h (lv_sub hl [2, 3, 1, 0] rfl) hf
  · have hf := wT c2 hf
    cases (Option.some.inj hf).trans JR
    exact ro_vret X h dX4_work_14
set_option maxHeartbeats 4000000 in
set_option maxRecDepth 20000 in
theorem wX4_carry_b48 {k : En} {S : Nat → Prop} (hS : ∀ t, S t) {i : Nat} {i1 : Nat} {v1 : Nat} (hi : i < 2) (hi1 : i1 < 2) (hv1 : v1 < 16) {res : Mm} (X : Cx YC S k p s m args meth c cX4_carry 4 none RX4) {g : Mm} {x2v : Nat} {z0 : Int32} (hx2v : x2v < 12) {H : Heap} {locs : List Loc} {ls : Array Slot} (h : Hx YC S k s g H locs) (hl : lv_has ls 4 [(0, .ref (k.1 + adC 9 i 0)), (1, .ref (k.1 + adC 22 i1 v1)), (2, .ref (k.1 + adC 19 i x2v))]) {r : Mm} (hf : fX4_carry_b48 g i i1 v1 x2v z0 = some r) (JR : r = res) :
    W p l e (RmN 1 21) s m args below meth c H locs 0 0 (Fin YC S k args s below none res) (F0 m 48 ls [.int z0]) := by
  unfold fX4_carry_b48 at hf
  refine lv_istore_n (lv' := [(3, .int z0), (0, .ref (k.1 + adC 9 i 0)), (1, .ref (k.1 + adC 22 i1 v1)), (2, .ref (k.1 + adC 19 i x2v))]) X.x X.b dX4_carry_48 rfl hl (by decide) rfl (fun ls hl => ?_)
  refine lv_iload_n X.x X.b dX4_carry_49 rfl (lv_at hl 0 rfl) ?_
  refine lv_if_ne (tgt := 62) X.x X.b dX4_carry_50 (by decide) (fun c4 => ?_) (fun c4 => ?_)
  · have hf := wF c4 hf
    refine lv_aload_n X.x X.b dX4_carry_62 rfl (lv_at hl 2 rfl) ?_
    refine lv_iconst (v := 3) X.x X.b dX4_carry_63 (by decide) ?_
    obtain ⟨g5, e6, hf⟩ := wLe_s hf
    refine pC_22_4 X h (hS 22) hi1 hv1 lk_X4_114 e6 dX4_carry_64 (fun H locs h => ?_)
    refine lv_goto (tgt := 106) X.x X.b dX4_carry_67 (by decide) ?_
    cases (Option.some.inj hf).trans JR
    exact ro_vret X h dX4_carry_106
  · have hf := wT c4 hf
    refine lv_aload_n X.x X.b dX4_carry_53 rfl (lv_at hl 3 rfl) ?_
    refine gC_19_6 X h (hS 19) hi hx2v lk_X4_120 dX4_carry_54 ?_
    refine lv_bipush (v := 8) X.x X.b dX4_carry_57 (by decide) ?_
    refine lv_icmp_ne (tgt := 70) X.x X.b dX4_carry_59 (by decide) (fun c7 => ?_) (fun c7 => ?_)
    · have hf := wF c7 hf
      refine lv_aload_n X.x X.b dX4_carry_70 rfl (lv_at hl 2 rfl) ?_
      refine gC_22_4 X h (hS 22) hi1 hv1 lk_X4_114 dX4_carry_71 ?_
      refine lv_iconst (v := 1) X.x X.b dX4_carry_74 (by decide) ?_
      refine lv_icmp_ne (tgt := 106) X.x X.b dX4_carry_75 (by decide) (fun c8 => ?_) (fun c8 => ?_)
      · have hf := wF c8 hf
        cases (Option.some.inj hf).trans JR
        exact ro_vret X h dX4_carry_106
      · have hf := wT c8 hf
        refine lv_aload_n X.x X.b dX4_carry_78 rfl (lv_at hl 1 rfl) ?_
        refine gC_9_0 X h (hS 9) hi Nat.one_pos lk_X4_55 dX4_carry_79 ?_
        refine lv_aload_n X.x X.b dX4_carry_82 rfl (lv_at hl 2 rfl) ?_
        refine gC_22_5 X h (hS 22) hi1 hv1 lk_X4_196 dX4_carry_83 ?_
        refine lv_icmp_lt (tgt := 106) X.x X.b dX4_carry_86 (by decide) (fun c9 => ?_) (fun c9 => ?_)
        · have hf := wT c9 hf
          cases (Option.some.inj hf).trans JR
          exact ro_vret X h dX4_carry_106
        · have hf := wF c9 hf
          refine lv_aload_n X.x X.b dX4_carry_89 rfl (lv_at hl 2 rfl) ?_
          refine lv_aload_n X.x X.b dX4_carry_90 rfl (lv_at hl 3 rfl) ?_
          refine lv_iconst (v := 5) X.x X.b dX4_carry_91 (by decide) ?_
          obtain ⟨y11, e10, hf⟩ := wBd_s hf
          refine ro_callvI (As := [.int (5 : Int32)]) (g1 := g) (x := y11) X h (kX9_isDone l hS hi hx2v e10) mv_X9_isDone lk_X4_201 ⟨rfl, rfl⟩ ⟨(Nat.le_of_ble_eq_true rfl), (Nat.le_of_ble_eq_true rfl)⟩ (rC_19 X h (hS 19) hi hx2v) rfl hl rfl (Nat.le_of_ble_eq_true rfl) ⟨Nat.zero_le _, Nat.zero_le _⟩ dX4_carry_92 (fun H locs h => ?_)
          refine lv_if_eq (tgt := 102) X.x X.b dX4_carry_95 (by decide) (fun c12 => ?_) (fun c12 => ?_)
          · have hf := wT c12 hf
            refine lv_iconst (v := 2) X.x X.b dX4_carry_102 (by decide) ?_
            obtain ⟨g13, e14, hf⟩ := wLe_s hf
            refine pC_22_4 X h (hS 22) hi1 hv1 lk_X4_114 e14 dX4_carry_103 (fun H locs h => ?_)
            cases (Option.some.inj hf).trans JR
            exact ro_vret X h dX4_carry_106
          · have hf := wF c12 hf
            refine lv_iconst (v := 3) X.x X.b dX4_carry_98 (by decide) ?_
            refine lv_goto (tgt := 103) X.x X.b dX4_carry_99 (by decide) ?_
            obtain ⟨g15, e16, hf⟩ := wLe_s hf
            refine pC_22_4 X h (hS 22) hi1 hv1 lk_X4_114 e16 dX4_carry_103 (fun H locs h => ?_)
            cases (Option.some.inj hf).trans JR
            exact ro_vret X h dX4_carry_106
    · have hf := wT c7 hf
      refine lv_aload_n X.x X.b dX4_carry_62 rfl (lv_at hl 2 rfl) ?_
      refine lv_iconst (v := 3) X.x X.b dX4_carry_63 (by decide) ?_
      obtain ⟨g17, e18, hf⟩ := wLe_s hf
      refine pC_22_4 X h (hS 22) hi1 hv1 lk_X4_114 e18 dX4_carry_64 (fun H locs h => ?_)
      refine lv_goto (tgt := 106) X.x X.b dX4_carry_67 (by decide) ?_
      cases (Option.some.inj hf).trans JR
      exact ro_vret X h dX4_carry_106
set_option maxHeartbeats 4000000 in
set_option maxRecDepth 20000 in
theorem wX4_carry_b47 {k : En} {S : Nat → Prop} (hS : ∀ t, S t) {i : Nat} {i1 : Nat} {v1 : Nat} (hi : i < 2) (hi1 : i1 < 2) (hv1 : v1 < 16) {res : Mm} (X : Cx YC S k p s m args meth c cX4_carry 4 none RX4) {g : Mm} {x2v : Nat} (hx2v : x2v < 12) {H : Heap} {locs : List Loc} {ls : Array Slot} (h : Hx YC S k s g H locs) (hl : lv_has ls 4 [(0, .ref (k.1 + adC 9 i 0)), (1, .ref (k.1 + adC 22 i1 v1)), (2, .ref (k.1 + adC 19 i x2v))]) {r : Mm} (hf : fX4_carry_b47 g i i1 v1 x2v = some r) (JR : r = res) :
    W p l e (RmN 1 21) s m args below meth c H locs 0 0 (Fin YC S k args s below none res) (F0 m 47 ls []) := by
  unfold fX4_carry_b47 at hf
  refine lv_iconst (v := 0) X.x X.b dX4_carry_47 (by decide) ?_
  exact wX4_carry_b48 hS hi hi1 hv1 X hx2v h (lv_sub hl [0, 1, 2] rfl) hf JR
set_option maxHeartbeats 4000000 in
set_option maxRecDepth 20000 in
theorem kX4_carry (l : Launch) {k : En} {S : Nat → Prop} (hS : ∀ t, S t) {i : Nat} {i1 : Nat} {v1 : Nat} (hi : i < 2) (hi1 : i1 < 2) (hv1 : v1 < 16) {res : Mm} {g : Mm} (hf : fX4_carry g i i1 v1 = some res) : Mt l yX4_carry cX4_carry 4 none (RmN 1 21) YC S k [.ref (k.1 + adC 9 i 0), .ref (k.1 + adC 22 i1 v1)] g none res := by
  refine Mt.of (by decide) (Nat.le_of_ble_eq_true rfl) ?_
  intro p e s m args below meth c ls X _ h hl
  have X : Cx YC S k p s m args meth c cX4_carry 4 none RX4 := X
  have hl : lv_has ls 4 [(0, .ref (k.1 + adC 9 i 0)), (1, .ref (k.1 + adC 22 i1 v1))] := hl
  have JR : res = res := rfl
  unfold fX4_carry at hf
  refine lv_aload_n X.x X.b dX4_carry_0 rfl (lv_at hl 1 rfl) ?_
  refine gC_22_4 X h (hS 22) hi1 hv1 lk_X4_114 dX4_carry_1 ?_
  refine lv_iconst (v := 2) X.x X.b dX4_carry_4 (by decide) ?_
  refine lv_icmp_lt (tgt := 9) X.x X.b dX4_carry_5 (by decide) (fun c1 => ?_) (fun c1 => ?_)
  · have hf := wT c1 hf
    refine lv_aload_n X.x X.b dX4_carry_9 rfl (lv_at hl 0 rfl) ?_
    refine gC_9_11 X h (hS 9) hi Nat.one_pos lk_X4_34 dX4_carry_10 ?_
    refine lv_aload_n X.x X.b dX4_carry_13 rfl (lv_at hl 1 rfl) ?_
    refine gC_22_1 X h (hS 22) hi1 hv1 lk_X4_198 dX4_carry_14 ?_
    obtain ⟨b2, hf⟩ := wGi_s hf
    refine qC_16 X h (hS 16) hi Nat.one_pos b2 dX4_carry_17 ?_
    refine lv_astore_n (lv' := [(2, .ref (k.1 + adC 19 i ((g 22 i1 v1 1).toNatClampNeg))), (0, .ref (k.1 + adC 9 i 0)), (1, .ref (k.1 + adC 22 i1 v1))]) X.x X.b dX4_carry_18 rfl hl (by decide) rfl (fun ls hl => ?_)
    refine lv_aload_n X.x X.b dX4_carry_19 rfl (lv_at hl 2 rfl) ?_
    refine gC_22_4 X h (hS 22) hi1 hv1 lk_X4_114 dX4_carry_20 ?_
    refine lv_if_ne (tgt := 47) X.x X.b dX4_carry_23 (by decide) (fun c3 => ?_) (fun c3 => ?_)
    · have hf := wF c3 hf
      exact wX4_carry_b47 hS hi hi1 hv1 X (vin_lt b2) h (lv_sub hl [1, 2, 0] rfl) hf JR
    · have hf := wT c3 hf
      refine lv_aload_n X.x X.b dX4_carry_26 rfl (lv_at hl 1 rfl) ?_
      refine gC_9_11 X h (hS 9) hi Nat.one_pos lk_X4_34 dX4_carry_27 ?_
      refine lv_aload_n X.x X.b dX4_carry_30 rfl (lv_at hl 2 rfl) ?_
      refine gC_22_0 X h (hS 22) hi1 hv1 lk_X4_190 dX4_carry_31 ?_
      obtain ⟨b19, hf⟩ := wGi_s hf
      refine qC_16 X h (hS 16) hi Nat.one_pos b19 dX4_carry_34 ?_
      refine gC_19_6 X h (hS 19) hi (vin_lt b19) lk_X4_120 dX4_carry_35 ?_
      refine lv_bipush (v := 8) X.x X.b dX4_carry_38 (by decide) ?_
      refine lv_icmp_ne (tgt := 47) X.x X.b dX4_carry_40 (by decide) (fun c20 => ?_) (fun c20 => ?_)
      · have hf := wF c20 hf
        exact wX4_carry_b47 hS hi hi1 hv1 X (vin_lt b2) h (lv_sub hl [1, 2, 0] rfl) hf JR
      · have hf := wT c20 hf
        refine lv_iconst (v := 1) X.x X.b dX4_carry_43 (by decide) ?_
        refine lv_goto (tgt := 48) X.x X.b dX4_carry_44 (by decide) ?_
        exact wX4_carry_b48 hS hi hi1 hv1 X (vin_lt b2) h (lv_sub hl [1, 2, 0] rfl) hf JR
  · have hf := wF c1 hf
    cases (Option.some.inj hf).trans JR
    exact ro_vret X h dX4_carry_8
set_option maxHeartbeats 4000000 in
set_option maxRecDepth 20000 in
theorem kX4_isNothing (l : Launch) {k : En} {S : Nat → Prop} (hS : ∀ t, S t) {g0 : Mm} {i : Nat} {i1 : Nat} {v1 : Nat} {a2 : Int32} (hi : i < 2) (hi1 : i1 < 2) (hv1 : v1 < 12) {res : Int32} (hf : fX4_isNothing g0 i i1 v1 a2 = some res) : Mt l yX4_isNothing cX4_isNothing 3 (some .boolean) (RmN 1 21) YC S k [.ref (k.1 + adC 9 i 0), .ref (k.1 + adC 19 i1 v1), .int a2] g0 (some (.int res)) g0 := by
  refine Mt.of (by decide) (Nat.le_of_ble_eq_true rfl) ?_
  intro p e s m args below meth c ls X _ h hl
  have X : Cx YC S k p s m args meth c cX4_isNothing 3 (some .boolean) RX4 := X
  have hl : lv_has ls 3 [(0, .ref (k.1 + adC 9 i 0)), (1, .ref (k.1 + adC 19 i1 v1)), (2, .int a2)] := hl
  have JR : res = res := rfl
  unfold fX4_isNothing at hf
  refine lv_aload_n X.x X.b dX4_isNothing_0 rfl (lv_at hl 1 rfl) ?_
  refine gC_19_0 X h (hS 19) hi1 hv1 lk_X4_94 dX4_isNothing_1 ?_
  refine lv_iload_n X.x X.b dX4_isNothing_4 rfl (lv_at hl 2 rfl) ?_
  obtain ⟨y2, e1, hf⟩ := wBd_s hf
  refine ro_callsI (As := [.int (g0 19 i1 v1 0), .int a2]) (g1 := g0) (x := y2) X h (kX3_lasts l hS e1) mv_X3_lasts lk_X4_222 ⟨rfl, rfl⟩ ⟨(Nat.le_of_ble_eq_true rfl), (Nat.le_of_ble_eq_true rfl)⟩ rfl hl rfl (Nat.le_of_ble_eq_true rfl) ⟨Nat.zero_le _, Nat.zero_le _⟩ dX4_isNothing_5 (fun H locs h => ?_)
  refine lv_if_eq (tgt := 27) X.x X.b dX4_isNothing_8 (by decide) (fun c3 => ?_) (fun c3 => ?_)
  · have hf := wT c3 hf
    refine lv_iconst (v := 1) X.x X.b dX4_isNothing_27 (by decide) ?_
    refine lv_goto (tgt := 32) X.x X.b dX4_isNothing_28 (by decide) ?_
    cases (Option.some.inj hf).trans JR
    exact ro_zret X h (Or.inr rfl) dX4_isNothing_32
  · have hf := wF c3 hf
    refine lv_iload_n X.x X.b dX4_isNothing_11 rfl (lv_at hl 2 rfl) ?_
    refine lv_bipush (v := 6) X.x X.b dX4_isNothing_12 (by decide) ?_
    refine lv_icmp_ne (tgt := 31) X.x X.b dX4_isNothing_14 (by decide) (fun c4 => ?_) (fun c4 => ?_)
    · have hf := wF c4 hf
      refine lv_iconst (v := 0) X.x X.b dX4_isNothing_31 (by decide) ?_
      cases (Option.some.inj hf).trans JR
      exact ro_zret X h (Or.inl rfl) dX4_isNothing_32
    · have hf := wT c4 hf
      refine lv_aload_n X.x X.b dX4_isNothing_17 rfl (lv_at hl 0 rfl) ?_
      refine gC_9_5 X h (hS 9) hi Nat.one_pos lk_X4_11 dX4_isNothing_18 ?_
      refine lv_bipush (v := 6) X.x X.b dX4_isNothing_21 (by decide) ?_
      obtain ⟨b5, hf⟩ := wGi_s hf
      refine aC_10 X h (hS 10) hi Nat.one_pos b5 dX4_isNothing_23 ?_
      refine lv_if_ne (tgt := 31) X.x X.b dX4_isNothing_24 (by decide) (fun c6 => ?_) (fun c6 => ?_)
      · have hf := wF c6 hf
        refine lv_iconst (v := 0) X.x X.b dX4_isNothing_31 (by decide) ?_
        cases (Option.some.inj hf).trans JR
        exact ro_zret X h (Or.inl rfl) dX4_isNothing_32
      · have hf := wT c6 hf
        refine lv_iconst (v := 1) X.x X.b dX4_isNothing_27 (by decide) ?_
        refine lv_goto (tgt := 32) X.x X.b dX4_isNothing_28 (by decide) ?_
        cases (Option.some.inj hf).trans JR
        exact ro_zret X h (Or.inr rfl) dX4_isNothing_32
set_option maxHeartbeats 4000000 in
set_option maxRecDepth 20000 in
theorem wX4_openFeeds_b41 {k : En} {S : Nat → Prop} (hS : ∀ t, S t) {g0 : Mm} {i : Nat} {a1 : Int32} (hi : i < 2) {res : Int32} (X : Cx YC S k p s m args meth c cX4_openFeeds 4 (some .int) RX4) {x2 : Int32} {x3 : Int32} {H : Heap} {locs : List Loc} {ls : Array Slot} (h : Hx YC S k s g0 H locs) (hl : lv_has ls 4 [(0, .ref (k.1 + adC 9 i 0)), (1, .int a1), (2, .int x2), (3, .int x3)]) {r : (Int32 × Int32) ⊕ (Int32)} (hf : fX4_openFeeds_b41 g0 i a1 x2 x3 = some r) (J1 : ∀ (x2 : Int32) (x3 : Int32), r = .inl (x2, x3) → ∀ (H : Heap) (locs : List Loc) (ls : Array Slot), Hx YC S k s g0 H locs → lv_has ls 4 [(0, .ref (k.1 + adC 9 i 0)), (1, .int a1), (2, .int x2), (3, .int x3)] → W p l e (RmN 0 0) s m args below meth c H locs 0 0 (Fin YC S k args s below (some (.int res)) g0) (F0 m 4 ls [])) (JR : ∀ t1, r = .inr t1 → t1 = res) :
    W p l e (RmN 0 0) s m args below meth c H locs 0 0 (Fin YC S k args s below (some (.int res)) g0) (F0 m 41 ls []) := by
  unfold fX4_openFeeds_b41 at hf
  obtain ⟨y10, e11, hf⟩ := wLe_s hf
  refine lv_iinc (v := y10) (lv' := [(3, .int y10), (0, .ref (k.1 + adC 9 i 0)), (1, .int a1), (2, .int x2)]) X.x X.b dX4_openFeeds_41 hl (k := 3) rfl (by rw [e11]; rfl) (by decide) rfl (fun ls hl => ?_)
  refine lv_goto (tgt := 4) X.x X.b dX4_openFeeds_44 (by decide) ?_
  exact J1 _ _ (Option.some.inj hf).symm _ _ _ h (lv_sub hl [1, 2, 3, 0] rfl)
set_option maxHeartbeats 4000000 in
set_option maxRecDepth 20000 in
theorem wX4_openFeeds_L4 {k : En} {S : Nat → Prop} (hS : ∀ t, S t) {g0 : Mm} {i : Nat} {a1 : Int32} (hi : i < 2) {res : Int32} (X : Cx YC S k p s m args meth c cX4_openFeeds 4 (some .int) RX4) {r : Int32} (JR : r = res) :
    ∀ (fu : Nat) (x2 : Int32) (x3 : Int32) (H : Heap) (locs : List Loc) (ls : Array Slot), Hx YC S k s g0 H locs → lv_has ls 4 [(0, .ref (k.1 + adC 9 i 0)), (1, .int a1), (2, .int x2), (3, .int x3)] → wLp (fun q => fX4_openFeeds_B4 g0 i a1 q.1 q.2) fu (x2, x3) = some r → W p l e (RmN 0 0) s m args below meth c H locs 0 0 (Fin YC S k args s below (some (.int res)) g0) (F0 m 4 ls []) := by
  intro fu
  induction fu with
  | zero => intro x2 x3 H locs ls h hl hf; exact (wLp_0 hf).elim
  | succ fu ih1 =>
    intro x2 x3 H locs ls h hl hf
    obtain ⟨r1, hf, hr⟩ := wLp_s hf
    have J1n : ∀ (x2 : Int32) (x3 : Int32), r1 = .inl (x2, x3) → ∀ (H : Heap) (locs : List Loc) (ls : Array Slot), Hx YC S k s g0 H locs → lv_has ls 4 [(0, .ref (k.1 + adC 9 i 0)), (1, .int a1), (2, .int x2), (3, .int x3)] → W p l e (RmN 0 0) s m args below meth c H locs 0 0 (Fin YC S k args s below (some (.int res)) g0) (F0 m 4 ls []) := fun x2 x3 q H locs ls h hl => by subst q; exact ih1 _ _ _ _ _ h hl hr
    have JRn : ∀ t1, r1 = .inr t1 → t1 = res := fun t1 q => by subst q; obtain rfl := Option.some.inj hr; exact JR
    have J1 := J1n
    have JR := JRn
    clear J1n JRn
    have hf : fX4_openFeeds_B4 g0 i a1 x2 x3 = some r1 := hf
    unfold fX4_openFeeds_B4 at hf
    refine lv_iload_n X.x X.b dX4_openFeeds_4 rfl (lv_at hl 3 rfl) ?_
    refine lv_aload_n X.x X.b dX4_openFeeds_5 rfl (lv_at hl 0 rfl) ?_
    refine gC_9_3 X h (hS 9) hi Nat.one_pos lk_X4_65 dX4_openFeeds_6 ?_
    refine lv_icmp_ge (tgt := 47) X.x X.b dX4_openFeeds_9 (by decide) (fun c5 => ?_) (fun c5 => ?_)
    · have hf := wT c5 hf
      obtain ⟨t6, hf, e7⟩ := wEx_s hf
      have JR := JR t6 e7
      refine lv_iload_n X.x X.b dX4_openFeeds_47 rfl (lv_at hl 2 rfl) ?_
      cases (Option.some.inj hf).trans JR
      exact ro_iret X h dX4_openFeeds_48
    · have hf := wF c5 hf
      refine lv_aload_n X.x X.b dX4_openFeeds_12 rfl (lv_at hl 0 rfl) ?_
      refine gC_9_12 X h (hS 9) hi Nat.one_pos lk_X4_40 dX4_openFeeds_13 ?_
      refine lv_iload_n X.x X.b dX4_openFeeds_16 rfl (lv_at hl 3 rfl) ?_
      obtain ⟨b8, hf⟩ := wGi_s hf
      refine qC_17 X h (hS 17) hi Nat.one_pos b8 dX4_openFeeds_17 ?_
      refine gC_22_1 X h (hS 22) hi (vin_lt b8) lk_X4_198 dX4_openFeeds_18 ?_
      refine lv_iload_n X.x X.b dX4_openFeeds_21 rfl (lv_at hl 1 rfl) ?_
      refine lv_icmp_ne (tgt := 41) X.x X.b dX4_openFeeds_22 (by decide) (fun c9 => ?_) (fun c9 => ?_)
      · have hf := wF c9 hf
        exact wX4_openFeeds_b41 hS hi X h (lv_sub hl [0, 1, 2, 3] rfl) hf J1 JR
      · have hf := wT c9 hf
        refine lv_aload_n X.x X.b dX4_openFeeds_25 rfl (lv_at hl 0 rfl) ?_
        refine gC_9_12 X h (hS 9) hi Nat.one_pos lk_X4_40 dX4_openFeeds_26 ?_
        refine lv_iload_n X.x X.b dX4_openFeeds_29 rfl (lv_at hl 3 rfl) ?_
        obtain ⟨b12, hf⟩ := wGi_s hf
        refine qC_17 X h (hS 17) hi Nat.one_pos b12 dX4_openFeeds_30 ?_
        refine gC_22_4 X h (hS 22) hi (vin_lt b12) lk_X4_114 dX4_openFeeds_31 ?_
        refine lv_iconst (v := 2) X.x X.b dX4_openFeeds_34 (by decide) ?_
        refine lv_icmp_ge (tgt := 41) X.x X.b dX4_openFeeds_35 (by decide) (fun c13 => ?_) (fun c13 => ?_)
        · have hf := wT c13 hf
          exact wX4_openFeeds_b41 hS hi X h (lv_sub hl [0, 1, 2, 3] rfl) hf J1 JR
        · have hf := wF c13 hf
          obtain ⟨y14, e15, hf⟩ := wLe_s hf
          refine lv_iinc (v := y14) (lv' := [(2, .int y14), (0, .ref (k.1 + adC 9 i 0)), (1, .int a1), (3, .int x3)]) X.x X.b dX4_openFeeds_38 hl (k := 2) rfl (by rw [e15]; rfl) (by decide) rfl (fun ls hl => ?_)
          exact wX4_openFeeds_b41 hS hi X h (lv_sub hl [1, 2, 0, 3] rfl) hf J1 JR
set_option maxHeartbeats 4000000 in
set_option maxRecDepth 20000 in
theorem kX4_openFeeds (l : Launch) {k : En} {S : Nat → Prop} (hS : ∀ t, S t) {g0 : Mm} {i : Nat} {a1 : Int32} (hi : i < 2) {res : Int32} (hf : fX4_openFeeds g0 i a1 = some res) : Mt l yX4_openFeeds cX4_openFeeds 4 (some .int) (RmN 0 0) YC S k [.ref (k.1 + adC 9 i 0), .int a1] g0 (some (.int res)) g0 := by
  refine Mt.of (by decide) (Nat.le_of_ble_eq_true rfl) ?_
  intro p e s m args below meth c ls X _ h hl
  have X : Cx YC S k p s m args meth c cX4_openFeeds 4 (some .int) RX4 := X
  have hl : lv_has ls 4 [(0, .ref (k.1 + adC 9 i 0)), (1, .int a1)] := hl
  have JR : res = res := rfl
  unfold fX4_openFeeds at hf
  refine lv_iconst (v := 0) X.x X.b dX4_openFeeds_0 (by decide) ?_
  obtain ⟨y1, e2, hf⟩ := wLe_s hf
  refine lv_nmi e2 ?_
  refine lv_istore_n (lv' := [(2, .int y1), (0, .ref (k.1 + adC 9 i 0)), (1, .int a1)]) X.x X.b dX4_openFeeds_1 rfl hl (by decide) rfl (fun ls hl => ?_)
  refine lv_iconst (v := 0) X.x X.b dX4_openFeeds_2 (by decide) ?_
  obtain ⟨y3, e4, hf⟩ := wLe_s hf
  refine lv_nmi e4 ?_
  refine lv_istore_n (lv' := [(3, .int y3), (2, .int y1), (0, .ref (k.1 + adC 9 i 0)), (1, .int a1)]) X.x X.b dX4_openFeeds_3 rfl hl (by decide) rfl (fun ls hl => ?_)
  exact wX4_openFeeds_L4 hS hi X JR _ _ _ _ _ _ h (lv_sub hl [2, 3, 1, 0] rfl) hf
set_option maxHeartbeats 4000000 in
set_option maxRecDepth 20000 in
theorem wX4_learn_b25 {k : En} {S : Nat → Prop} (hS : ∀ t, S t) {i : Nat} {a1 : Int32} {a2 : Int32} (hi : i < 2) {res : Mm} (X : Cx YC S k p s m args meth c cX4_learn 4 none RX4) {g : Mm} {x3v : Nat} {z1 : Int32} {z2 : Int32} (hx3v : x3v < 12) {H : Heap} {locs : List Loc} {ls : Array Slot} (h : Hx YC S k s g H locs) (hl : lv_has ls 4 [(0, .ref (k.1 + adC 9 i 0)), (1, .int a1), (2, .int a2), (3, .ref (k.1 + adC 19 i x3v))]) {r : Mm} (hf : fX4_learn_b25 g i a1 a2 x3v z1 z2 = some r) (JR : r = res) :
    W p l e (RmN 1 24) s m args below meth c H locs 0 0 (Fin YC S k args s below none res) (F0 m 25 ls [.int z2, .int z1, .ref (k.1 + adC 18 i 0)]) := by
  unfold fX4_learn_b25 at hf
  obtain ⟨b3, hf⟩ := wGi_s hf
  obtain ⟨g4, e5, hf⟩ := wLe_s hf
  refine bC_18 X h (hS 18) hi Nat.one_pos e5 b3 dX4_learn_25 (fun H locs h => ?_)
  refine lv_aload_n X.x X.b dX4_learn_26 rfl (lv_at hl 0 rfl) ?_
  refine gC_9_13 X h (hS 9) hi Nat.one_pos lk_X4_46 dX4_learn_27 ?_
  refine lv_iconst (v := 1) X.x X.b dX4_learn_30 (by decide) ?_
  refine lv_iconst (v := 0) X.x X.b dX4_learn_31 (by decide) ?_
  refine lv_aload_n X.x X.b dX4_learn_32 rfl (lv_at hl 0 rfl) ?_
  refine gC_9_0 X h (hS 9) hi Nat.one_pos lk_X4_55 dX4_learn_33 ?_
  refine lv_aload_n X.x X.b dX4_learn_36 rfl (lv_at hl 3 rfl) ?_
  refine gC_19_2 X h (hS 19) hi hx3v lk_X4_228 dX4_learn_37 ?_
  refine lv_isub X.x X.b dX4_learn_40 ?_
  refine ro_max X hl lk_X4_247 mx_f (Nat.le_of_ble_eq_true rfl) (Nat.le_of_ble_eq_true rfl) ⟨Nat.zero_le _, Nat.zero_le _⟩ dX4_learn_41 ?_
  obtain ⟨b6, hf⟩ := wGi_s hf
  obtain ⟨g7, e8, hf⟩ := wLe_s hf
  refine bC_18 X h (hS 18) hi Nat.one_pos e8 b6 dX4_learn_44 (fun H locs h => ?_)
  refine lv_aload_n X.x X.b dX4_learn_45 rfl (lv_at hl 0 rfl) ?_
  refine gC_9_13 X h (hS 9) hi Nat.one_pos lk_X4_46 dX4_learn_46 ?_
  refine lv_iconst (v := 2) X.x X.b dX4_learn_49 (by decide) ?_
  refine lv_aload_n X.x X.b dX4_learn_50 rfl (lv_at hl 3 rfl) ?_
  refine gC_19_0 X h (hS 19) hi hx3v lk_X4_94 dX4_learn_51 ?_
  obtain ⟨b9, hf⟩ := wGi_s hf
  obtain ⟨g10, e11, hf⟩ := wLe_s hf
  refine bC_18 X h (hS 18) hi Nat.one_pos e11 b9 dX4_learn_54 (fun H locs h => ?_)
  refine lv_aload_n X.x X.b dX4_learn_55 rfl (lv_at hl 0 rfl) ?_
  refine gC_9_13 X h (hS 9) hi Nat.one_pos lk_X4_46 dX4_learn_56 ?_
  refine lv_iconst (v := 3) X.x X.b dX4_learn_59 (by decide) ?_
  refine lv_aload_n X.x X.b dX4_learn_60 rfl (lv_at hl 0 rfl) ?_
  refine gC_9_0 X h (hS 9) hi Nat.one_pos lk_X4_55 dX4_learn_61 ?_
  refine lv_aload_n X.x X.b dX4_learn_64 rfl (lv_at hl 3 rfl) ?_
  refine gC_19_7 X h (hS 19) hi hx3v lk_X4_147 dX4_learn_65 ?_
  refine lv_isub X.x X.b dX4_learn_68 ?_
  obtain ⟨b12, hf⟩ := wGi_s hf
  obtain ⟨g13, e14, hf⟩ := wLe_s hf
  refine bC_18 X h (hS 18) hi Nat.one_pos e14 b12 dX4_learn_69 (fun H locs h => ?_)
  refine lv_aload_n X.x X.b dX4_learn_70 rfl (lv_at hl 0 rfl) ?_
  refine gC_9_13 X h (hS 9) hi Nat.one_pos lk_X4_46 dX4_learn_71 ?_
  refine lv_iconst (v := 4) X.x X.b dX4_learn_74 (by decide) ?_
  refine lv_iload_n X.x X.b dX4_learn_75 rfl (lv_at hl 2 rfl) ?_
  obtain ⟨b15, hf⟩ := wGi_s hf
  obtain ⟨g16, e17, hf⟩ := wLe_s hf
  refine bC_18 X h (hS 18) hi Nat.one_pos e17 b15 dX4_learn_76 (fun H locs h => ?_)
  refine lv_aload_n X.x X.b dX4_learn_77 rfl (lv_at hl 0 rfl) ?_
  refine gC_9_13 X h (hS 9) hi Nat.one_pos lk_X4_46 dX4_learn_78 ?_
  refine lv_iconst (v := 5) X.x X.b dX4_learn_81 (by decide) ?_
  refine lv_aload_n X.x X.b dX4_learn_82 rfl (lv_at hl 0 rfl) ?_
  refine gC_9_5 X h (hS 9) hi Nat.one_pos lk_X4_11 dX4_learn_83 ?_
  refine lv_iconst (v := 5) X.x X.b dX4_learn_86 (by decide) ?_
  obtain ⟨b18, hf⟩ := wGi_s hf
  refine aC_10 X h (hS 10) hi Nat.one_pos b18 dX4_learn_87 ?_
  obtain ⟨b19, hf⟩ := wGi_s hf
  obtain ⟨g20, e21, hf⟩ := wLe_s hf
  refine bC_18 X h (hS 18) hi Nat.one_pos e21 b19 dX4_learn_88 (fun H locs h => ?_)
  refine lv_aload_n X.x X.b dX4_learn_89 rfl (lv_at hl 0 rfl) ?_
  refine gC_9_13 X h (hS 9) hi Nat.one_pos lk_X4_46 dX4_learn_90 ?_
  refine lv_bipush (v := 6) X.x X.b dX4_learn_93 (by decide) ?_
  refine lv_aload_n X.x X.b dX4_learn_95 rfl (lv_at hl 0 rfl) ?_
  refine lv_iload_n X.x X.b dX4_learn_96 rfl (lv_at hl 1 rfl) ?_
  obtain ⟨y23, e22, hf⟩ := wBd_s hf
  refine ro_callvI (As := [.int a1]) (g1 := g20) (x := y23) X h (kX4_openFeeds l hS hi e22) mv_X4_openFeeds lk_X4_237 ⟨rfl, rfl⟩ ⟨(Nat.le_of_ble_eq_true rfl), (Nat.le_of_ble_eq_true rfl)⟩ (rC_9 X h (hS 9) hi Nat.one_pos) rfl hl rfl (Nat.le_of_ble_eq_true rfl) ⟨Nat.zero_le _, Nat.zero_le _⟩ dX4_learn_97 (fun H locs h => ?_)
  obtain ⟨b24, hf⟩ := wGi_s hf
  obtain ⟨g25, e26, hf⟩ := wLe_s hf
  refine bC_18 X h (hS 18) hi Nat.one_pos e26 b24 dX4_learn_100 (fun H locs h => ?_)
  refine lv_aload_n X.x X.b dX4_learn_101 rfl (lv_at hl 0 rfl) ?_
  refine gC_9_13 X h (hS 9) hi Nat.one_pos lk_X4_46 dX4_learn_102 ?_
  refine lv_bipush (v := 7) X.x X.b dX4_learn_105 (by decide) ?_
  refine lv_aload_n X.x X.b dX4_learn_107 rfl (lv_at hl 3 rfl) ?_
  obtain ⟨y28, e27, hf⟩ := wBd_s hf
  refine ro_callvI (As := []) (g1 := g25) (x := y28) X h (kX9_limit l hS hi hx3v e27) mv_X9_limit lk_X4_231 ⟨rfl, rfl⟩ ⟨(Nat.le_of_ble_eq_true rfl), (Nat.le_of_ble_eq_true rfl)⟩ (rC_19 X h (hS 19) hi hx3v) rfl hl rfl (Nat.le_of_ble_eq_true rfl) ⟨Nat.zero_le _, Nat.zero_le _⟩ dX4_learn_108 (fun H locs h => ?_)
  refine lv_aload_n X.x X.b dX4_learn_111 rfl (lv_at hl 0 rfl) ?_
  refine gC_9_0 X h (hS 9) hi Nat.one_pos lk_X4_55 dX4_learn_112 ?_
  refine lv_isub X.x X.b dX4_learn_115 ?_
  obtain ⟨b29, hf⟩ := wGi_s hf
  obtain ⟨g30, e31, hf⟩ := wLe_s hf
  refine bC_18 X h (hS 18) hi Nat.one_pos e31 b29 dX4_learn_116 (fun H locs h => ?_)
  cases (Option.some.inj hf).trans JR
  exact ro_vret X h dX4_learn_117
set_option maxHeartbeats 4000000 in
set_option maxRecDepth 20000 in
theorem kX4_learn (l : Launch) {k : En} {S : Nat → Prop} (hS : ∀ t, S t) {i : Nat} {a1 : Int32} {a2 : Int32} (hi : i < 2) {res : Mm} {g : Mm} (hf : fX4_learn g i a1 a2 = some res) : Mt l yX4_learn cX4_learn 4 none (RmN 1 24) YC S k [.ref (k.1 + adC 9 i 0), .int a1, .int a2] g none res := by
  refine Mt.of (by decide) (Nat.le_of_ble_eq_true rfl) ?_
  intro p e s m args below meth c ls X _ h hl
  have X : Cx YC S k p s m args meth c cX4_learn 4 none RX4 := X
  have hl : lv_has ls 4 [(0, .ref (k.1 + adC 9 i 0)), (1, .int a1), (2, .int a2)] := hl
  have JR : res = res := rfl
  unfold fX4_learn at hf
  refine lv_aload_n X.x X.b dX4_learn_0 rfl (lv_at hl 0 rfl) ?_
  refine gC_9_11 X h (hS 9) hi Nat.one_pos lk_X4_34 dX4_learn_1 ?_
  refine lv_iload_n X.x X.b dX4_learn_4 rfl (lv_at hl 1 rfl) ?_
  obtain ⟨b1, hf⟩ := wGi_s hf
  refine qC_16 X h (hS 16) hi Nat.one_pos b1 dX4_learn_5 ?_
  refine lv_astore_n (lv' := [(3, .ref (k.1 + adC 19 i ((a1).toNatClampNeg))), (0, .ref (k.1 + adC 9 i 0)), (1, .int a1), (2, .int a2)]) X.x X.b dX4_learn_6 rfl hl (by decide) rfl (fun ls hl => ?_)
  refine lv_aload_n X.x X.b dX4_learn_7 rfl (lv_at hl 1 rfl) ?_
  refine gC_9_13 X h (hS 9) hi Nat.one_pos lk_X4_46 dX4_learn_8 ?_
  refine lv_iconst (v := 0) X.x X.b dX4_learn_11 (by decide) ?_
  refine lv_aload_n X.x X.b dX4_learn_12 rfl (lv_at hl 0 rfl) ?_
  refine gC_19_6 X h (hS 19) hi (vin_lt b1) lk_X4_120 dX4_learn_13 ?_
  refine lv_iconst (v := 1) X.x X.b dX4_learn_16 (by decide) ?_
  refine lv_icmp_ne (tgt := 24) X.x X.b dX4_learn_17 (by decide) (fun c2 => ?_) (fun c2 => ?_)
  · have hf := wF c2 hf
    refine lv_iconst (v := 0) X.x X.b dX4_learn_24 (by decide) ?_
    exact wX4_learn_b25 hS hi X (vin_lt b1) h (lv_sub hl [1, 2, 3, 0] rfl) hf JR
  · have hf := wT c2 hf
    refine lv_iconst (v := 1) X.x X.b dX4_learn_20 (by decide) ?_
    refine lv_goto (tgt := 25) X.x X.b dX4_learn_21 (by decide) ?_
    exact wX4_learn_b25 hS hi X (vin_lt b1) h (lv_sub hl [1, 2, 3, 0] rfl) hf JR
set_option maxHeartbeats 4000000 in
set_option maxRecDepth 20000 in
theorem kX4_waitsForBags (l : Launch) {k : En} {S : Nat → Prop} (hS : ∀ t, S t) {i : Nat} {a1 : Int32} (hi : i < 2) {res : Mm × Int32} {g : Mm} (hf : fX4_waitsForBags g i a1 = some res) : Mt l yX4_waitsForBags cX4_waitsForBags 4 (some .boolean) (RmN 2 48) YC S k [.ref (k.1 + adC 9 i 0), .int a1] g (some (.int res.2)) res.1 := by
  refine Mt.of (by decide) (Nat.le_of_ble_eq_true rfl) ?_
  intro p e s m args below meth c ls X _ h hl
  have X : Cx YC S k p s m args meth c cX4_waitsForBags 4 (some .boolean) RX4 := X
  have hl : lv_has ls 4 [(0, .ref (k.1 + adC 9 i 0)), (1, .int a1)] := hl
  have JR : res = res := rfl
  unfold fX4_waitsForBags at hf
  refine lv_aload_n X.x X.b dX4_waitsForBags_0 rfl (lv_at hl 0 rfl) ?_
  refine lv_iload_n X.x X.b dX4_waitsForBags_1 rfl (lv_at hl 1 rfl) ?_
  obtain ⟨y2, e1, hf⟩ := wBd_s hf
  refine ro_callvI (As := [.int a1]) (g1 := g) (x := y2) X h (kX4_openFeeds l hS hi e1) mv_X4_openFeeds lk_X4_237 ⟨rfl, rfl⟩ ⟨(Nat.le_of_ble_eq_true rfl), (Nat.le_of_ble_eq_true rfl)⟩ (rC_9 X h (hS 9) hi Nat.one_pos) rfl hl rfl (Nat.le_of_ble_eq_true rfl) ⟨Nat.zero_le _, Nat.zero_le _⟩ dX4_waitsForBags_2 (fun H locs h => ?_)
  refine lv_if_ne (tgt := 10) X.x X.b dX4_waitsForBags_5 (by decide) (fun c3 => ?_) (fun c3 => ?_)
  · have hf := wF c3 hf
    refine lv_aload_n X.x X.b dX4_waitsForBags_10 rfl (lv_at hl 0 rfl) ?_
    refine lv_iload_n X.x X.b dX4_waitsForBags_11 rfl (lv_at hl 1 rfl) ?_
    refine lv_iconst (v := (-1)) X.x X.b dX4_waitsForBags_12 (by decide) ?_
    obtain ⟨g6, e4, hf⟩ := wBd_s hf
    refine ro_callvV (As := [.int a1, .int (-1 : Int32)]) (g1 := g6) X h (kX4_learn l hS hi e4) mv_X4_learn lk_X4_240 ⟨rfl, rfl⟩ ⟨(Nat.le_of_ble_eq_true rfl), (Nat.le_of_ble_eq_true rfl)⟩ (rC_9 X h (hS 9) hi Nat.one_pos) rfl hl rfl (Nat.le_of_ble_eq_true rfl) ⟨Nat.zero_le _, Nat.zero_le _⟩ dX4_waitsForBags_13 (fun H locs h => ?_)
    refine lv_aload_n X.x X.b dX4_waitsForBags_16 rfl (lv_at hl 0 rfl) ?_
    refine gC_9_11 X h (hS 9) hi Nat.one_pos lk_X4_34 dX4_waitsForBags_17 ?_
    refine lv_iload_n X.x X.b dX4_waitsForBags_20 rfl (lv_at hl 1 rfl) ?_
    obtain ⟨b7, hf⟩ := wGi_s hf
    refine qC_16 X h (hS 16) hi Nat.one_pos b7 dX4_waitsForBags_21 ?_
    refine gC_19_2 X h (hS 19) hi (vin_lt b7) lk_X4_228 dX4_waitsForBags_22 ?_
    refine lv_i2l X.x X.b dX4_waitsForBags_25 rfl ?_
    refine lv_iconst (v := 0) X.x X.b dX4_waitsForBags_26 (by decide) ?_
    refine lv_aload_n X.x X.b dX4_waitsForBags_27 rfl (lv_at hl 0 rfl) ?_
    obtain ⟨n8, hb10, e9, hf⟩ := wGr_s hf
    refine gC_9_4 X h (hS 9) hi Nat.one_pos lk_X4_49 e9 dX4_waitsForBags_28 ?_
    refine lv_iconst (v := 2) X.x X.b dX4_waitsForBags_31 (by decide) ?_
    refine lv_aload_n X.x X.b dX4_waitsForBags_32 rfl (lv_at hl 0 rfl) ?_
    refine gC_9_13 X h (hS 9) hi Nat.one_pos lk_X4_46 dX4_waitsForBags_33 ?_
    obtain ⟨g13, y12, e11, hf⟩ := wB2_s hf
    refine ro_callvI (As := [.int (2 : Int32), .ref (k.1 + adC 18 i 0)]) (g1 := g13) (x := y12) X h (kX6_says l hS hb10 hi e11) mv_X6_says lk_X4_243 ⟨rfl, rfl⟩ ⟨(Nat.le_of_ble_eq_true rfl), (Nat.le_of_ble_eq_true rfl)⟩ (rC_5 X h (hS 5) hb10 Nat.one_pos) rfl hl rfl (Nat.le_of_ble_eq_true rfl) ⟨Nat.zero_le _, Nat.zero_le _⟩ dX4_waitsForBags_36 (fun H locs h => ?_)
    refine ro_max X hl lk_X4_247 mx_f (Nat.le_of_ble_eq_true rfl) (Nat.le_of_ble_eq_true rfl) ⟨Nat.zero_le _, Nat.zero_le _⟩ dX4_waitsForBags_39 ?_
    refine lv_i2l X.x X.b dX4_waitsForBags_42 rfl ?_
    refine lv_ladd X.x X.b dX4_waitsForBags_43 ?_
    obtain ⟨y14, e15, hf⟩ := wLe_s hf
    refine lv_nml e15 ?_
    refine lv_lstore_n (lv' := [(2, .long y14), (0, .ref (k.1 + adC 9 i 0)), (1, .int a1)]) X.x X.b dX4_waitsForBags_44 rfl hl (by decide) rfl (fun ls hl => ?_)
    refine lv_aload_n X.x X.b dX4_waitsForBags_45 rfl (lv_at hl 1 rfl) ?_
    refine gC_9_0 X h (hS 9) hi Nat.one_pos lk_X4_55 dX4_waitsForBags_46 ?_
    refine lv_i2l X.x X.b dX4_waitsForBags_49 rfl ?_
    refine lv_lload_n X.x X.b dX4_waitsForBags_50 rfl (lv_at hl 0 rfl) ?_
    refine W.lcmp X.x X.b dX4_waitsForBags_51 ?_
    refine lv_if_ge (tgt := 59) X.x X.b dX4_waitsForBags_52 (by decide) (fun c16 => ?_) (fun c16 => ?_)
    · have hf := wT c16 hf
      refine lv_iconst (v := 0) X.x X.b dX4_waitsForBags_59 (by decide) ?_
      cases (Option.some.inj hf).trans JR
      exact ro_zret X h (Or.inl rfl) dX4_waitsForBags_60
    · have hf := wF c16 hf
      refine lv_iconst (v := 1) X.x X.b dX4_waitsForBags_55 (by decide) ?_
      refine lv_goto (tgt := 60) X.x X.b dX4_waitsForBags_56 (by decide) ?_
      cases (Option.some.inj hf).trans JR
      exact ro_zret X h (Or.inr rfl) dX4_waitsForBags_60
  · have hf := wT c3 hf
    refine lv_iconst (v := 0) X.x X.b dX4_waitsForBags_8 (by decide) ?_
    cases (Option.some.inj hf).trans JR
    exact ro_zret X h (Or.inl rfl) dX4_waitsForBags_9
set_option maxHeartbeats 4000000 in
set_option maxRecDepth 20000 in
theorem wX4_hindrance_b80 {k : En} {S : Nat → Prop} (hS : ∀ t, S t) {i : Nat} {a1 : Int32} {a2 : Int32} (hi : i < 2) {res : Mm × Int32} (X : Cx YC S k p s m args meth c cX4_hindrance 5 (some .int) RX4) {g : Mm} {x3v : Nat} (hx3v : x3v < 12) {H : Heap} {locs : List Loc} {ls : Array Slot} (h : Hx YC S k s g H locs) (hl : lv_has ls 5 [(0, .ref (k.1 + adC 9 i 0)), (2, .int a2), (3, .ref (k.1 + adC 19 i x3v))]) {r : Mm × Int32} (hf : fX4_hindrance_b80 g i a1 a2 x3v = some r) (JR : r = res) :
    W p l e (RmN 3 71) s m args below meth c H locs 0 0 (Fin YC S k args s below (some (.int res.2)) res.1) (F0 m 80 ls []) := by
  unfold fX4_hindrance_b80 at hf
  refine lv_iload_n X.x X.b dX4_hindrance_80 rfl (lv_at hl 1 rfl) ?_
  refine lv_bipush (v := 7) X.x X.b dX4_hindrance_81 (by decide) ?_
  refine lv_icmp_ne (tgt := 110) X.x X.b dX4_hindrance_83 (by decide) (fun c7 => ?_) (fun c7 => ?_)
  · have hf := wF c7 hf
    refine lv_iconst (v := (-1)) X.x X.b dX4_hindrance_110 (by decide) ?_
    cases (Option.some.inj hf).trans JR
    exact ro_iret X h dX4_hindrance_111
  · have hf := wT c7 hf
    refine lv_aload_n X.x X.b dX4_hindrance_86 rfl (lv_at hl 0 rfl) ?_
    refine gC_9_0 X h (hS 9) hi Nat.one_pos lk_X4_55 dX4_hindrance_87 ?_
    refine lv_aload_n X.x X.b dX4_hindrance_90 rfl (lv_at hl 2 rfl) ?_
    obtain ⟨y9, e8, hf⟩ := wBd_s hf
    refine ro_callvI (As := []) (g1 := g) (x := y9) X h (kX9_limit l hS hi hx3v e8) mv_X9_limit lk_X4_231 ⟨rfl, rfl⟩ ⟨(Nat.le_of_ble_eq_true rfl), (Nat.le_of_ble_eq_true rfl)⟩ (rC_19 X h (hS 19) hi hx3v) rfl hl rfl (Nat.le_of_ble_eq_true rfl) ⟨Nat.zero_le _, Nat.zero_le _⟩ dX4_hindrance_91 (fun H locs h => ?_)
    refine lv_icmp_le (tgt := 110) X.x X.b dX4_hindrance_94 (by decide) (fun c10 => ?_) (fun c10 => ?_)
    · have hf := wT c10 hf
      refine lv_iconst (v := (-1)) X.x X.b dX4_hindrance_110 (by decide) ?_
      cases (Option.some.inj hf).trans JR
      exact ro_iret X h dX4_hindrance_111
    · have hf := wF c10 hf
      refine lv_aload_n X.x X.b dX4_hindrance_97 rfl (lv_at hl 0 rfl) ?_
      refine gC_9_5 X h (hS 9) hi Nat.one_pos lk_X4_11 dX4_hindrance_98 ?_
      refine lv_bipush (v := 7) X.x X.b dX4_hindrance_101 (by decide) ?_
      obtain ⟨b11, hf⟩ := wGi_s hf
      refine aC_10 X h (hS 10) hi Nat.one_pos b11 dX4_hindrance_103 ?_
      refine lv_if_ne (tgt := 110) X.x X.b dX4_hindrance_104 (by decide) (fun c12 => ?_) (fun c12 => ?_)
      · have hf := wF c12 hf
        refine lv_iconst (v := (-1)) X.x X.b dX4_hindrance_110 (by decide) ?_
        cases (Option.some.inj hf).trans JR
        exact ro_iret X h dX4_hindrance_111
      · have hf := wT c12 hf
        refine lv_bipush (v := 7) X.x X.b dX4_hindrance_107 (by decide) ?_
        cases (Option.some.inj hf).trans JR
        exact ro_iret X h dX4_hindrance_109
set_option maxHeartbeats 4000000 in
set_option maxRecDepth 20000 in
theorem wX4_hindrance_b50 {k : En} {S : Nat → Prop} (hS : ∀ t, S t) {i : Nat} {a1 : Int32} {a2 : Int32} (hi : i < 2) {res : Mm × Int32} (X : Cx YC S k p s m args meth c cX4_hindrance 5 (some .int) RX4) {g : Mm} {x3v : Nat} (hx3v : x3v < 12) {H : Heap} {locs : List Loc} {ls : Array Slot} (h : Hx YC S k s g H locs) (hl : lv_has ls 5 [(0, .ref (k.1 + adC 9 i 0)), (2, .int a2), (3, .ref (k.1 + adC 19 i x3v))]) {r : Mm × Int32} (hf : fX4_hindrance_b50 g i a1 a2 x3v = some r) (JR : r = res) :
    W p l e (RmN 3 71) s m args below meth c H locs 0 0 (Fin YC S k args s below (some (.int res.2)) res.1) (F0 m 50 ls []) := by
  unfold fX4_hindrance_b50 at hf
  refine lv_iload_n X.x X.b dX4_hindrance_50 rfl (lv_at hl 1 rfl) ?_
  obtain ⟨y5, e4, hf⟩ := wBd_s hf
  refine ro_callsI (As := [.int a2]) (g1 := g) (x := y5) X h (kX3_truckFor l hS e4) mv_X3_truckFor lk_X4_175 ⟨rfl, rfl⟩ ⟨(Nat.le_of_ble_eq_true rfl), (Nat.le_of_ble_eq_true rfl)⟩ rfl hl rfl (Nat.le_of_ble_eq_true rfl) ⟨Nat.zero_le _, Nat.zero_le _⟩ dX4_hindrance_51 (fun H locs h => ?_)
  refine lv_istore (lv' := [(4, .int y5), (0, .ref (k.1 + adC 9 i 0)), (2, .int a2), (3, .ref (k.1 + adC 19 i x3v))]) X.x X.b dX4_hindrance_54 hl (by decide) rfl (fun ls hl => ?_)
  refine lv_iload X.x X.b dX4_hindrance_56 (lv_at hl 0 rfl) ?_
  refine lv_if_lt (tgt := 80) X.x X.b dX4_hindrance_58 (by decide) (fun c6 => ?_) (fun c6 => ?_)
  · have hf := wT c6 hf
    exact wX4_hindrance_b80 hS hi X hx3v h (lv_sub hl [1, 2, 3] rfl) hf JR
  · have hf := wF c6 hf
    refine lv_aload_n X.x X.b dX4_hindrance_61 rfl (lv_at hl 1 rfl) ?_
    refine gC_9_6 X h (hS 9) hi Nat.one_pos lk_X4_17 dX4_hindrance_62 ?_
    refine lv_iload X.x X.b dX4_hindrance_65 (lv_at hl 0 rfl) ?_
    obtain ⟨b13, hf⟩ := wGi_s hf
    refine aC_11 X h (hS 11) hi Nat.one_pos b13 dX4_hindrance_67 ?_
    refine lv_aload_n X.x X.b dX4_hindrance_68 rfl (lv_at hl 1 rfl) ?_
    refine gC_9_5 X h (hS 9) hi Nat.one_pos lk_X4_11 dX4_hindrance_69 ?_
    refine lv_iload X.x X.b dX4_hindrance_72 (lv_at hl 0 rfl) ?_
    obtain ⟨b14, hf⟩ := wGi_s hf
    refine aC_10 X h (hS 10) hi Nat.one_pos b14 dX4_hindrance_74 ?_
    refine lv_icmp_lt (tgt := 80) X.x X.b dX4_hindrance_75 (by decide) (fun c15 => ?_) (fun c15 => ?_)
    · have hf := wT c15 hf
      exact wX4_hindrance_b80 hS hi X hx3v h (lv_sub hl [1, 2, 3] rfl) hf JR
    · have hf := wF c15 hf
      refine lv_iconst (v := 3) X.x X.b dX4_hindrance_78 (by decide) ?_
      cases (Option.some.inj hf).trans JR
      exact ro_iret X h dX4_hindrance_79
set_option maxHeartbeats 4000000 in
set_option maxRecDepth 20000 in
theorem wX4_hindrance_b22 {k : En} {S : Nat → Prop} (hS : ∀ t, S t) {i : Nat} {a1 : Int32} {a2 : Int32} (hi : i < 2) {res : Mm × Int32} (X : Cx YC S k p s m args meth c cX4_hindrance 5 (some .int) RX4) {g : Mm} {x3v : Nat} (hx3v : x3v < 12) {H : Heap} {locs : List Loc} {ls : Array Slot} (h : Hx YC S k s g H locs) (hl : lv_has ls 5 [(0, .ref (k.1 + adC 9 i 0)), (2, .int a2), (3, .ref (k.1 + adC 19 i x3v))]) {r : Mm × Int32} (hf : fX4_hindrance_b22 g i a1 a2 x3v = some r) (JR : r = res) :
    W p l e (RmN 3 71) s m args below meth c H locs 0 0 (Fin YC S k args s below (some (.int res.2)) res.1) (F0 m 22 ls []) := by
  unfold fX4_hindrance_b22 at hf
  refine lv_iload_n X.x X.b dX4_hindrance_22 rfl (lv_at hl 1 rfl) ?_
  refine lv_bipush (v := 7) X.x X.b dX4_hindrance_23 (by decide) ?_
  refine lv_icmp_ne (tgt := 50) X.x X.b dX4_hindrance_25 (by decide) (fun c3 => ?_) (fun c3 => ?_)
  · have hf := wF c3 hf
    exact wX4_hindrance_b50 hS hi X hx3v h (lv_sub hl [0, 1, 2] rfl) hf JR
  · have hf := wT c3 hf
    refine lv_aload_n X.x X.b dX4_hindrance_28 rfl (lv_at hl 0 rfl) ?_
    refine gC_9_0 X h (hS 9) hi Nat.one_pos lk_X4_55 dX4_hindrance_29 ?_
    refine lv_aload_n X.x X.b dX4_hindrance_32 rfl (lv_at hl 2 rfl) ?_
    refine gC_19_2 X h (hS 19) hi hx3v lk_X4_228 dX4_hindrance_33 ?_
    refine lv_aload_n X.x X.b dX4_hindrance_36 rfl (lv_at hl 2 rfl) ?_
    refine gC_19_0 X h (hS 19) hi hx3v lk_X4_94 dX4_hindrance_37 ?_
    refine lv_iload_n X.x X.b dX4_hindrance_40 rfl (lv_at hl 1 rfl) ?_
    obtain ⟨y17, e16, hf⟩ := wBd_s hf
    refine ro_callsI (As := [.int (g 19 i x3v 0), .int a2]) (g1 := g) (x := y17) X h (kX3_lasts l hS e16) mv_X3_lasts lk_X4_222 ⟨rfl, rfl⟩ ⟨(Nat.le_of_ble_eq_true rfl), (Nat.le_of_ble_eq_true rfl)⟩ rfl hl rfl (Nat.le_of_ble_eq_true rfl) ⟨Nat.zero_le _, Nat.zero_le _⟩ dX4_hindrance_41 (fun H locs h => ?_)
    refine lv_isub X.x X.b dX4_hindrance_44 ?_
    refine lv_icmp_ge (tgt := 50) X.x X.b dX4_hindrance_45 (by decide) (fun c18 => ?_) (fun c18 => ?_)
    · have hf := wT c18 hf
      exact wX4_hindrance_b50 hS hi X hx3v h (lv_sub hl [0, 1, 2] rfl) hf JR
    · have hf := wF c18 hf
      refine lv_iconst (v := 2) X.x X.b dX4_hindrance_48 (by decide) ?_
      cases (Option.some.inj hf).trans JR
      exact ro_iret X h dX4_hindrance_49
set_option maxHeartbeats 4000000 in
set_option maxRecDepth 20000 in
theorem kX4_hindrance (l : Launch) {k : En} {S : Nat → Prop} (hS : ∀ t, S t) {i : Nat} {a1 : Int32} {a2 : Int32} (hi : i < 2) {res : Mm × Int32} {g : Mm} (hf : fX4_hindrance g i a1 a2 = some res) : Mt l yX4_hindrance cX4_hindrance 5 (some .int) (RmN 3 71) YC S k [.ref (k.1 + adC 9 i 0), .int a1, .int a2] g (some (.int res.2)) res.1 := by
  refine Mt.of (by decide) (Nat.le_of_ble_eq_true rfl) ?_
  intro p e s m args below meth c ls X _ h hl
  have X : Cx YC S k p s m args meth c cX4_hindrance 5 (some .int) RX4 := X
  have hl : lv_has ls 5 [(0, .ref (k.1 + adC 9 i 0)), (1, .int a1), (2, .int a2)] := hl
  have JR : res = res := rfl
  unfold fX4_hindrance at hf
  refine lv_aload_n X.x X.b dX4_hindrance_0 rfl (lv_at hl 0 rfl) ?_
  refine gC_9_11 X h (hS 9) hi Nat.one_pos lk_X4_34 dX4_hindrance_1 ?_
  refine lv_iload_n X.x X.b dX4_hindrance_4 rfl (lv_at hl 1 rfl) ?_
  obtain ⟨b1, hf⟩ := wGi_s hf
  refine qC_16 X h (hS 16) hi Nat.one_pos b1 dX4_hindrance_5 ?_
  refine lv_astore_n (lv' := [(3, .ref (k.1 + adC 19 i ((a1).toNatClampNeg))), (0, .ref (k.1 + adC 9 i 0)), (1, .int a1), (2, .int a2)]) X.x X.b dX4_hindrance_6 rfl hl (by decide) rfl (fun ls hl => ?_)
  refine lv_iload_n X.x X.b dX4_hindrance_7 rfl (lv_at hl 3 rfl) ?_
  refine lv_iconst (v := 5) X.x X.b dX4_hindrance_8 (by decide) ?_
  refine lv_icmp_ne (tgt := 22) X.x X.b dX4_hindrance_9 (by decide) (fun c2 => ?_) (fun c2 => ?_)
  · have hf := wF c2 hf
    exact wX4_hindrance_b22 hS hi X (vin_lt b1) h (lv_sub hl [1, 3, 0] rfl) hf JR
  · have hf := wT c2 hf
    refine lv_aload_n X.x X.b dX4_hindrance_12 rfl (lv_at hl 1 rfl) ?_
    refine lv_iload_n X.x X.b dX4_hindrance_13 rfl (lv_at hl 2 rfl) ?_
    obtain ⟨g21, y20, e19, hf⟩ := wB2_s hf
    refine ro_callvI (As := [.int a1]) (g1 := g21) (x := y20) X h (kX4_waitsForBags l hS hi e19) mv_X4_waitsForBags lk_X4_225 ⟨rfl, rfl⟩ ⟨(Nat.le_of_ble_eq_true rfl), (Nat.le_of_ble_eq_true rfl)⟩ (rC_9 X h (hS 9) hi Nat.one_pos) rfl hl rfl (Nat.le_of_ble_eq_true rfl) ⟨Nat.zero_le _, Nat.zero_le _⟩ dX4_hindrance_14 (fun H locs h => ?_)
    refine lv_if_eq (tgt := 22) X.x X.b dX4_hindrance_17 (by decide) (fun c22 => ?_) (fun c22 => ?_)
    · have hf := wT c22 hf
      exact wX4_hindrance_b22 hS hi X (vin_lt b1) h (lv_sub hl [1, 3, 0] rfl) hf JR
    · have hf := wF c22 hf
      refine lv_iconst (v := 4) X.x X.b dX4_hindrance_20 (by decide) ?_
      cases (Option.some.inj hf).trans JR
      exact ro_iret X h dX4_hindrance_21
set_option maxHeartbeats 4000000 in
set_option maxRecDepth 20000 in
theorem wX4_startNow_b19 {k : En} {S : Nat → Prop} (hS : ∀ t, S t) {i : Nat} {i1 : Nat} {v1 : Nat} {a2 : Int32} (hi : i < 2) (hi1 : i1 < 2) (hv1 : v1 < 12) {res : Mm} (X : Cx YC S k p s m args meth c cX4_startNow 4 none RX4) {g : Mm} {H : Heap} {locs : List Loc} {ls : Array Slot} (h : Hx YC S k s g H locs) (hl : lv_has ls 4 [(0, .ref (k.1 + adC 9 i 0)), (1, .ref (k.1 + adC 19 i1 v1)), (2, .int a2)]) {r : Mm} (hf : fX4_startNow_b19 g i i1 v1 a2 = some r) (JR : r = res) :
    W p l e (RmN 2 42) s m args below meth c H locs 0 0 (Fin YC S k args s below none res) (F0 m 19 ls []) := by
  unfold fX4_startNow_b19 at hf
  refine lv_iload_n X.x X.b dX4_startNow_19 rfl (lv_at hl 2 rfl) ?_
  refine lv_bipush (v := 7) X.x X.b dX4_startNow_20 (by decide) ?_
  refine lv_icmp_ne (tgt := 47) X.x X.b dX4_startNow_22 (by decide) (fun c4 => ?_) (fun c4 => ?_)
  · have hf := wF c4 hf
    refine lv_aload_n X.x X.b dX4_startNow_47 rfl (lv_at hl 1 rfl) ?_
    refine lv_iload_n X.x X.b dX4_startNow_48 rfl (lv_at hl 2 rfl) ?_
    obtain ⟨g7, e5, hf⟩ := wBd_s hf
    refine ro_callvV (As := [.int a2]) (g1 := g7) X h (kX9_startAct l hS hi1 hv1 e5) mv_X9_startAct lk_X4_234 ⟨rfl, rfl⟩ ⟨(Nat.le_of_ble_eq_true rfl), (Nat.le_of_ble_eq_true rfl)⟩ (rC_19 X h (hS 19) hi1 hv1) rfl hl rfl (Nat.le_of_ble_eq_true rfl) ⟨Nat.zero_le _, Nat.zero_le _⟩ dX4_startNow_49 (fun H locs h => ?_)
    cases (Option.some.inj hf).trans JR
    exact ro_vret X h dX4_startNow_52
  · have hf := wT c4 hf
    refine lv_aload_n X.x X.b dX4_startNow_25 rfl (lv_at hl 0 rfl) ?_
    refine gC_9_0 X h (hS 9) hi Nat.one_pos lk_X4_55 dX4_startNow_26 ?_
    refine lv_aload_n X.x X.b dX4_startNow_29 rfl (lv_at hl 1 rfl) ?_
    obtain ⟨y9, e8, hf⟩ := wBd_s hf
    refine ro_callvI (As := []) (g1 := g) (x := y9) X h (kX9_limit l hS hi1 hv1 e8) mv_X9_limit lk_X4_231 ⟨rfl, rfl⟩ ⟨(Nat.le_of_ble_eq_true rfl), (Nat.le_of_ble_eq_true rfl)⟩ (rC_19 X h (hS 19) hi1 hv1) rfl hl rfl (Nat.le_of_ble_eq_true rfl) ⟨Nat.zero_le _, Nat.zero_le _⟩ dX4_startNow_30 (fun H locs h => ?_)
    refine lv_icmp_le (tgt := 47) X.x X.b dX4_startNow_33 (by decide) (fun c10 => ?_) (fun c10 => ?_)
    · have hf := wT c10 hf
      refine lv_aload_n X.x X.b dX4_startNow_47 rfl (lv_at hl 1 rfl) ?_
      refine lv_iload_n X.x X.b dX4_startNow_48 rfl (lv_at hl 2 rfl) ?_
      obtain ⟨g13, e11, hf⟩ := wBd_s hf
      refine ro_callvV (As := [.int a2]) (g1 := g13) X h (kX9_startAct l hS hi1 hv1 e11) mv_X9_startAct lk_X4_234 ⟨rfl, rfl⟩ ⟨(Nat.le_of_ble_eq_true rfl), (Nat.le_of_ble_eq_true rfl)⟩ (rC_19 X h (hS 19) hi1 hv1) rfl hl rfl (Nat.le_of_ble_eq_true rfl) ⟨Nat.zero_le _, Nat.zero_le _⟩ dX4_startNow_49 (fun H locs h => ?_)
      cases (Option.some.inj hf).trans JR
      exact ro_vret X h dX4_startNow_52
    · have hf := wF c10 hf
      refine lv_aload_n X.x X.b dX4_startNow_36 rfl (lv_at hl 0 rfl) ?_
      refine gC_9_5 X h (hS 9) hi Nat.one_pos lk_X4_11 dX4_startNow_37 ?_
      refine lv_bipush (v := 7) X.x X.b dX4_startNow_40 (by decide) ?_
      refine lv_dup2_11 X.x X.b dX4_startNow_42 rfl rfl ?_
      obtain ⟨b14, hf⟩ := wGi_s hf
      refine aC_10 X h (hS 10) hi Nat.one_pos b14 dX4_startNow_43 ?_
      refine lv_iconst (v := 1) X.x X.b dX4_startNow_44 (by decide) ?_
      refine lv_isub X.x X.b dX4_startNow_45 ?_
      obtain ⟨b15, hf⟩ := wGi_s hf
      obtain ⟨g16, e17, hf⟩ := wLe_s hf
      refine bC_10 X h (hS 10) hi Nat.one_pos e17 b15 dX4_startNow_46 (fun H locs h => ?_)
      refine lv_aload_n X.x X.b dX4_startNow_47 rfl (lv_at hl 1 rfl) ?_
      refine lv_iload_n X.x X.b dX4_startNow_48 rfl (lv_at hl 2 rfl) ?_
      obtain ⟨g20, e18, hf⟩ := wBd_s hf
      refine ro_callvV (As := [.int a2]) (g1 := g20) X h (kX9_startAct l hS hi1 hv1 e18) mv_X9_startAct lk_X4_234 ⟨rfl, rfl⟩ ⟨(Nat.le_of_ble_eq_true rfl), (Nat.le_of_ble_eq_true rfl)⟩ (rC_19 X h (hS 19) hi1 hv1) rfl hl rfl (Nat.le_of_ble_eq_true rfl) ⟨Nat.zero_le _, Nat.zero_le _⟩ dX4_startNow_49 (fun H locs h => ?_)
      cases (Option.some.inj hf).trans JR
      exact ro_vret X h dX4_startNow_52
set_option maxHeartbeats 4000000 in
set_option maxRecDepth 20000 in
theorem kX4_startNow (l : Launch) {k : En} {S : Nat → Prop} (hS : ∀ t, S t) {i : Nat} {i1 : Nat} {v1 : Nat} {a2 : Int32} (hi : i < 2) (hi1 : i1 < 2) (hv1 : v1 < 12) {res : Mm} {g : Mm} (hf : fX4_startNow g i i1 v1 a2 = some res) : Mt l yX4_startNow cX4_startNow 4 none (RmN 2 42) YC S k [.ref (k.1 + adC 9 i 0), .ref (k.1 + adC 19 i1 v1), .int a2] g none res := by
  refine Mt.of (by decide) (Nat.le_of_ble_eq_true rfl) ?_
  intro p e s m args below meth c ls X _ h hl
  have X : Cx YC S k p s m args meth c cX4_startNow 4 none RX4 := X
  have hl : lv_has ls 4 [(0, .ref (k.1 + adC 9 i 0)), (1, .ref (k.1 + adC 19 i1 v1)), (2, .int a2)] := hl
  have JR : res = res := rfl
  unfold fX4_startNow at hf
  refine lv_iload_n X.x X.b dX4_startNow_0 rfl (lv_at hl 2 rfl) ?_
  obtain ⟨y2, e1, hf⟩ := wBd_s hf
  refine ro_callsI (As := [.int a2]) (g1 := g) (x := y2) X h (kX3_truckFor l hS e1) mv_X3_truckFor lk_X4_175 ⟨rfl, rfl⟩ ⟨(Nat.le_of_ble_eq_true rfl), (Nat.le_of_ble_eq_true rfl)⟩ rfl hl rfl (Nat.le_of_ble_eq_true rfl) ⟨Nat.zero_le _, Nat.zero_le _⟩ dX4_startNow_1 (fun H locs h => ?_)
  refine lv_istore_n (lv' := [(3, .int y2), (0, .ref (k.1 + adC 9 i 0)), (1, .ref (k.1 + adC 19 i1 v1)), (2, .int a2)]) X.x X.b dX4_startNow_4 rfl hl (by decide) rfl (fun ls hl => ?_)
  refine lv_iload_n X.x X.b dX4_startNow_5 rfl (lv_at hl 0 rfl) ?_
  refine lv_if_lt (tgt := 19) X.x X.b dX4_startNow_6 (by decide) (fun c3 => ?_) (fun c3 => ?_)
  · have hf := wT c3 hf
    exact wX4_startNow_b19 hS hi hi1 hv1 X h (lv_sub hl [1, 2, 3] rfl) hf JR
  · have hf := wF c3 hf
    refine lv_aload_n X.x X.b dX4_startNow_9 rfl (lv_at hl 1 rfl) ?_
    refine gC_9_6 X h (hS 9) hi Nat.one_pos lk_X4_17 dX4_startNow_10 ?_
    refine lv_iload_n X.x X.b dX4_startNow_13 rfl (lv_at hl 0 rfl) ?_
    refine lv_dup2_11 X.x X.b dX4_startNow_14 rfl rfl ?_
    obtain ⟨b21, hf⟩ := wGi_s hf
    refine aC_11 X h (hS 11) hi Nat.one_pos b21 dX4_startNow_15 ?_
    refine lv_iconst (v := 1) X.x X.b dX4_startNow_16 (by decide) ?_
    refine lv_iadd X.x X.b dX4_startNow_17 ?_
    obtain ⟨b22, hf⟩ := wGi_s hf
    obtain ⟨g23, e24, hf⟩ := wLe_s hf
    refine bC_11 X h (hS 11) hi Nat.one_pos e24 b22 dX4_startNow_18 (fun H locs h => ?_)
    exact wX4_startNow_b19 hS hi hi1 hv1 X h (lv_sub hl [1, 2, 3] rfl) hf JR
set_option maxHeartbeats 4000000 in
set_option maxRecDepth 20000 in
theorem wX4_serve_b102 {k : En} {S : Nat → Prop} (hS : ∀ t, S t) {i : Nat} {a1 : Int32} (hi : i < 2) {res : Mm} (X : Cx YC S k p s m args meth c cX4_serve 5 none RX4) {g : Mm} {x2v : Nat} {x3 : Int32} (hx2v : x2v < 12) {H : Heap} {locs : List Loc} {ls : Array Slot} (h : Hx YC S k s g H locs) (hl : lv_has ls 5 [(0, .ref (k.1 + adC 9 i 0)), (1, .int a1), (2, .ref (k.1 + adC 19 i x2v)), (3, .int x3)]) {r : (Mm × Int32) ⊕ (Mm)} (hf : fX4_serve_b102 g i a1 x2v x3 = some r) (J1 : ∀ (g : Mm) (x3 : Int32), r = .inl (g, x3) → ∀ (H : Heap) (locs : List Loc) (ls : Array Slot), Hx YC S k s g H locs → lv_has ls 5 [(0, .ref (k.1 + adC 9 i 0)), (1, .int a1), (2, .ref (k.1 + adC 19 i x2v)), (3, .int x3)] → W p l e (RmN 4 95) s m args below meth c H locs 0 0 (Fin YC S k args s below none res) (F0 m 14 ls [])) (JR : ∀ t1, r = .inr t1 → t1 = res) :
    W p l e (RmN 4 95) s m args below meth c H locs 0 0 (Fin YC S k args s below none res) (F0 m 102 ls []) := by
  unfold fX4_serve_b102 at hf
  obtain ⟨y12, e13, hf⟩ := wLe_s hf
  refine lv_iinc (v := y12) (lv' := [(3, .int y12), (0, .ref (k.1 + adC 9 i 0)), (1, .int a1), (2, .ref (k.1 + adC 19 i x2v))]) X.x X.b dX4_serve_102 hl (k := 3) rfl (by rw [e13]; rfl) (by decide) rfl (fun ls hl => ?_)
  refine lv_goto (tgt := 14) X.x X.b dX4_serve_105 (by decide) ?_
  exact J1 _ _ (Option.some.inj hf).symm _ _ _ h (lv_sub hl [1, 2, 3, 0] rfl)
set_option maxHeartbeats 4000000 in
set_option maxRecDepth 20000 in
theorem wX4_serve_b89 {k : En} {S : Nat → Prop} (hS : ∀ t, S t) {i : Nat} {a1 : Int32} (hi : i < 2) {res : Mm} (X : Cx YC S k p s m args meth c cX4_serve 5 none RX4) {g : Mm} {x2v : Nat} {x3 : Int32} {x4 : Int32} (hx2v : x2v < 12) {H : Heap} {locs : List Loc} {ls : Array Slot} (h : Hx YC S k s g H locs) (hl : lv_has ls 5 [(0, .ref (k.1 + adC 9 i 0)), (1, .int a1), (2, .ref (k.1 + adC 19 i x2v)), (3, .int x3), (4, .int x4)]) {r : (Mm × Int32) ⊕ (Mm)} (hf : fX4_serve_b89 g i a1 x2v x3 x4 = some r) (J1 : ∀ (g : Mm) (x3 : Int32), r = .inl (g, x3) → ∀ (H : Heap) (locs : List Loc) (ls : Array Slot), Hx YC S k s g H locs → lv_has ls 5 [(0, .ref (k.1 + adC 9 i 0)), (1, .int a1), (2, .ref (k.1 + adC 19 i x2v)), (3, .int x3)] → W p l e (RmN 4 95) s m args below meth c H locs 0 0 (Fin YC S k args s below none res) (F0 m 14 ls [])) (JR : ∀ t1, r = .inr t1 → t1 = res) :
    W p l e (RmN 4 95) s m args below meth c H locs 0 0 (Fin YC S k args s below none res) (F0 m 89 ls []) := by
  unfold fX4_serve_b89 at hf
  refine lv_aload_n X.x X.b dX4_serve_89 rfl (lv_at hl 2 rfl) ?_
  refine gC_19_11 X h (hS 19) hi hx2v lk_X4_204 dX4_serve_90 ?_
  refine lv_if_ge (tgt := 102) X.x X.b dX4_serve_93 (by decide) (fun c22 => ?_) (fun c22 => ?_)
  · have hf := wT c22 hf
    exact wX4_serve_b102 hS hi X hx2v h (lv_sub hl [0, 1, 2, 3] rfl) hf J1 JR
  · have hf := wF c22 hf
    refine lv_aload_n X.x X.b dX4_serve_96 rfl (lv_at hl 2 rfl) ?_
    refine lv_iload X.x X.b dX4_serve_97 (lv_at hl 4 rfl) ?_
    obtain ⟨g23, e24, hf⟩ := wLe_s hf
    refine pC_19_11 X h (hS 19) hi hx2v lk_X4_204 e24 dX4_serve_99 (fun H locs h => ?_)
    exact wX4_serve_b102 hS hi X hx2v h (lv_sub hl [0, 1, 2, 3] rfl) hf J1 JR
set_option maxHeartbeats 4000000 in
set_option maxRecDepth 20000 in
theorem wX4_serve_L14 {k : En} {S : Nat → Prop} (hS : ∀ t, S t) {i : Nat} {a1 : Int32} (hi : i < 2) {res : Mm} (X : Cx YC S k p s m args meth c cX4_serve 5 none RX4) {x2v : Nat} (hx2v : x2v < 12) {r : Mm} (JR : r = res) :
    ∀ (fu : Nat) (g : Mm) (x3 : Int32) (H : Heap) (locs : List Loc) (ls : Array Slot), Hx YC S k s g H locs → lv_has ls 5 [(0, .ref (k.1 + adC 9 i 0)), (1, .int a1), (2, .ref (k.1 + adC 19 i x2v)), (3, .int x3)] → wLp (fun q => fX4_serve_B14 q.1 i a1 x2v q.2) fu (g, x3) = some r → W p l e (RmN 4 95) s m args below meth c H locs 0 0 (Fin YC S k args s below none res) (F0 m 14 ls []) := by
  intro fu
  induction fu with
  | zero => intro g x3 H locs ls h hl hf; exact (wLp_0 hf).elim
  | succ fu ih1 =>
    intro g x3 H locs ls h hl hf
    obtain ⟨r1, hf, hr⟩ := wLp_s hf
    have J1n : ∀ (g : Mm) (x3 : Int32), r1 = .inl (g, x3) → ∀ (H : Heap) (locs : List Loc) (ls : Array Slot), Hx YC S k s g H locs → lv_has ls 5 [(0, .ref (k.1 + adC 9 i 0)), (1, .int a1), (2, .ref (k.1 + adC 19 i x2v)), (3, .int x3)] → W p l e (RmN 4 95) s m args below meth c H locs 0 0 (Fin YC S k args s below none res) (F0 m 14 ls []) := fun g x3 q H locs ls h hl => by subst q; exact ih1 _ _ _ _ _ h hl hr
    have JRn : ∀ t1, r1 = .inr t1 → t1 = res := fun t1 q => by subst q; obtain rfl := Option.some.inj hr; exact JR
    have J1 := J1n
    have JR := JRn
    clear J1n JRn
    have hf : fX4_serve_B14 g i a1 x2v x3 = some r1 := hf
    unfold fX4_serve_B14 at hf
    refine lv_iload_n X.x X.b dX4_serve_14 rfl (lv_at hl 3 rfl) ?_
    refine lv_bipush (v := 8) X.x X.b dX4_serve_15 (by decide) ?_
    refine lv_icmp_ge (tgt := 108) X.x X.b dX4_serve_17 (by decide) (fun c6 => ?_) (fun c6 => ?_)
    · have hf := wT c6 hf
      obtain ⟨t7, hf, e8⟩ := wEx_s hf
      have JR := JR t7 e8
      cases (Option.some.inj hf).trans JR
      exact ro_vret X h dX4_serve_108
    · have hf := wF c6 hf
      refine lv_aload_n X.x X.b dX4_serve_20 rfl (lv_at hl 2 rfl) ?_
      refine lv_iload_n X.x X.b dX4_serve_21 rfl (lv_at hl 3 rfl) ?_
      obtain ⟨y10, e9, hf⟩ := wBd_s hf
      refine ro_callvI (As := [.int x3]) (g1 := g) (x := y10) X h (kX9_isDone l hS hi hx2v e9) mv_X9_isDone lk_X4_201 ⟨rfl, rfl⟩ ⟨(Nat.le_of_ble_eq_true rfl), (Nat.le_of_ble_eq_true rfl)⟩ (rC_19 X h (hS 19) hi hx2v) rfl hl rfl (Nat.le_of_ble_eq_true rfl) ⟨Nat.zero_le _, Nat.zero_le _⟩ dX4_serve_22 (fun H locs h => ?_)
      refine lv_if_ne (tgt := 102) X.x X.b dX4_serve_25 (by decide) (fun c11 => ?_) (fun c11 => ?_)
      · have hf := wF c11 hf
        exact wX4_serve_b102 hS hi X hx2v h (lv_sub hl [0, 1, 2, 3] rfl) hf J1 JR
      · have hf := wT c11 hf
        refine lv_aload_n X.x X.b dX4_serve_28 rfl (lv_at hl 2 rfl) ?_
        refine lv_iload_n X.x X.b dX4_serve_29 rfl (lv_at hl 3 rfl) ?_
        obtain ⟨y15, e14, hf⟩ := wBd_s hf
        refine ro_callvI (As := [.int x3]) (g1 := g) (x := y15) X h (kX9_mayBegin l hS hi hx2v e14) mv_X9_mayBegin lk_X4_207 ⟨rfl, rfl⟩ ⟨(Nat.le_of_ble_eq_true rfl), (Nat.le_of_ble_eq_true rfl)⟩ (rC_19 X h (hS 19) hi hx2v) rfl hl rfl (Nat.le_of_ble_eq_true rfl) ⟨Nat.zero_le _, Nat.zero_le _⟩ dX4_serve_30 (fun H locs h => ?_)
        refine lv_if_ne (tgt := 39) X.x X.b dX4_serve_33 (by decide) (fun c16 => ?_) (fun c16 => ?_)
        · have hf := wF c16 hf
          refine lv_iconst (v := 2) X.x X.b dX4_serve_39 (by decide) ?_
          obtain ⟨y17, e18, hf⟩ := wLe_s hf
          refine lv_nmi e18 ?_
          refine lv_istore (lv' := [(4, .int y17), (0, .ref (k.1 + adC 9 i 0)), (1, .int a1), (2, .ref (k.1 + adC 19 i x2v)), (3, .int x3)]) X.x X.b dX4_serve_40 hl (by decide) rfl (fun ls hl => ?_)
          refine lv_aload_n X.x X.b dX4_serve_42 rfl (lv_at hl 3 rfl) ?_
          refine lv_iload_n X.x X.b dX4_serve_43 rfl (lv_at hl 4 rfl) ?_
          obtain ⟨y20, e19, hf⟩ := wBd_s hf
          refine ro_callvI (As := [.int x3]) (g1 := g) (x := y20) X h (kX9_isUnder l hS hi hx2v e19) mv_X9_isUnder lk_X4_162 ⟨rfl, rfl⟩ ⟨(Nat.le_of_ble_eq_true rfl), (Nat.le_of_ble_eq_true rfl)⟩ (rC_19 X h (hS 19) hi hx2v) rfl hl rfl (Nat.le_of_ble_eq_true rfl) ⟨Nat.zero_le _, Nat.zero_le _⟩ dX4_serve_44 (fun H locs h => ?_)
          refine lv_if_ne (tgt := 89) X.x X.b dX4_serve_47 (by decide) (fun c21 => ?_) (fun c21 => ?_)
          · have hf := wF c21 hf
            exact wX4_serve_b89 hS hi X hx2v h (lv_sub hl [1, 2, 3, 4, 0] rfl) hf J1 JR
          · have hf := wT c21 hf
            refine lv_aload_n X.x X.b dX4_serve_50 rfl (lv_at hl 1 rfl) ?_
            refine lv_aload_n X.x X.b dX4_serve_51 rfl (lv_at hl 3 rfl) ?_
            refine lv_iload_n X.x X.b dX4_serve_52 rfl (lv_at hl 4 rfl) ?_
            obtain ⟨y26, e25, hf⟩ := wBd_s hf
            refine ro_callvI (As := [.ref (k.1 + adC 19 i x2v), .int x3]) (g1 := g) (x := y26) X h (kX4_isNothing l hS hi hi hx2v e25) mv_X4_isNothing lk_X4_210 ⟨rfl, rfl⟩ ⟨(Nat.le_of_ble_eq_true rfl), (Nat.le_of_ble_eq_true rfl)⟩ (rC_9 X h (hS 9) hi Nat.one_pos) rfl hl rfl (Nat.le_of_ble_eq_true rfl) ⟨Nat.zero_le _, Nat.zero_le _⟩ dX4_serve_53 (fun H locs h => ?_)
            refine lv_if_eq (tgt := 67) X.x X.b dX4_serve_56 (by decide) (fun c27 => ?_) (fun c27 => ?_)
            · have hf := wT c27 hf
              refine lv_aload_n X.x X.b dX4_serve_67 rfl (lv_at hl 1 rfl) ?_
              refine lv_iload_n X.x X.b dX4_serve_68 rfl (lv_at hl 2 rfl) ?_
              refine lv_iload_n X.x X.b dX4_serve_69 rfl (lv_at hl 4 rfl) ?_
              obtain ⟨g30, y29, e28, hf⟩ := wB2_s hf
              refine ro_callvI (As := [.int a1, .int x3]) (g1 := g30) (x := y29) X h (kX4_hindrance l hS hi e28) mv_X4_hindrance lk_X4_214 ⟨rfl, rfl⟩ ⟨(Nat.le_of_ble_eq_true rfl), (Nat.le_of_ble_eq_true rfl)⟩ (rC_9 X h (hS 9) hi Nat.one_pos) rfl hl rfl (Nat.le_of_ble_eq_true rfl) ⟨Nat.zero_le _, Nat.zero_le _⟩ dX4_serve_70 (fun H locs h => ?_)
              refine lv_istore (lv' := [(4, .int y29), (0, .ref (k.1 + adC 9 i 0)), (1, .int a1), (2, .ref (k.1 + adC 19 i x2v)), (3, .int x3)]) X.x X.b dX4_serve_73 hl (by decide) rfl (fun ls hl => ?_)
              refine lv_iload X.x X.b dX4_serve_75 (lv_at hl 0 rfl) ?_
              refine lv_if_ge (tgt := 89) X.x X.b dX4_serve_77 (by decide) (fun c31 => ?_) (fun c31 => ?_)
              · have hf := wT c31 hf
                exact wX4_serve_b89 hS hi X hx2v h (lv_sub hl [1, 2, 3, 4, 0] rfl) hf J1 JR
              · have hf := wF c31 hf
                refine lv_aload_n X.x X.b dX4_serve_80 rfl (lv_at hl 1 rfl) ?_
                refine lv_aload_n X.x X.b dX4_serve_81 rfl (lv_at hl 3 rfl) ?_
                refine lv_iload_n X.x X.b dX4_serve_82 rfl (lv_at hl 4 rfl) ?_
                obtain ⟨g34, e32, hf⟩ := wBd_s hf
                refine ro_callvV (As := [.ref (k.1 + adC 19 i x2v), .int x3]) (g1 := g34) X h (kX4_startNow l hS hi hi hx2v e32) mv_X4_startNow lk_X4_218 ⟨rfl, rfl⟩ ⟨(Nat.le_of_ble_eq_true rfl), (Nat.le_of_ble_eq_true rfl)⟩ (rC_9 X h (hS 9) hi Nat.one_pos) rfl hl rfl (Nat.le_of_ble_eq_true rfl) ⟨Nat.zero_le _, Nat.zero_le _⟩ dX4_serve_83 (fun H locs h => ?_)
                refine lv_iconst (v := 2) X.x X.b dX4_serve_86 (by decide) ?_
                obtain ⟨y35, e36, hf⟩ := wLe_s hf
                refine lv_nmi e36 ?_
                refine lv_istore (lv' := [(4, .int y35), (0, .ref (k.1 + adC 9 i 0)), (1, .int a1), (2, .ref (k.1 + adC 19 i x2v)), (3, .int x3)]) X.x X.b dX4_serve_87 hl (by decide) rfl (fun ls hl => ?_)
                exact wX4_serve_b89 hS hi X hx2v h (lv_sub hl [1, 2, 3, 4, 0] rfl) hf J1 JR
            · have hf := wF c27 hf
              refine lv_aload_n X.x X.b dX4_serve_59 rfl (lv_at hl 3 rfl) ?_
              refine lv_iload_n X.x X.b dX4_serve_60 rfl (lv_at hl 4 rfl) ?_
              obtain ⟨g39, e37, hf⟩ := wBd_s hf
              refine ro_callvV (As := [.int x3]) (g1 := g39) X h (kX9_endAct l hS hi hx2v e37) mv_X9_endAct lk_X4_172 ⟨rfl, rfl⟩ ⟨(Nat.le_of_ble_eq_true rfl), (Nat.le_of_ble_eq_true rfl)⟩ (rC_19 X h (hS 19) hi hx2v) rfl hl rfl (Nat.le_of_ble_eq_true rfl) ⟨Nat.zero_le _, Nat.zero_le _⟩ dX4_serve_61 (fun H locs h => ?_)
              refine lv_goto (tgt := 102) X.x X.b dX4_serve_64 (by decide) ?_
              exact wX4_serve_b102 hS hi X hx2v h (lv_sub hl [1, 2, 3, 4] rfl) hf J1 JR
        · have hf := wT c16 hf
          refine lv_goto (tgt := 102) X.x X.b dX4_serve_36 (by decide) ?_
          exact wX4_serve_b102 hS hi X hx2v h (lv_sub hl [0, 1, 2, 3] rfl) hf J1 JR
set_option maxHeartbeats 4000000 in
set_option maxRecDepth 20000 in
theorem kX4_serve (l : Launch) {k : En} {S : Nat → Prop} (hS : ∀ t, S t) {i : Nat} {a1 : Int32} (hi : i < 2) {res : Mm} {g : Mm} (hf : fX4_serve g i a1 = some res) : Mt l yX4_serve cX4_serve 5 none (RmN 4 95) YC S k [.ref (k.1 + adC 9 i 0), .int a1] g none res := by
  refine Mt.of (by decide) (Nat.le_of_ble_eq_true rfl) ?_
  intro p e s m args below meth c ls X _ h hl
  have X : Cx YC S k p s m args meth c cX4_serve 5 none RX4 := X
  have hl : lv_has ls 5 [(0, .ref (k.1 + adC 9 i 0)), (1, .int a1)] := hl
  have JR : res = res := rfl
  unfold fX4_serve at hf
  refine lv_aload_n X.x X.b dX4_serve_0 rfl (lv_at hl 0 rfl) ?_
  refine gC_9_11 X h (hS 9) hi Nat.one_pos lk_X4_34 dX4_serve_1 ?_
  refine lv_iload_n X.x X.b dX4_serve_4 rfl (lv_at hl 1 rfl) ?_
  obtain ⟨b1, hf⟩ := wGi_s hf
  refine qC_16 X h (hS 16) hi Nat.one_pos b1 dX4_serve_5 ?_
  refine lv_astore_n (lv' := [(2, .ref (k.1 + adC 19 i ((a1).toNatClampNeg))), (0, .ref (k.1 + adC 9 i 0)), (1, .int a1)]) X.x X.b dX4_serve_6 rfl hl (by decide) rfl (fun ls hl => ?_)
  refine lv_aload_n X.x X.b dX4_serve_7 rfl (lv_at hl 0 rfl) ?_
  refine lv_iconst (v := (-1)) X.x X.b dX4_serve_8 (by decide) ?_
  obtain ⟨g2, e3, hf⟩ := wLe_s hf
  refine pC_19_11 X h (hS 19) hi (vin_lt b1) lk_X4_204 e3 dX4_serve_9 (fun H locs h => ?_)
  refine lv_iconst (v := 0) X.x X.b dX4_serve_12 (by decide) ?_
  obtain ⟨y4, e5, hf⟩ := wLe_s hf
  refine lv_nmi e5 ?_
  refine lv_istore_n (lv' := [(3, .int y4), (2, .ref (k.1 + adC 19 i ((a1).toNatClampNeg))), (0, .ref (k.1 + adC 9 i 0)), (1, .int a1)]) X.x X.b dX4_serve_13 rfl hl (by decide) rfl (fun ls hl => ?_)
  exact wX4_serve_L14 hS hi X (vin_lt b1) JR _ _ _ _ _ _ h (lv_sub hl [2, 3, 1, 0] rfl) hf
set_option maxHeartbeats 4000000 in
set_option maxRecDepth 20000 in
theorem kX4_iceAgain (l : Launch) {k : En} {S : Nat → Prop} (hS : ∀ t, S t) {i : Nat} {i1 : Nat} {v1 : Nat} (hi : i < 2) (hi1 : i1 < 2) (hv1 : v1 < 12) {res : Mm} {g : Mm} (hf : fX4_iceAgain g i i1 v1 = some res) : Mt l yX4_iceAgain cX4_iceAgain 2 none (RmN 3 65) YC S k [.ref (k.1 + adC 9 i 0), .ref (k.1 + adC 19 i1 v1)] g none res := by
  refine Mt.of (by decide) (Nat.le_of_ble_eq_true rfl) ?_
  intro p e s m args below meth c ls X _ h hl
  have X : Cx YC S k p s m args meth c cX4_iceAgain 2 none RX4 := X
  have hl : lv_has ls 2 [(0, .ref (k.1 + adC 9 i 0)), (1, .ref (k.1 + adC 19 i1 v1))] := hl
  have JR : res = res := rfl
  unfold fX4_iceAgain at hf
  refine lv_aload_n X.x X.b dX4_iceAgain_0 rfl (lv_at hl 1 rfl) ?_
  refine gC_19_6 X h (hS 19) hi1 hv1 lk_X4_120 dX4_iceAgain_1 ?_
  refine lv_iconst (v := 5) X.x X.b dX4_iceAgain_4 (by decide) ?_
  refine lv_icmp_ne (tgt := 35) X.x X.b dX4_iceAgain_5 (by decide) (fun c1 => ?_) (fun c1 => ?_)
  · have hf := wF c1 hf
    cases (Option.some.inj hf).trans JR
    exact ro_vret X h dX4_iceAgain_35
  · have hf := wT c1 hf
    refine lv_aload_n X.x X.b dX4_iceAgain_8 rfl (lv_at hl 1 rfl) ?_
    refine lv_bipush (v := 6) X.x X.b dX4_iceAgain_9 (by decide) ?_
    obtain ⟨y3, e2, hf⟩ := wBd_s hf
    refine ro_callvI (As := [.int (6 : Int32)]) (g1 := g) (x := y3) X h (kX9_isUnder l hS hi1 hv1 e2) mv_X9_isUnder lk_X4_162 ⟨rfl, rfl⟩ ⟨(Nat.le_of_ble_eq_true rfl), (Nat.le_of_ble_eq_true rfl)⟩ (rC_19 X h (hS 19) hi1 hv1) rfl hl rfl (Nat.le_of_ble_eq_true rfl) ⟨Nat.zero_le _, Nat.zero_le _⟩ dX4_iceAgain_11 (fun H locs h => ?_)
    refine lv_if_ne (tgt := 35) X.x X.b dX4_iceAgain_14 (by decide) (fun c4 => ?_) (fun c4 => ?_)
    · have hf := wF c4 hf
      cases (Option.some.inj hf).trans JR
      exact ro_vret X h dX4_iceAgain_35
    · have hf := wT c4 hf
      refine lv_aload_n X.x X.b dX4_iceAgain_17 rfl (lv_at hl 1 rfl) ?_
      refine lv_aload_n X.x X.b dX4_iceAgain_18 rfl (lv_at hl 0 rfl) ?_
      refine gC_9_5 X h (hS 9) hi Nat.one_pos lk_X4_11 dX4_iceAgain_19 ?_
      refine lv_bipush (v := 6) X.x X.b dX4_iceAgain_22 (by decide) ?_
      obtain ⟨b5, hf⟩ := wGi_s hf
      refine aC_10 X h (hS 10) hi Nat.one_pos b5 dX4_iceAgain_24 ?_
      refine lv_aload_n X.x X.b dX4_iceAgain_25 rfl (lv_at hl 0 rfl) ?_
      refine gC_9_0 X h (hS 9) hi Nat.one_pos lk_X4_55 dX4_iceAgain_26 ?_
      obtain ⟨y7, e6, hf⟩ := wBd_s hf
      refine ro_callvI (As := [.int (g 10 i 0 ((6 : Int32)).toNatClampNeg), .int (g 9 i 0 0)]) (g1 := g) (x := y7) X h (kX9_needsIce l hS hi1 hv1 e6) mv_X9_needsIce lk_X4_252 ⟨rfl, rfl⟩ ⟨(Nat.le_of_ble_eq_true rfl), (Nat.le_of_ble_eq_true rfl)⟩ (rC_19 X h (hS 19) hi1 hv1) rfl hl rfl (Nat.le_of_ble_eq_true rfl) ⟨Nat.zero_le _, Nat.zero_le _⟩ dX4_iceAgain_29 (fun H locs h => ?_)
      refine lv_if_ne (tgt := 36) X.x X.b dX4_iceAgain_32 (by decide) (fun c8 => ?_) (fun c8 => ?_)
      · have hf := wF c8 hf
        refine lv_aload_n X.x X.b dX4_iceAgain_36 rfl (lv_at hl 0 rfl) ?_
        refine gC_9_6 X h (hS 9) hi Nat.one_pos lk_X4_17 dX4_iceAgain_37 ?_
        refine lv_iconst (v := 4) X.x X.b dX4_iceAgain_40 (by decide) ?_
        obtain ⟨b9, hf⟩ := wGi_s hf
        refine aC_11 X h (hS 11) hi Nat.one_pos b9 dX4_iceAgain_41 ?_
        refine lv_aload_n X.x X.b dX4_iceAgain_42 rfl (lv_at hl 0 rfl) ?_
        refine gC_9_5 X h (hS 9) hi Nat.one_pos lk_X4_11 dX4_iceAgain_43 ?_
        refine lv_iconst (v := 4) X.x X.b dX4_iceAgain_46 (by decide) ?_
        obtain ⟨b10, hf⟩ := wGi_s hf
        refine aC_10 X h (hS 10) hi Nat.one_pos b10 dX4_iceAgain_47 ?_
        refine lv_icmp_ge (tgt := 58) X.x X.b dX4_iceAgain_48 (by decide) (fun c11 => ?_) (fun c11 => ?_)
        · have hf := wT c11 hf
          cases (Option.some.inj hf).trans JR
          exact ro_vret X h dX4_iceAgain_58
        · have hf := wF c11 hf
          refine lv_aload_n X.x X.b dX4_iceAgain_51 rfl (lv_at hl 0 rfl) ?_
          refine lv_aload_n X.x X.b dX4_iceAgain_52 rfl (lv_at hl 1 rfl) ?_
          refine lv_bipush (v := 6) X.x X.b dX4_iceAgain_53 (by decide) ?_
          obtain ⟨g14, e12, hf⟩ := wBd_s hf
          refine ro_callvV (As := [.ref (k.1 + adC 19 i1 v1), .int (6 : Int32)]) (g1 := g14) X h (kX4_startNow l hS hi hi1 hv1 e12) mv_X4_startNow lk_X4_218 ⟨rfl, rfl⟩ ⟨(Nat.le_of_ble_eq_true rfl), (Nat.le_of_ble_eq_true rfl)⟩ (rC_9 X h (hS 9) hi Nat.one_pos) rfl hl rfl (Nat.le_of_ble_eq_true rfl) ⟨Nat.zero_le _, Nat.zero_le _⟩ dX4_iceAgain_55 (fun H locs h => ?_)
          cases (Option.some.inj hf).trans JR
          exact ro_vret X h dX4_iceAgain_58
      · have hf := wT c8 hf
        cases (Option.some.inj hf).trans JR
        exact ro_vret X h dX4_iceAgain_35
set_option maxHeartbeats 4000000 in
set_option maxRecDepth 20000 in
theorem wX4_standFor_b106 {k : En} {S : Nat → Prop} (hS : ∀ t, S t) {g0 : Mm} {i : Nat} {i1 : Nat} {v1 : Nat} (hi : i < 2) (hi1 : i1 < 2) (hv1 : v1 < 12) {res : Int32} (X : Cx YC S k p s m args meth c cX4_standFor 6 (some .int) RX4) {x2 : Int32} {x3 : Int32} {x4 : Int32} {H : Heap} {locs : List Loc} {ls : Array Slot} (h : Hx YC S k s g0 H locs) (hl : lv_has ls 6 [(0, .ref (k.1 + adC 9 i 0)), (2, .int x2), (3, .int x3), (4, .int x4)]) {r : (Int32 × Int32) ⊕ (Int32)} (hf : fX4_standFor_b106 g0 i i1 v1 x2 x3 x4 = some r) (J1 : ∀ (x2 : Int32) (x4 : Int32), r = .inl (x2, x4) → ∀ (H : Heap) (locs : List Loc) (ls : Array Slot), Hx YC S k s g0 H locs → lv_has ls 6 [(0, .ref (k.1 + adC 9 i 0)), (2, .int x2), (3, .int x3), (4, .int x4)] → W p l e (RmN 1 21) s m args below meth c H locs 0 0 (Fin YC S k args s below (some (.int res)) g0) (F0 m 41 ls [])) (JR : ∀ t1, r = .inr t1 → t1 = res) :
    W p l e (RmN 1 21) s m args below meth c H locs 0 0 (Fin YC S k args s below (some (.int res)) g0) (F0 m 106 ls []) := by
  unfold fX4_standFor_b106 at hf
  obtain ⟨y16, e17, hf⟩ := wLe_s hf
  refine lv_iinc (v := y16) (lv' := [(4, .int y16), (0, .ref (k.1 + adC 9 i 0)), (2, .int x2), (3, .int x3)]) X.x X.b dX4_standFor_106 hl (k := 3) rfl (by rw [e17]; rfl) (by decide) rfl (fun ls hl => ?_)
  refine lv_goto (tgt := 41) X.x X.b dX4_standFor_109 (by decide) ?_
  exact J1 _ _ (Option.some.inj hf).symm _ _ _ h (lv_sub hl [1, 2, 3, 0] rfl)
set_option maxHeartbeats 4000000 in
set_option maxRecDepth 20000 in
theorem wX4_standFor_b103 {k : En} {S : Nat → Prop} (hS : ∀ t, S t) {g0 : Mm} {i : Nat} {i1 : Nat} {v1 : Nat} (hi : i < 2) (hi1 : i1 < 2) (hv1 : v1 < 12) {res : Int32} (X : Cx YC S k p s m args meth c cX4_standFor 6 (some .int) RX4) {x3 : Int32} {x4 : Int32} {H : Heap} {locs : List Loc} {ls : Array Slot} (h : Hx YC S k s g0 H locs) (hl : lv_has ls 6 [(0, .ref (k.1 + adC 9 i 0)), (3, .int x3), (4, .int x4)]) {r : (Int32 × Int32) ⊕ (Int32)} (hf : fX4_standFor_b103 g0 i i1 v1 x3 x4 = some r) (J1 : ∀ (x2 : Int32) (x4 : Int32), r = .inl (x2, x4) → ∀ (H : Heap) (locs : List Loc) (ls : Array Slot), Hx YC S k s g0 H locs → lv_has ls 6 [(0, .ref (k.1 + adC 9 i 0)), (2, .int x2), (3, .int x3), (4, .int x4)] → W p l e (RmN 1 21) s m args below meth c H locs 0 0 (Fin YC S k args s below (some (.int res)) g0) (F0 m 41 ls [])) (JR : ∀ t1, r = .inr t1 → t1 = res) :
    W p l e (RmN 1 21) s m args below meth c H locs 0 0 (Fin YC S k args s below (some (.int res)) g0) (F0 m 103 ls []) := by
  unfold fX4_standFor_b103 at hf
  refine lv_iload X.x X.b dX4_standFor_103 (lv_at hl 2 rfl) ?_
  refine lv_istore_n (lv' := [(2, .int x4), (0, .ref (k.1 + adC 9 i 0)), (3, .int x3), (4, .int x4)]) X.x X.b dX4_standFor_105 rfl hl (by decide) rfl (fun ls hl => ?_)
  exact wX4_standFor_b106 hS hi hi1 hv1 X h (lv_sub hl [1, 0, 2, 3] rfl) hf J1 JR
set_option maxHeartbeats 4000000 in
set_option maxRecDepth 20000 in
theorem wX4_standFor_b76 {k : En} {S : Nat → Prop} (hS : ∀ t, S t) {g0 : Mm} {i : Nat} {i1 : Nat} {v1 : Nat} (hi : i < 2) (hi1 : i1 < 2) (hv1 : v1 < 12) {res : Int32} (X : Cx YC S k p s m args meth c cX4_standFor 6 (some .int) RX4) {x2 : Int32} {x3 : Int32} {x4 : Int32} {z0 : Int32} {H : Heap} {locs : List Loc} {ls : Array Slot} (h : Hx YC S k s g0 H locs) (hl : lv_has ls 6 [(0, .ref (k.1 + adC 9 i 0)), (2, .int x2), (3, .int x3), (4, .int x4)]) {r : (Int32 × Int32) ⊕ (Int32)} (hf : fX4_standFor_b76 g0 i i1 v1 x2 x3 x4 z0 = some r) (J1 : ∀ (x2 : Int32) (x4 : Int32), r = .inl (x2, x4) → ∀ (H : Heap) (locs : List Loc) (ls : Array Slot), Hx YC S k s g0 H locs → lv_has ls 6 [(0, .ref (k.1 + adC 9 i 0)), (2, .int x2), (3, .int x3), (4, .int x4)] → W p l e (RmN 1 21) s m args below meth c H locs 0 0 (Fin YC S k args s below (some (.int res)) g0) (F0 m 41 ls [])) (JR : ∀ t1, r = .inr t1 → t1 = res) :
    W p l e (RmN 1 21) s m args below meth c H locs 0 0 (Fin YC S k args s below (some (.int res)) g0) (F0 m 76 ls [.int z0]) := by
  unfold fX4_standFor_b76 at hf
  refine lv_istore (lv' := [(5, .int z0), (0, .ref (k.1 + adC 9 i 0)), (2, .int x2), (3, .int x3), (4, .int x4)]) X.x X.b dX4_standFor_76 hl (by decide) rfl (fun ls hl => ?_)
  refine lv_iload X.x X.b dX4_standFor_78 (lv_at hl 0 rfl) ?_
  refine lv_if_eq (tgt := 106) X.x X.b dX4_standFor_80 (by decide) (fun c15 => ?_) (fun c15 => ?_)
  · have hf := wT c15 hf
    exact wX4_standFor_b106 hS hi hi1 hv1 X h (lv_sub hl [1, 2, 3, 4] rfl) hf J1 JR
  · have hf := wF c15 hf
    refine lv_iload_n X.x X.b dX4_standFor_83 rfl (lv_at hl 2 rfl) ?_
    refine lv_if_lt (tgt := 103) X.x X.b dX4_standFor_84 (by decide) (fun c18 => ?_) (fun c18 => ?_)
    · have hf := wT c18 hf
      exact wX4_standFor_b103 hS hi hi1 hv1 X h (lv_sub hl [1, 3, 4] rfl) hf J1 JR
    · have hf := wF c18 hf
      refine lv_aload_n X.x X.b dX4_standFor_87 rfl (lv_at hl 1 rfl) ?_
      refine gC_9_7 X h (hS 9) hi Nat.one_pos lk_X4_20 dX4_standFor_88 ?_
      refine lv_iload X.x X.b dX4_standFor_91 (lv_at hl 4 rfl) ?_
      obtain ⟨b19, hf⟩ := wGi_s hf
      refine aC_12 X h (hS 12) hi Nat.one_pos b19 dX4_standFor_93 ?_
      refine lv_aload_n X.x X.b dX4_standFor_94 rfl (lv_at hl 1 rfl) ?_
      refine gC_9_7 X h (hS 9) hi Nat.one_pos lk_X4_20 dX4_standFor_95 ?_
      refine lv_iload_n X.x X.b dX4_standFor_98 rfl (lv_at hl 2 rfl) ?_
      obtain ⟨b20, hf⟩ := wGi_s hf
      refine aC_12 X h (hS 12) hi Nat.one_pos b20 dX4_standFor_99 ?_
      refine lv_icmp_ge (tgt := 106) X.x X.b dX4_standFor_100 (by decide) (fun c21 => ?_) (fun c21 => ?_)
      · have hf := wT c21 hf
        exact wX4_standFor_b106 hS hi hi1 hv1 X h (lv_sub hl [1, 2, 3, 4] rfl) hf J1 JR
      · have hf := wF c21 hf
        exact wX4_standFor_b103 hS hi hi1 hv1 X h (lv_sub hl [1, 3, 4] rfl) hf J1 JR
set_option maxHeartbeats 4000000 in
set_option maxRecDepth 20000 in
theorem wX4_standFor_b75 {k : En} {S : Nat → Prop} (hS : ∀ t, S t) {g0 : Mm} {i : Nat} {i1 : Nat} {v1 : Nat} (hi : i < 2) (hi1 : i1 < 2) (hv1 : v1 < 12) {res : Int32} (X : Cx YC S k p s m args meth c cX4_standFor 6 (some .int) RX4) {x2 : Int32} {x3 : Int32} {x4 : Int32} {H : Heap} {locs : List Loc} {ls : Array Slot} (h : Hx YC S k s g0 H locs) (hl : lv_has ls 6 [(0, .ref (k.1 + adC 9 i 0)), (2, .int x2), (3, .int x3), (4, .int x4)]) {r : (Int32 × Int32) ⊕ (Int32)} (hf : fX4_standFor_b75 g0 i i1 v1 x2 x3 x4 = some r) (J1 : ∀ (x2 : Int32) (x4 : Int32), r = .inl (x2, x4) → ∀ (H : Heap) (locs : List Loc) (ls : Array Slot), Hx YC S k s g0 H locs → lv_has ls 6 [(0, .ref (k.1 + adC 9 i 0)), (2, .int x2), (3, .int x3), (4, .int x4)] → W p l e (RmN 1 21) s m args below meth c H locs 0 0 (Fin YC S k args s below (some (.int res)) g0) (F0 m 41 ls [])) (JR : ∀ t1, r = .inr t1 → t1 = res) :
    W p l e (RmN 1 21) s m args below meth c H locs 0 0 (Fin YC S k args s below (some (.int res)) g0) (F0 m 75 ls []) := by
  unfold fX4_standFor_b75 at hf
  refine lv_iconst (v := 0) X.x X.b dX4_standFor_75 (by decide) ?_
  exact wX4_standFor_b76 hS hi hi1 hv1 X h (lv_sub hl [0, 1, 2, 3] rfl) hf J1 JR
set_option maxHeartbeats 4000000 in
set_option maxRecDepth 20000 in
theorem wX4_standFor_L41 {k : En} {S : Nat → Prop} (hS : ∀ t, S t) {g0 : Mm} {i : Nat} {i1 : Nat} {v1 : Nat} (hi : i < 2) (hi1 : i1 < 2) (hv1 : v1 < 12) {res : Int32} (X : Cx YC S k p s m args meth c cX4_standFor 6 (some .int) RX4) {x3 : Int32} {r : Int32} (JR : r = res) :
    ∀ (fu : Nat) (x2 : Int32) (x4 : Int32) (H : Heap) (locs : List Loc) (ls : Array Slot), Hx YC S k s g0 H locs → lv_has ls 6 [(0, .ref (k.1 + adC 9 i 0)), (2, .int x2), (3, .int x3), (4, .int x4)] → wLp (fun q => fX4_standFor_B41 g0 i i1 v1 q.1 x3 q.2) fu (x2, x4) = some r → W p l e (RmN 1 21) s m args below meth c H locs 0 0 (Fin YC S k args s below (some (.int res)) g0) (F0 m 41 ls []) := by
  intro fu
  induction fu with
  | zero => intro x2 x4 H locs ls h hl hf; exact (wLp_0 hf).elim
  | succ fu ih1 =>
    intro x2 x4 H locs ls h hl hf
    obtain ⟨r1, hf, hr⟩ := wLp_s hf
    have J1n : ∀ (x2 : Int32) (x4 : Int32), r1 = .inl (x2, x4) → ∀ (H : Heap) (locs : List Loc) (ls : Array Slot), Hx YC S k s g0 H locs → lv_has ls 6 [(0, .ref (k.1 + adC 9 i 0)), (2, .int x2), (3, .int x3), (4, .int x4)] → W p l e (RmN 1 21) s m args below meth c H locs 0 0 (Fin YC S k args s below (some (.int res)) g0) (F0 m 41 ls []) := fun x2 x4 q H locs ls h hl => by subst q; exact ih1 _ _ _ _ _ h hl hr
    have JRn : ∀ t1, r1 = .inr t1 → t1 = res := fun t1 q => by subst q; obtain rfl := Option.some.inj hr; exact JR
    have J1 := J1n
    have JR := JRn
    clear J1n JRn
    have hf : fX4_standFor_B41 g0 i i1 v1 x2 x3 x4 = some r1 := hf
    unfold fX4_standFor_B41 at hf
    refine lv_iload X.x X.b dX4_standFor_41 (lv_at hl 3 rfl) ?_
    refine lv_aload_n X.x X.b dX4_standFor_43 rfl (lv_at hl 0 rfl) ?_
    refine gC_9_1 X h (hS 9) hi Nat.one_pos lk_X4_59 dX4_standFor_44 ?_
    refine lv_icmp_ge (tgt := 112) X.x X.b dX4_standFor_47 (by decide) (fun c10 => ?_) (fun c10 => ?_)
    · have hf := wT c10 hf
      obtain ⟨t11, hf, e12⟩ := wEx_s hf
      have JR := JR t11 e12
      refine lv_iload_n X.x X.b dX4_standFor_112 rfl (lv_at hl 1 rfl) ?_
      cases (Option.some.inj hf).trans JR
      exact ro_iret X h dX4_standFor_113
    · have hf := wF c10 hf
      refine lv_aload_n X.x X.b dX4_standFor_50 rfl (lv_at hl 0 rfl) ?_
      refine gC_9_8 X h (hS 9) hi Nat.one_pos lk_X4_23 dX4_standFor_51 ?_
      refine lv_iload X.x X.b dX4_standFor_54 (lv_at hl 3 rfl) ?_
      obtain ⟨b13, hf⟩ := wGi_s hf
      refine aC_13 X h (hS 13) hi Nat.one_pos b13 dX4_standFor_56 ?_
      refine lv_if_ge (tgt := 75) X.x X.b dX4_standFor_57 (by decide) (fun c14 => ?_) (fun c14 => ?_)
      · have hf := wT c14 hf
        exact wX4_standFor_b75 hS hi hi1 hv1 X h (lv_sub hl [0, 1, 2, 3] rfl) hf J1 JR
      · have hf := wF c14 hf
        refine lv_aload_n X.x X.b dX4_standFor_60 rfl (lv_at hl 0 rfl) ?_
        refine gC_9_7 X h (hS 9) hi Nat.one_pos lk_X4_20 dX4_standFor_61 ?_
        refine lv_iload X.x X.b dX4_standFor_64 (lv_at hl 3 rfl) ?_
        obtain ⟨b22, hf⟩ := wGi_s hf
        refine aC_12 X h (hS 12) hi Nat.one_pos b22 dX4_standFor_66 ?_
        refine lv_iload_n X.x X.b dX4_standFor_67 rfl (lv_at hl 2 rfl) ?_
        refine lv_icmp_lt (tgt := 75) X.x X.b dX4_standFor_68 (by decide) (fun c23 => ?_) (fun c23 => ?_)
        · have hf := wT c23 hf
          exact wX4_standFor_b75 hS hi hi1 hv1 X h (lv_sub hl [0, 1, 2, 3] rfl) hf J1 JR
        · have hf := wF c23 hf
          refine lv_iconst (v := 1) X.x X.b dX4_standFor_71 (by decide) ?_
          refine lv_goto (tgt := 76) X.x X.b dX4_standFor_72 (by decide) ?_
          exact wX4_standFor_b76 hS hi hi1 hv1 X h (lv_sub hl [0, 1, 2, 3] rfl) hf J1 JR
set_option maxHeartbeats 4000000 in
set_option maxRecDepth 20000 in
theorem wX4_standFor_b28 {k : En} {S : Nat → Prop} (hS : ∀ t, S t) {g0 : Mm} {i : Nat} {i1 : Nat} {v1 : Nat} (hi : i < 2) (hi1 : i1 < 2) (hv1 : v1 < 12) {res : Int32} (X : Cx YC S k p s m args meth c cX4_standFor 6 (some .int) RX4) {H : Heap} {locs : List Loc} {ls : Array Slot} (h : Hx YC S k s g0 H locs) (hl : lv_has ls 6 [(0, .ref (k.1 + adC 9 i 0)), (1, .ref (k.1 + adC 19 i1 v1))]) {r : Int32} (hf : fX4_standFor_b28 g0 i i1 v1 = some r) (JR : r = res) :
    W p l e (RmN 1 21) s m args below meth c H locs 0 0 (Fin YC S k args s below (some (.int res)) g0) (F0 m 28 ls []) := by
  unfold fX4_standFor_b28 at hf
  refine lv_iconst (v := (-1)) X.x X.b dX4_standFor_28 (by decide) ?_
  obtain ⟨y4, e5, hf⟩ := wLe_s hf
  refine lv_nmi e5 ?_
  refine lv_istore_n (lv' := [(2, .int y4), (0, .ref (k.1 + adC 9 i 0)), (1, .ref (k.1 + adC 19 i1 v1))]) X.x X.b dX4_standFor_29 rfl hl (by decide) rfl (fun ls hl => ?_)
  refine lv_aload_n X.x X.b dX4_standFor_30 rfl (lv_at hl 2 rfl) ?_
  refine gC_19_0 X h (hS 19) hi1 hv1 lk_X4_94 dX4_standFor_31 ?_
  obtain ⟨y7, e6, hf⟩ := wBd_s hf
  refine ro_callsI (As := [.int (g0 19 i1 v1 0)]) (g1 := g0) (x := y7) X h (kX3_size l hS e6) mv_X3_size lk_X4_97 ⟨rfl, rfl⟩ ⟨(Nat.le_of_ble_eq_true rfl), (Nat.le_of_ble_eq_true rfl)⟩ rfl hl rfl (Nat.le_of_ble_eq_true rfl) ⟨Nat.zero_le _, Nat.zero_le _⟩ dX4_standFor_34 (fun H locs h => ?_)
  refine lv_istore_n (lv' := [(3, .int y7), (2, .int y4), (0, .ref (k.1 + adC 9 i 0)), (1, .ref (k.1 + adC 19 i1 v1))]) X.x X.b dX4_standFor_37 rfl hl (by decide) rfl (fun ls hl => ?_)
  refine lv_iconst (v := 0) X.x X.b dX4_standFor_38 (by decide) ?_
  obtain ⟨y8, e9, hf⟩ := wLe_s hf
  refine lv_nmi e9 ?_
  refine lv_istore (lv' := [(4, .int y8), (3, .int y7), (2, .int y4), (0, .ref (k.1 + adC 9 i 0)), (1, .ref (k.1 + adC 19 i1 v1))]) X.x X.b dX4_standFor_39 hl (by decide) rfl (fun ls hl => ?_)
  exact wX4_standFor_L41 hS hi hi1 hv1 X JR _ _ _ _ _ _ h (lv_sub hl [3, 2, 1, 0] rfl) hf
set_option maxHeartbeats 4000000 in
set_option maxRecDepth 20000 in
theorem kX4_standFor (l : Launch) {k : En} {S : Nat → Prop} (hS : ∀ t, S t) {g0 : Mm} {i : Nat} {i1 : Nat} {v1 : Nat} (hi : i < 2) (hi1 : i1 < 2) (hv1 : v1 < 12) {res : Int32} (hf : fX4_standFor g0 i i1 v1 = some res) : Mt l yX4_standFor cX4_standFor 6 (some .int) (RmN 1 21) YC S k [.ref (k.1 + adC 9 i 0), .ref (k.1 + adC 19 i1 v1)] g0 (some (.int res)) g0 := by
  refine Mt.of (by decide) (Nat.le_of_ble_eq_true rfl) ?_
  intro p e s m args below meth c ls X _ h hl
  have X : Cx YC S k p s m args meth c cX4_standFor 6 (some .int) RX4 := X
  have hl : lv_has ls 6 [(0, .ref (k.1 + adC 9 i 0)), (1, .ref (k.1 + adC 19 i1 v1))] := hl
  have JR : res = res := rfl
  unfold fX4_standFor at hf
  refine lv_aload_n X.x X.b dX4_standFor_0 rfl (lv_at hl 0 rfl) ?_
  refine lv_aload_n X.x X.b dX4_standFor_1 rfl (lv_at hl 1 rfl) ?_
  refine gC_19_5 X h (hS 19) hi1 hv1 lk_X4_267 dX4_standFor_2 ?_
  obtain ⟨y2, e1, hf⟩ := wBd_s hf
  refine ro_callvI (As := [.int (g0 19 i1 v1 5)]) (g1 := g0) (x := y2) X h (kX4_hasStand l hS hi e1) mv_X4_hasStand lk_X4_187 ⟨rfl, rfl⟩ ⟨(Nat.le_of_ble_eq_true rfl), (Nat.le_of_ble_eq_true rfl)⟩ (rC_9 X h (hS 9) hi Nat.one_pos) rfl hl rfl (Nat.le_of_ble_eq_true rfl) ⟨Nat.zero_le _, Nat.zero_le _⟩ dX4_standFor_5 (fun H locs h => ?_)
  refine lv_if_eq (tgt := 28) X.x X.b dX4_standFor_8 (by decide) (fun c3 => ?_) (fun c3 => ?_)
  · have hf := wT c3 hf
    exact wX4_standFor_b28 hS hi hi1 hv1 X h (lv_sub hl [0, 1] rfl) hf JR
  · have hf := wF c3 hf
    refine lv_aload_n X.x X.b dX4_standFor_11 rfl (lv_at hl 0 rfl) ?_
    refine gC_9_8 X h (hS 9) hi Nat.one_pos lk_X4_23 dX4_standFor_12 ?_
    refine lv_aload_n X.x X.b dX4_standFor_15 rfl (lv_at hl 1 rfl) ?_
    refine gC_19_5 X h (hS 19) hi1 hv1 lk_X4_267 dX4_standFor_16 ?_
    obtain ⟨b24, hf⟩ := wGi_s hf
    refine aC_13 X h (hS 13) hi Nat.one_pos b24 dX4_standFor_19 ?_
    refine lv_if_ge (tgt := 28) X.x X.b dX4_standFor_20 (by decide) (fun c25 => ?_) (fun c25 => ?_)
    · have hf := wT c25 hf
      exact wX4_standFor_b28 hS hi hi1 hv1 X h (lv_sub hl [0, 1] rfl) hf JR
    · have hf := wF c25 hf
      refine lv_aload_n X.x X.b dX4_standFor_23 rfl (lv_at hl 1 rfl) ?_
      refine gC_19_5 X h (hS 19) hi1 hv1 lk_X4_267 dX4_standFor_24 ?_
      cases (Option.some.inj hf).trans JR
      exact ro_iret X h dX4_standFor_27
set_option maxHeartbeats 4000000 in
set_option maxRecDepth 20000 in
theorem kX4_isReadyToLeave (l : Launch) {k : En} {S : Nat → Prop} (hS : ∀ t, S t) {g0 : Mm} {i : Nat} {i1 : Nat} {v1 : Nat} (hi : i < 2) (hi1 : i1 < 2) (hv1 : v1 < 12) {res : Int32} (hf : fX4_isReadyToLeave g0 i i1 v1 = some res) : Mt l yX4_isReadyToLeave cX4_isReadyToLeave 2 (some .boolean) (RmN 1 22) YC S k [.ref (k.1 + adC 9 i 0), .ref (k.1 + adC 19 i1 v1)] g0 (some (.int res)) g0 := by
  refine Mt.of (by decide) (Nat.le_of_ble_eq_true rfl) ?_
  intro p e s m args below meth c ls X _ h hl
  have X : Cx YC S k p s m args meth c cX4_isReadyToLeave 2 (some .boolean) RX4 := X
  have hl : lv_has ls 2 [(0, .ref (k.1 + adC 9 i 0)), (1, .ref (k.1 + adC 19 i1 v1))] := hl
  have JR : res = res := rfl
  unfold fX4_isReadyToLeave at hf
  refine lv_aload_n X.x X.b dX4_isReadyToLeave_0 rfl (lv_at hl 1 rfl) ?_
  refine gC_19_6 X h (hS 19) hi1 hv1 lk_X4_120 dX4_isReadyToLeave_1 ?_
  refine lv_iconst (v := 5) X.x X.b dX4_isReadyToLeave_4 (by decide) ?_
  refine lv_icmp_ne (tgt := 52) X.x X.b dX4_isReadyToLeave_5 (by decide) (fun c1 => ?_) (fun c1 => ?_)
  · have hf := wF c1 hf
    refine lv_iconst (v := 0) X.x X.b dX4_isReadyToLeave_52 (by decide) ?_
    cases (Option.some.inj hf).trans JR
    exact ro_zret X h (Or.inl rfl) dX4_isReadyToLeave_53
  · have hf := wT c1 hf
    refine lv_aload_n X.x X.b dX4_isReadyToLeave_8 rfl (lv_at hl 0 rfl) ?_
    refine gC_9_0 X h (hS 9) hi Nat.one_pos lk_X4_55 dX4_isReadyToLeave_9 ?_
    refine lv_aload_n X.x X.b dX4_isReadyToLeave_12 rfl (lv_at hl 1 rfl) ?_
    refine gC_19_7 X h (hS 19) hi1 hv1 lk_X4_147 dX4_isReadyToLeave_13 ?_
    refine lv_isub X.x X.b dX4_isReadyToLeave_16 ?_
    refine lv_iconst (v := 4) X.x X.b dX4_isReadyToLeave_17 (by decide) ?_
    refine lv_icmp_lt (tgt := 52) X.x X.b dX4_isReadyToLeave_18 (by decide) (fun c2 => ?_) (fun c2 => ?_)
    · have hf := wT c2 hf
      refine lv_iconst (v := 0) X.x X.b dX4_isReadyToLeave_52 (by decide) ?_
      cases (Option.some.inj hf).trans JR
      exact ro_zret X h (Or.inl rfl) dX4_isReadyToLeave_53
    · have hf := wF c2 hf
      refine lv_aload_n X.x X.b dX4_isReadyToLeave_21 rfl (lv_at hl 1 rfl) ?_
      refine lv_bipush (v := 6) X.x X.b dX4_isReadyToLeave_22 (by decide) ?_
      obtain ⟨y4, e3, hf⟩ := wBd_s hf
      refine ro_callvI (As := [.int (6 : Int32)]) (g1 := g0) (x := y4) X h (kX9_isUnder l hS hi1 hv1 e3) mv_X9_isUnder lk_X4_162 ⟨rfl, rfl⟩ ⟨(Nat.le_of_ble_eq_true rfl), (Nat.le_of_ble_eq_true rfl)⟩ (rC_19 X h (hS 19) hi1 hv1) rfl hl rfl (Nat.le_of_ble_eq_true rfl) ⟨Nat.zero_le _, Nat.zero_le _⟩ dX4_isReadyToLeave_24 (fun H locs h => ?_)
      refine lv_if_ne (tgt := 52) X.x X.b dX4_isReadyToLeave_27 (by decide) (fun c5 => ?_) (fun c5 => ?_)
      · have hf := wF c5 hf
        refine lv_iconst (v := 0) X.x X.b dX4_isReadyToLeave_52 (by decide) ?_
        cases (Option.some.inj hf).trans JR
        exact ro_zret X h (Or.inl rfl) dX4_isReadyToLeave_53
      · have hf := wT c5 hf
        refine lv_aload_n X.x X.b dX4_isReadyToLeave_30 rfl (lv_at hl 1 rfl) ?_
        refine lv_aload_n X.x X.b dX4_isReadyToLeave_31 rfl (lv_at hl 0 rfl) ?_
        refine gC_9_5 X h (hS 9) hi Nat.one_pos lk_X4_11 dX4_isReadyToLeave_32 ?_
        refine lv_bipush (v := 6) X.x X.b dX4_isReadyToLeave_35 (by decide) ?_
        obtain ⟨b6, hf⟩ := wGi_s hf
        refine aC_10 X h (hS 10) hi Nat.one_pos b6 dX4_isReadyToLeave_37 ?_
        refine lv_aload_n X.x X.b dX4_isReadyToLeave_38 rfl (lv_at hl 0 rfl) ?_
        refine gC_9_0 X h (hS 9) hi Nat.one_pos lk_X4_55 dX4_isReadyToLeave_39 ?_
        obtain ⟨y8, e7, hf⟩ := wBd_s hf
        refine ro_callvI (As := [.int (g0 10 i 0 ((6 : Int32)).toNatClampNeg), .int (g0 9 i 0 0)]) (g1 := g0) (x := y8) X h (kX9_needsIce l hS hi1 hv1 e7) mv_X9_needsIce lk_X4_252 ⟨rfl, rfl⟩ ⟨(Nat.le_of_ble_eq_true rfl), (Nat.le_of_ble_eq_true rfl)⟩ (rC_19 X h (hS 19) hi1 hv1) rfl hl rfl (Nat.le_of_ble_eq_true rfl) ⟨Nat.zero_le _, Nat.zero_le _⟩ dX4_isReadyToLeave_42 (fun H locs h => ?_)
        refine lv_if_ne (tgt := 52) X.x X.b dX4_isReadyToLeave_45 (by decide) (fun c9 => ?_) (fun c9 => ?_)
        · have hf := wF c9 hf
          refine lv_iconst (v := 0) X.x X.b dX4_isReadyToLeave_52 (by decide) ?_
          cases (Option.some.inj hf).trans JR
          exact ro_zret X h (Or.inl rfl) dX4_isReadyToLeave_53
        · have hf := wT c9 hf
          refine lv_iconst (v := 1) X.x X.b dX4_isReadyToLeave_48 (by decide) ?_
          refine lv_goto (tgt := 53) X.x X.b dX4_isReadyToLeave_49 (by decide) ?_
          cases (Option.some.inj hf).trans JR
          exact ro_zret X h (Or.inr rfl) dX4_isReadyToLeave_53
set_option maxHeartbeats 4000000 in
set_option maxRecDepth 20000 in
theorem wX4_isReady_b36 {k : En} {S : Nat → Prop} (hS : ∀ t, S t) {i : Nat} {a1 : Int32} {a2 : Int32} (hi : i < 2) {res : Mm × Int32} (X : Cx YC S k p s m args meth c cX4_isReady 7 (some .boolean) RX4) {g : Mm} {z0 : Int32} {H : Heap} {locs : List Loc} {ls : Array Slot} (h : Hx YC S k s g H locs) (hl : lv_has ls 7 [(0, .ref (k.1 + adC 9 i 0)), (1, .int a1), (2, .int a2)]) {r : Mm × Int32} (hf : fX4_isReady_b36 g i a1 a2 z0 = some r) (JR : r = res) :
    W p l e (RmN 2 48) s m args below meth c H locs 0 0 (Fin YC S k args s below (some (.int res.2)) res.1) (F0 m 36 ls [.int z0]) := by
  unfold fX4_isReady_b36 at hf
  refine lv_istore (lv' := [(4, .int z0), (0, .ref (k.1 + adC 9 i 0)), (1, .int a1), (2, .int a2)]) X.x X.b dX4_isReady_36 hl (by decide) rfl (fun ls hl => ?_)
  refine lv_iload X.x X.b dX4_isReady_38 (lv_at hl 0 rfl) ?_
  refine lv_if_ne (tgt := 45) X.x X.b dX4_isReady_40 (by decide) (fun c5 => ?_) (fun c5 => ?_)
  · have hf := wF c5 hf
    refine lv_aload_n X.x X.b dX4_isReady_45 rfl (lv_at hl 1 rfl) ?_
    refine gC_9_10 X h (hS 9) hi Nat.one_pos lk_X4_29 dX4_isReady_46 ?_
    refine lv_iload_n X.x X.b dX4_isReady_49 rfl (lv_at hl 3 rfl) ?_
    obtain ⟨b6, hf⟩ := wGi_s hf
    refine aC_15 X h (hS 15) hi Nat.one_pos b6 dX4_isReady_50 ?_
    refine lv_if_ge (tgt := 56) X.x X.b dX4_isReady_51 (by decide) (fun c7 => ?_) (fun c7 => ?_)
    · have hf := wT c7 hf
      refine lv_aload_n X.x X.b dX4_isReady_56 rfl (lv_at hl 1 rfl) ?_
      refine lv_iload_n X.x X.b dX4_isReady_57 rfl (lv_at hl 2 rfl) ?_
      refine lv_aload_n X.x X.b dX4_isReady_58 rfl (lv_at hl 1 rfl) ?_
      refine gC_9_10 X h (hS 9) hi Nat.one_pos lk_X4_29 dX4_isReady_59 ?_
      refine lv_iload_n X.x X.b dX4_isReady_62 rfl (lv_at hl 3 rfl) ?_
      obtain ⟨b8, hf⟩ := wGi_s hf
      refine aC_15 X h (hS 15) hi Nat.one_pos b8 dX4_isReady_63 ?_
      obtain ⟨g11, e9, hf⟩ := wBd_s hf
      refine ro_callvV (As := [.int a1, .int (g 15 i 0 (a2).toNatClampNeg)]) (g1 := g11) X h (kX4_learn l hS hi e9) mv_X4_learn lk_X4_240 ⟨rfl, rfl⟩ ⟨(Nat.le_of_ble_eq_true rfl), (Nat.le_of_ble_eq_true rfl)⟩ (rC_9 X h (hS 9) hi Nat.one_pos) rfl hl rfl (Nat.le_of_ble_eq_true rfl) ⟨Nat.zero_le _, Nat.zero_le _⟩ dX4_isReady_64 (fun H locs h => ?_)
      refine lv_aload_n X.x X.b dX4_isReady_67 rfl (lv_at hl 1 rfl) ?_
      refine gC_9_9 X h (hS 9) hi Nat.one_pos lk_X4_26 dX4_isReady_68 ?_
      refine lv_iload_n X.x X.b dX4_isReady_71 rfl (lv_at hl 3 rfl) ?_
      obtain ⟨b12, hf⟩ := wGi_s hf
      refine aC_14 X h (hS 14) hi Nat.one_pos b12 dX4_isReady_72 ?_
      refine lv_i2l X.x X.b dX4_isReady_73 rfl ?_
      refine lv_iconst (v := 0) X.x X.b dX4_isReady_74 (by decide) ?_
      refine lv_aload_n X.x X.b dX4_isReady_75 rfl (lv_at hl 1 rfl) ?_
      obtain ⟨n13, hb15, e14, hf⟩ := wGr_s hf
      refine gC_9_4 X h (hS 9) hi Nat.one_pos lk_X4_49 e14 dX4_isReady_76 ?_
      refine lv_iconst (v := 1) X.x X.b dX4_isReady_79 (by decide) ?_
      refine lv_aload_n X.x X.b dX4_isReady_80 rfl (lv_at hl 1 rfl) ?_
      refine gC_9_13 X h (hS 9) hi Nat.one_pos lk_X4_46 dX4_isReady_81 ?_
      obtain ⟨g18, y17, e16, hf⟩ := wB2_s hf
      refine ro_callvI (As := [.int (1 : Int32), .ref (k.1 + adC 18 i 0)]) (g1 := g18) (x := y17) X h (kX6_says l hS hb15 hi e16) mv_X6_says lk_X4_243 ⟨rfl, rfl⟩ ⟨(Nat.le_of_ble_eq_true rfl), (Nat.le_of_ble_eq_true rfl)⟩ (rC_5 X h (hS 5) hb15 Nat.one_pos) rfl hl rfl (Nat.le_of_ble_eq_true rfl) ⟨Nat.zero_le _, Nat.zero_le _⟩ dX4_isReady_84 (fun H locs h => ?_)
      refine ro_max X hl lk_X4_247 mx_f (Nat.le_of_ble_eq_true rfl) (Nat.le_of_ble_eq_true rfl) ⟨Nat.zero_le _, Nat.zero_le _⟩ dX4_isReady_87 ?_
      refine lv_i2l X.x X.b dX4_isReady_90 rfl ?_
      refine lv_ladd X.x X.b dX4_isReady_91 ?_
      obtain ⟨y19, e20, hf⟩ := wLe_s hf
      refine lv_nml e20 ?_
      refine lv_lstore (lv' := [(5, .long y19), (4, .int z0), (0, .ref (k.1 + adC 9 i 0)), (1, .int a1), (2, .int a2)]) X.x X.b dX4_isReady_92 hl (by decide) rfl (fun ls hl => ?_)
      refine lv_aload_n X.x X.b dX4_isReady_94 rfl (lv_at hl 2 rfl) ?_
      refine gC_9_0 X h (hS 9) hi Nat.one_pos lk_X4_55 dX4_isReady_95 ?_
      refine lv_i2l X.x X.b dX4_isReady_98 rfl ?_
      refine lv_lload X.x X.b dX4_isReady_99 (lv_at hl 0 rfl) ?_
      refine W.lcmp X.x X.b dX4_isReady_101 ?_
      refine lv_if_lt (tgt := 109) X.x X.b dX4_isReady_102 (by decide) (fun c21 => ?_) (fun c21 => ?_)
      · have hf := wT c21 hf
        refine lv_iconst (v := 0) X.x X.b dX4_isReady_109 (by decide) ?_
        cases (Option.some.inj hf).trans JR
        exact ro_zret X h (Or.inl rfl) dX4_isReady_110
      · have hf := wF c21 hf
        refine lv_iconst (v := 1) X.x X.b dX4_isReady_105 (by decide) ?_
        refine lv_goto (tgt := 110) X.x X.b dX4_isReady_106 (by decide) ?_
        cases (Option.some.inj hf).trans JR
        exact ro_zret X h (Or.inr rfl) dX4_isReady_110
    · have hf := wF c7 hf
      refine lv_iconst (v := 1) X.x X.b dX4_isReady_54 (by decide) ?_
      cases (Option.some.inj hf).trans JR
      exact ro_zret X h (Or.inr rfl) dX4_isReady_55
  · have hf := wT c5 hf
    refine lv_iconst (v := 0) X.x X.b dX4_isReady_43 (by decide) ?_
    cases (Option.some.inj hf).trans JR
    exact ro_zret X h (Or.inl rfl) dX4_isReady_44
set_option maxHeartbeats 4000000 in
set_option maxRecDepth 20000 in
theorem kX4_isReady (l : Launch) {k : En} {S : Nat → Prop} (hS : ∀ t, S t) {i : Nat} {a1 : Int32} {a2 : Int32} (hi : i < 2) {res : Mm × Int32} {g : Mm} (hf : fX4_isReady g i a1 a2 = some res) : Mt l yX4_isReady cX4_isReady 7 (some .boolean) (RmN 2 48) YC S k [.ref (k.1 + adC 9 i 0), .int a1, .int a2] g (some (.int res.2)) res.1 := by
  refine Mt.of (by decide) (Nat.le_of_ble_eq_true rfl) ?_
  intro p e s m args below meth c ls X _ h hl
  have X : Cx YC S k p s m args meth c cX4_isReady 7 (some .boolean) RX4 := X
  have hl : lv_has ls 7 [(0, .ref (k.1 + adC 9 i 0)), (1, .int a1), (2, .int a2)] := hl
  have JR : res = res := rfl
  unfold fX4_isReady at hf
  refine lv_aload_n X.x X.b dX4_isReady_0 rfl (lv_at hl 0 rfl) ?_
  refine gC_9_11 X h (hS 9) hi Nat.one_pos lk_X4_34 dX4_isReady_1 ?_
  refine lv_iload_n X.x X.b dX4_isReady_4 rfl (lv_at hl 1 rfl) ?_
  obtain ⟨b1, hf⟩ := wGi_s hf
  refine qC_16 X h (hS 16) hi Nat.one_pos b1 dX4_isReady_5 ?_
  refine lv_astore_n (lv' := [(3, .ref (k.1 + adC 19 i ((a1).toNatClampNeg))), (0, .ref (k.1 + adC 9 i 0)), (1, .int a1), (2, .int a2)]) X.x X.b dX4_isReady_6 rfl hl (by decide) rfl (fun ls hl => ?_)
  refine lv_aload_n X.x X.b dX4_isReady_7 rfl (lv_at hl 0 rfl) ?_
  refine gC_19_6 X h (hS 19) hi (vin_lt b1) lk_X4_120 dX4_isReady_8 ?_
  refine lv_iconst (v := 1) X.x X.b dX4_isReady_11 (by decide) ?_
  refine lv_icmp_ne (tgt := 31) X.x X.b dX4_isReady_12 (by decide) (fun c2 => ?_) (fun c2 => ?_)
  · have hf := wF c2 hf
    refine lv_aload_n X.x X.b dX4_isReady_31 rfl (lv_at hl 1 rfl) ?_
    refine lv_aload_n X.x X.b dX4_isReady_32 rfl (lv_at hl 0 rfl) ?_
    obtain ⟨y4, e3, hf⟩ := wBd_s hf
    refine ro_callvI (As := [.ref (k.1 + adC 19 i ((a1).toNatClampNeg))]) (g1 := g) (x := y4) X h (kX4_isReadyToLeave l hS hi hi (vin_lt b1) e3) mv_X4_isReadyToLeave lk_X4_263 ⟨rfl, rfl⟩ ⟨(Nat.le_of_ble_eq_true rfl), (Nat.le_of_ble_eq_true rfl)⟩ (rC_9 X h (hS 9) hi Nat.one_pos) rfl hl rfl (Nat.le_of_ble_eq_true rfl) ⟨Nat.zero_le _, Nat.zero_le _⟩ dX4_isReady_33 (fun H locs h => ?_)
    exact wX4_isReady_b36 hS hi X h (lv_sub hl [1, 2, 3] rfl) hf JR
  · have hf := wT c2 hf
    refine lv_aload_n X.x X.b dX4_isReady_15 rfl (lv_at hl 1 rfl) ?_
    refine lv_aload_n X.x X.b dX4_isReady_16 rfl (lv_at hl 0 rfl) ?_
    obtain ⟨y23, e22, hf⟩ := wBd_s hf
    refine ro_callvI (As := [.ref (k.1 + adC 19 i ((a1).toNatClampNeg))]) (g1 := g) (x := y23) X h (kX4_standFor l hS hi hi (vin_lt b1) e22) mv_X4_standFor lk_X4_259 ⟨rfl, rfl⟩ ⟨(Nat.le_of_ble_eq_true rfl), (Nat.le_of_ble_eq_true rfl)⟩ (rC_9 X h (hS 9) hi Nat.one_pos) rfl hl rfl (Nat.le_of_ble_eq_true rfl) ⟨Nat.zero_le _, Nat.zero_le _⟩ dX4_isReady_17 (fun H locs h => ?_)
    refine lv_if_lt (tgt := 27) X.x X.b dX4_isReady_20 (by decide) (fun c24 => ?_) (fun c24 => ?_)
    · have hf := wT c24 hf
      refine lv_iconst (v := 0) X.x X.b dX4_isReady_27 (by decide) ?_
      refine lv_goto (tgt := 36) X.x X.b dX4_isReady_28 (by decide) ?_
      exact wX4_isReady_b36 hS hi X h (lv_sub hl [1, 2, 3] rfl) hf JR
    · have hf := wF c24 hf
      refine lv_iconst (v := 1) X.x X.b dX4_isReady_23 (by decide) ?_
      refine lv_goto (tgt := 36) X.x X.b dX4_isReady_24 (by decide) ?_
      exact wX4_isReady_b36 hS hi X h (lv_sub hl [1, 2, 3] rfl) hf JR
set_option maxHeartbeats 4000000 in
set_option maxRecDepth 20000 in
theorem wX4_bestFor_b83 {k : En} {S : Nat → Prop} (hS : ∀ t, S t) {i : Nat} {a1 : Int32} (hi : i < 2) {res : Mm × Int32} (X : Cx YC S k p s m args meth c cX4_bestFor 6 (some .int) RX4) {g : Mm} {x2 : Int32} {x3 : Int32} {x4 : Int32} {H : Heap} {locs : List Loc} {ls : Array Slot} (h : Hx YC S k s g H locs) (hl : lv_has ls 6 [(0, .ref (k.1 + adC 9 i 0)), (1, .int a1), (2, .int x2), (3, .int x3), (4, .int x4)]) {r : (Mm × Int32 × Int32 × Int32) ⊕ (Mm × Int32)} (hf : fX4_bestFor_b83 g i a1 x2 x3 x4 = some r) (J1 : ∀ (g : Mm) (x2 : Int32) (x3 : Int32) (x4 : Int32), r = .inl (g, x2, x3, x4) → ∀ (H : Heap) (locs : List Loc) (ls : Array Slot), Hx YC S k s g H locs → lv_has ls 6 [(0, .ref (k.1 + adC 9 i 0)), (1, .int a1), (2, .int x2), (3, .int x3), (4, .int x4)] → W p l e (RmN 3 74) s m args below meth c H locs 0 0 (Fin YC S k args s below (some (.int res.2)) res.1) (F0 m 22 ls [])) (JR : ∀ t1, r = .inr t1 → t1 = res) :
    W p l e (RmN 3 74) s m args below meth c H locs 0 0 (Fin YC S k args s below (some (.int res.2)) res.1) (F0 m 83 ls []) := by
  unfold fX4_bestFor_b83 at hf
  obtain ⟨y16, e17, hf⟩ := wLe_s hf
  refine lv_iinc (v := y16) (lv' := [(4, .int y16), (0, .ref (k.1 + adC 9 i 0)), (1, .int a1), (2, .int x2), (3, .int x3)]) X.x X.b dX4_bestFor_83 hl (k := 4) rfl (by rw [e17]; rfl) (by decide) rfl (fun ls hl => ?_)
  refine lv_goto (tgt := 22) X.x X.b dX4_bestFor_86 (by decide) ?_
  exact J1 _ _ _ _ (Option.some.inj hf).symm _ _ _ h (lv_sub hl [1, 2, 3, 4, 0] rfl)
set_option maxHeartbeats 4000000 in
set_option maxRecDepth 20000 in
theorem wX4_bestFor_b77 {k : En} {S : Nat → Prop} (hS : ∀ t, S t) {i : Nat} {a1 : Int32} (hi : i < 2) {res : Mm × Int32} (X : Cx YC S k p s m args meth c cX4_bestFor 6 (some .int) RX4) {g : Mm} {x4 : Int32} {x5 : Int32} {H : Heap} {locs : List Loc} {ls : Array Slot} (h : Hx YC S k s g H locs) (hl : lv_has ls 6 [(0, .ref (k.1 + adC 9 i 0)), (1, .int a1), (4, .int x4), (5, .int x5)]) {r : (Mm × Int32 × Int32 × Int32) ⊕ (Mm × Int32)} (hf : fX4_bestFor_b77 g i a1 x4 x5 = some r) (J1 : ∀ (g : Mm) (x2 : Int32) (x3 : Int32) (x4 : Int32), r = .inl (g, x2, x3, x4) → ∀ (H : Heap) (locs : List Loc) (ls : Array Slot), Hx YC S k s g H locs → lv_has ls 6 [(0, .ref (k.1 + adC 9 i 0)), (1, .int a1), (2, .int x2), (3, .int x3), (4, .int x4)] → W p l e (RmN 3 74) s m args below meth c H locs 0 0 (Fin YC S k args s below (some (.int res.2)) res.1) (F0 m 22 ls [])) (JR : ∀ t1, r = .inr t1 → t1 = res) :
    W p l e (RmN 3 74) s m args below meth c H locs 0 0 (Fin YC S k args s below (some (.int res.2)) res.1) (F0 m 77 ls []) := by
  unfold fX4_bestFor_b77 at hf
  refine lv_iload X.x X.b dX4_bestFor_77 (lv_at hl 2 rfl) ?_
  refine lv_istore_n (lv' := [(2, .int x4), (0, .ref (k.1 + adC 9 i 0)), (1, .int a1), (4, .int x4), (5, .int x5)]) X.x X.b dX4_bestFor_79 rfl hl (by decide) rfl (fun ls hl => ?_)
  refine lv_iload X.x X.b dX4_bestFor_80 (lv_at hl 4 rfl) ?_
  refine lv_istore_n (lv' := [(3, .int x5), (2, .int x4), (0, .ref (k.1 + adC 9 i 0)), (1, .int a1), (4, .int x4), (5, .int x5)]) X.x X.b dX4_bestFor_82 rfl hl (by decide) rfl (fun ls hl => ?_)
  exact wX4_bestFor_b83 hS hi X h (lv_sub hl [2, 3, 1, 0, 4] rfl) hf J1 JR
set_option maxHeartbeats 4000000 in
set_option maxRecDepth 20000 in
theorem wX4_bestFor_L22 {k : En} {S : Nat → Prop} (hS : ∀ t, S t) {i : Nat} {a1 : Int32} (hi : i < 2) {res : Mm × Int32} (X : Cx YC S k p s m args meth c cX4_bestFor 6 (some .int) RX4) {r : Mm × Int32} (JR : r = res) :
    ∀ (fu : Nat) (g : Mm) (x2 : Int32) (x3 : Int32) (x4 : Int32) (H : Heap) (locs : List Loc) (ls : Array Slot), Hx YC S k s g H locs → lv_has ls 6 [(0, .ref (k.1 + adC 9 i 0)), (1, .int a1), (2, .int x2), (3, .int x3), (4, .int x4)] → wLp (fun q => fX4_bestFor_B22 q.1 i a1 q.2.1 q.2.2.1 q.2.2.2) fu (g, x2, x3, x4) = some r → W p l e (RmN 3 74) s m args below meth c H locs 0 0 (Fin YC S k args s below (some (.int res.2)) res.1) (F0 m 22 ls []) := by
  intro fu
  induction fu with
  | zero => intro g x2 x3 x4 H locs ls h hl hf; exact (wLp_0 hf).elim
  | succ fu ih1 =>
    intro g x2 x3 x4 H locs ls h hl hf
    obtain ⟨r1, hf, hr⟩ := wLp_s hf
    have J1n : ∀ (g : Mm) (x2 : Int32) (x3 : Int32) (x4 : Int32), r1 = .inl (g, x2, x3, x4) → ∀ (H : Heap) (locs : List Loc) (ls : Array Slot), Hx YC S k s g H locs → lv_has ls 6 [(0, .ref (k.1 + adC 9 i 0)), (1, .int a1), (2, .int x2), (3, .int x3), (4, .int x4)] → W p l e (RmN 3 74) s m args below meth c H locs 0 0 (Fin YC S k args s below (some (.int res.2)) res.1) (F0 m 22 ls []) := fun g x2 x3 x4 q H locs ls h hl => by subst q; exact ih1 _ _ _ _ _ _ _ h hl hr
    have JRn : ∀ t1, r1 = .inr t1 → t1 = res := fun t1 q => by subst q; obtain rfl := Option.some.inj hr; exact JR
    have J1 := J1n
    have JR := JRn
    clear J1n JRn
    have hf : fX4_bestFor_B22 g i a1 x2 x3 x4 = some r1 := hf
    unfold fX4_bestFor_B22 at hf
    refine lv_iload X.x X.b dX4_bestFor_22 (lv_at hl 4 rfl) ?_
    refine lv_aload_n X.x X.b dX4_bestFor_24 rfl (lv_at hl 0 rfl) ?_
    refine gC_9_2 X h (hS 9) hi Nat.one_pos lk_X4_62 dX4_bestFor_25 ?_
    refine lv_icmp_ge (tgt := 89) X.x X.b dX4_bestFor_28 (by decide) (fun c9 => ?_) (fun c9 => ?_)
    · have hf := wT c9 hf
      obtain ⟨t10, hf, e11⟩ := wEx_s hf
      have JR := JR t10 e11
      refine lv_iload_n X.x X.b dX4_bestFor_89 rfl (lv_at hl 2 rfl) ?_
      cases (Option.some.inj hf).trans JR
      exact ro_iret X h dX4_bestFor_90
    · have hf := wF c9 hf
      refine lv_aload_n X.x X.b dX4_bestFor_31 rfl (lv_at hl 0 rfl) ?_
      refine lv_iload X.x X.b dX4_bestFor_32 (lv_at hl 4 rfl) ?_
      refine lv_iload_n X.x X.b dX4_bestFor_34 rfl (lv_at hl 1 rfl) ?_
      obtain ⟨g14, y13, e12, hf⟩ := wB2_s hf
      refine ro_callvI (As := [.int x4, .int a1]) (g1 := g14) (x := y13) X h (kX4_isReady l hS hi e12) mv_X4_isReady lk_X4_256 ⟨rfl, rfl⟩ ⟨(Nat.le_of_ble_eq_true rfl), (Nat.le_of_ble_eq_true rfl)⟩ (rC_9 X h (hS 9) hi Nat.one_pos) rfl hl rfl (Nat.le_of_ble_eq_true rfl) ⟨Nat.zero_le _, Nat.zero_le _⟩ dX4_bestFor_35 (fun H locs h => ?_)
      refine lv_if_eq (tgt := 83) X.x X.b dX4_bestFor_38 (by decide) (fun c15 => ?_) (fun c15 => ?_)
      · have hf := wT c15 hf
        exact wX4_bestFor_b83 hS hi X h (lv_sub hl [0, 1, 2, 3, 4] rfl) hf J1 JR
      · have hf := wF c15 hf
        refine lv_aload_n X.x X.b dX4_bestFor_41 rfl (lv_at hl 0 rfl) ?_
        refine lv_iload X.x X.b dX4_bestFor_42 (lv_at hl 4 rfl) ?_
        refine lv_aload_n X.x X.b dX4_bestFor_44 rfl (lv_at hl 0 rfl) ?_
        refine gC_9_10 X h (hS 9) hi Nat.one_pos lk_X4_29 dX4_bestFor_45 ?_
        refine lv_iload_n X.x X.b dX4_bestFor_48 rfl (lv_at hl 1 rfl) ?_
        obtain ⟨b18, hf⟩ := wGi_s hf
        refine aC_15 X h (hS 15) hi Nat.one_pos b18 dX4_bestFor_49 ?_
        obtain ⟨g21, e19, hf⟩ := wBd_s hf
        refine ro_callvV (As := [.int x4, .int (g14 15 i 0 (a1).toNatClampNeg)]) (g1 := g21) X h (kX4_learn l hS hi e19) mv_X4_learn lk_X4_240 ⟨rfl, rfl⟩ ⟨(Nat.le_of_ble_eq_true rfl), (Nat.le_of_ble_eq_true rfl)⟩ (rC_9 X h (hS 9) hi Nat.one_pos) rfl hl rfl (Nat.le_of_ble_eq_true rfl) ⟨Nat.zero_le _, Nat.zero_le _⟩ dX4_bestFor_50 (fun H locs h => ?_)
        refine lv_aload_n X.x X.b dX4_bestFor_53 rfl (lv_at hl 0 rfl) ?_
        obtain ⟨n22, hb24, e23, hf⟩ := wGr_s hf
        refine gC_9_4 X h (hS 9) hi Nat.one_pos lk_X4_49 e23 dX4_bestFor_54 ?_
        refine lv_iconst (v := 0) X.x X.b dX4_bestFor_57 (by decide) ?_
        refine lv_aload_n X.x X.b dX4_bestFor_58 rfl (lv_at hl 0 rfl) ?_
        refine gC_9_13 X h (hS 9) hi Nat.one_pos lk_X4_46 dX4_bestFor_59 ?_
        obtain ⟨g27, y26, e25, hf⟩ := wB2_s hf
        refine ro_callvI (As := [.int (0 : Int32), .ref (k.1 + adC 18 i 0)]) (g1 := g27) (x := y26) X h (kX6_says l hS hb24 hi e25) mv_X6_says lk_X4_243 ⟨rfl, rfl⟩ ⟨(Nat.le_of_ble_eq_true rfl), (Nat.le_of_ble_eq_true rfl)⟩ (rC_5 X h (hS 5) hb24 Nat.one_pos) rfl hl rfl (Nat.le_of_ble_eq_true rfl) ⟨Nat.zero_le _, Nat.zero_le _⟩ dX4_bestFor_62 (fun H locs h => ?_)
        refine lv_istore (lv' := [(5, .int y26), (0, .ref (k.1 + adC 9 i 0)), (1, .int a1), (2, .int x2), (3, .int x3), (4, .int x4)]) X.x X.b dX4_bestFor_65 hl (by decide) rfl (fun ls hl => ?_)
        refine lv_iload_n X.x X.b dX4_bestFor_67 rfl (lv_at hl 3 rfl) ?_
        refine lv_if_lt (tgt := 77) X.x X.b dX4_bestFor_68 (by decide) (fun c28 => ?_) (fun c28 => ?_)
        · have hf := wT c28 hf
          exact wX4_bestFor_b77 hS hi X h (lv_sub hl [1, 2, 5, 0] rfl) hf J1 JR
        · have hf := wF c28 hf
          refine lv_iload X.x X.b dX4_bestFor_71 (lv_at hl 0 rfl) ?_
          refine lv_iload_n X.x X.b dX4_bestFor_73 rfl (lv_at hl 4 rfl) ?_
          refine lv_icmp_le (tgt := 83) X.x X.b dX4_bestFor_74 (by decide) (fun c29 => ?_) (fun c29 => ?_)
          · have hf := wT c29 hf
            exact wX4_bestFor_b83 hS hi X h (lv_sub hl [1, 2, 3, 4, 5] rfl) hf J1 JR
          · have hf := wF c29 hf
            exact wX4_bestFor_b77 hS hi X h (lv_sub hl [1, 2, 5, 0] rfl) hf J1 JR
set_option maxHeartbeats 4000000 in
set_option maxRecDepth 20000 in
theorem kX4_bestFor (l : Launch) {k : En} {S : Nat → Prop} (hS : ∀ t, S t) {i : Nat} {a1 : Int32} (hi : i < 2) {res : Mm × Int32} {g : Mm} (hf : fX4_bestFor g i a1 = some res) : Mt l yX4_bestFor cX4_bestFor 6 (some .int) (RmN 3 74) YC S k [.ref (k.1 + adC 9 i 0), .int a1] g (some (.int res.2)) res.1 := by
  refine Mt.of (by decide) (Nat.le_of_ble_eq_true rfl) ?_
  intro p e s m args below meth c ls X _ h hl
  have X : Cx YC S k p s m args meth c cX4_bestFor 6 (some .int) RX4 := X
  have hl : lv_has ls 6 [(0, .ref (k.1 + adC 9 i 0)), (1, .int a1)] := hl
  have JR : res = res := rfl
  unfold fX4_bestFor at hf
  refine lv_aload_n X.x X.b dX4_bestFor_0 rfl (lv_at hl 0 rfl) ?_
  refine gC_9_0 X h (hS 9) hi Nat.one_pos lk_X4_55 dX4_bestFor_1 ?_
  refine lv_aload_n X.x X.b dX4_bestFor_4 rfl (lv_at hl 0 rfl) ?_
  refine gC_9_9 X h (hS 9) hi Nat.one_pos lk_X4_26 dX4_bestFor_5 ?_
  refine lv_iload_n X.x X.b dX4_bestFor_8 rfl (lv_at hl 1 rfl) ?_
  obtain ⟨b1, hf⟩ := wGi_s hf
  refine aC_14 X h (hS 14) hi Nat.one_pos b1 dX4_bestFor_9 ?_
  refine lv_icmp_ge (tgt := 15) X.x X.b dX4_bestFor_10 (by decide) (fun c2 => ?_) (fun c2 => ?_)
  · have hf := wT c2 hf
    refine lv_iconst (v := (-1)) X.x X.b dX4_bestFor_15 (by decide) ?_
    obtain ⟨y3, e4, hf⟩ := wLe_s hf
    refine lv_nmi e4 ?_
    refine lv_istore_n (lv' := [(2, .int y3), (0, .ref (k.1 + adC 9 i 0)), (1, .int a1)]) X.x X.b dX4_bestFor_16 rfl hl (by decide) rfl (fun ls hl => ?_)
    refine lv_iconst (v := 0) X.x X.b dX4_bestFor_17 (by decide) ?_
    obtain ⟨y5, e6, hf⟩ := wLe_s hf
    refine lv_nmi e6 ?_
    refine lv_istore_n (lv' := [(3, .int y5), (2, .int y3), (0, .ref (k.1 + adC 9 i 0)), (1, .int a1)]) X.x X.b dX4_bestFor_18 rfl hl (by decide) rfl (fun ls hl => ?_)
    refine lv_iconst (v := 0) X.x X.b dX4_bestFor_19 (by decide) ?_
    obtain ⟨y7, e8, hf⟩ := wLe_s hf
    refine lv_nmi e8 ?_
    refine lv_istore (lv' := [(4, .int y7), (3, .int y5), (2, .int y3), (0, .ref (k.1 + adC 9 i 0)), (1, .int a1)]) X.x X.b dX4_bestFor_20 hl (by decide) rfl (fun ls hl => ?_)
    exact wX4_bestFor_L22 hS hi X JR _ _ _ _ _ _ _ _ h (lv_sub hl [3, 4, 2, 1, 0] rfl) hf
  · have hf := wF c2 hf
    refine lv_iconst (v := (-1)) X.x X.b dX4_bestFor_13 (by decide) ?_
    cases (Option.some.inj hf).trans JR
    exact ro_iret X h dX4_bestFor_14
set_option maxHeartbeats 4000000 in
set_option maxRecDepth 20000 in
theorem wX4_giveRunway_b76 {k : En} {S : Nat → Prop} (hS : ∀ t, S t) {i : Nat} {a1 : Int32} {a2 : Int32} (hi : i < 2) {res : Mm} (X : Cx YC S k p s m args meth c cX4_giveRunway 4 none RX4) {g : Mm} {x3v : Nat} (hx3v : x3v < 12) {H : Heap} {locs : List Loc} {ls : Array Slot} (h : Hx YC S k s g H locs) (hl : lv_has ls 4 [(0, .ref (k.1 + adC 9 i 0)), (1, .int a1), (3, .ref (k.1 + adC 19 i x3v))]) {r : Mm} (hf : fX4_giveRunway_b76 g i a1 a2 x3v = some r) (JR : r = res) :
    W p l e (RmN 2 46) s m args below meth c H locs 0 0 (Fin YC S k args s below none res) (F0 m 76 ls []) := by
  unfold fX4_giveRunway_b76 at hf
  refine lv_aload_n X.x X.b dX4_giveRunway_76 rfl (lv_at hl 0 rfl) ?_
  refine gC_9_9 X h (hS 9) hi Nat.one_pos lk_X4_26 dX4_giveRunway_77 ?_
  refine lv_iload_n X.x X.b dX4_giveRunway_80 rfl (lv_at hl 1 rfl) ?_
  refine lv_aload_n X.x X.b dX4_giveRunway_81 rfl (lv_at hl 0 rfl) ?_
  refine gC_9_0 X h (hS 9) hi Nat.one_pos lk_X4_55 dX4_giveRunway_82 ?_
  refine lv_aload_n X.x X.b dX4_giveRunway_85 rfl (lv_at hl 2 rfl) ?_
  refine gC_19_0 X h (hS 19) hi hx3v lk_X4_94 dX4_giveRunway_86 ?_
  obtain ⟨y10, e9, hf⟩ := wBd_s hf
  refine ro_callsI (As := [.int (g 19 i x3v 0)]) (g1 := g) (x := y10) X h (kX3_roll l hS e9) mv_X3_roll lk_X4_156 ⟨rfl, rfl⟩ ⟨(Nat.le_of_ble_eq_true rfl), (Nat.le_of_ble_eq_true rfl)⟩ rfl hl rfl (Nat.le_of_ble_eq_true rfl) ⟨Nat.zero_le _, Nat.zero_le _⟩ dX4_giveRunway_89 (fun H locs h => ?_)
  refine lv_iadd X.x X.b dX4_giveRunway_92 ?_
  obtain ⟨b11, hf⟩ := wGi_s hf
  obtain ⟨g12, e13, hf⟩ := wLe_s hf
  refine bC_14 X h (hS 14) hi Nat.one_pos e13 b11 dX4_giveRunway_93 (fun H locs h => ?_)
  refine lv_aload_n X.x X.b dX4_giveRunway_94 rfl (lv_at hl 0 rfl) ?_
  refine gC_9_10 X h (hS 9) hi Nat.one_pos lk_X4_29 dX4_giveRunway_95 ?_
  refine lv_iload_n X.x X.b dX4_giveRunway_98 rfl (lv_at hl 1 rfl) ?_
  refine lv_aload_n X.x X.b dX4_giveRunway_99 rfl (lv_at hl 2 rfl) ?_
  refine gC_19_0 X h (hS 19) hi hx3v lk_X4_94 dX4_giveRunway_100 ?_
  obtain ⟨b14, hf⟩ := wGi_s hf
  obtain ⟨g15, e16, hf⟩ := wLe_s hf
  refine bC_15 X h (hS 15) hi Nat.one_pos e16 b14 dX4_giveRunway_103 (fun H locs h => ?_)
  cases (Option.some.inj hf).trans JR
  exact ro_vret X h dX4_giveRunway_104
set_option maxHeartbeats 4000000 in
set_option maxRecDepth 20000 in
theorem wX4_giveRunway_b54 {k : En} {S : Nat → Prop} (hS : ∀ t, S t) {i : Nat} {a1 : Int32} {a2 : Int32} (hi : i < 2) {res : Mm} (X : Cx YC S k p s m args meth c cX4_giveRunway 4 none RX4) {g : Mm} {x3v : Nat} (hx3v : x3v < 12) {H : Heap} {locs : List Loc} {ls : Array Slot} (h : Hx YC S k s g H locs) (hl : lv_has ls 4 [(0, .ref (k.1 + adC 9 i 0)), (1, .int a1), (3, .ref (k.1 + adC 19 i x3v))]) {r : Mm} (hf : fX4_giveRunway_b54 g i a1 a2 x3v = some r) (JR : r = res) :
    W p l e (RmN 2 46) s m args below meth c H locs 0 0 (Fin YC S k args s below none res) (F0 m 54 ls []) := by
  unfold fX4_giveRunway_b54 at hf
  refine lv_aload_n X.x X.b dX4_giveRunway_54 rfl (lv_at hl 2 rfl) ?_
  refine lv_iconst (v := 2) X.x X.b dX4_giveRunway_55 (by decide) ?_
  refine lv_aload_n X.x X.b dX4_giveRunway_56 rfl (lv_at hl 0 rfl) ?_
  refine gC_9_0 X h (hS 9) hi Nat.one_pos lk_X4_55 dX4_giveRunway_57 ?_
  obtain ⟨g26, e24, hf⟩ := wBd_s hf
  refine ro_callvV (As := [.int (2 : Int32), .int (g 9 i 0 0)]) (g1 := g26) X h (kX9_enter l hS hi hx3v e24) mv_X9_enter lk_X4_153 ⟨rfl, rfl⟩ ⟨(Nat.le_of_ble_eq_true rfl), (Nat.le_of_ble_eq_true rfl)⟩ (rC_19 X h (hS 19) hi hx3v) rfl hl rfl (Nat.le_of_ble_eq_true rfl) ⟨Nat.zero_le _, Nat.zero_le _⟩ dX4_giveRunway_60 (fun H locs h => ?_)
  refine lv_goto (tgt := 76) X.x X.b dX4_giveRunway_63 (by decide) ?_
  exact wX4_giveRunway_b76 hS hi X hx3v h (lv_sub hl [0, 1, 2] rfl) hf JR
set_option maxHeartbeats 4000000 in
set_option maxRecDepth 20000 in
theorem kX4_giveRunway (l : Launch) {k : En} {S : Nat → Prop} (hS : ∀ t, S t) {i : Nat} {a1 : Int32} {a2 : Int32} (hi : i < 2) {res : Mm} {g : Mm} (hf : fX4_giveRunway g i a1 a2 = some res) : Mt l yX4_giveRunway cX4_giveRunway 4 none (RmN 2 46) YC S k [.ref (k.1 + adC 9 i 0), .int a1, .int a2] g none res := by
  refine Mt.of (by decide) (Nat.le_of_ble_eq_true rfl) ?_
  intro p e s m args below meth c ls X _ h hl
  have X : Cx YC S k p s m args meth c cX4_giveRunway 4 none RX4 := X
  have hl : lv_has ls 4 [(0, .ref (k.1 + adC 9 i 0)), (1, .int a1), (2, .int a2)] := hl
  have JR : res = res := rfl
  unfold fX4_giveRunway at hf
  refine lv_aload_n X.x X.b dX4_giveRunway_0 rfl (lv_at hl 0 rfl) ?_
  refine lv_iload_n X.x X.b dX4_giveRunway_1 rfl (lv_at hl 2 rfl) ?_
  obtain ⟨y2, e1, hf⟩ := wBd_s hf
  refine ro_callvI (As := [.int a2]) (g1 := g) (x := y2) X h (kX4_hasVisit l hS hi e1) mv_X4_hasVisit lk_X4_270 ⟨rfl, rfl⟩ ⟨(Nat.le_of_ble_eq_true rfl), (Nat.le_of_ble_eq_true rfl)⟩ (rC_9 X h (hS 9) hi Nat.one_pos) rfl hl rfl (Nat.le_of_ble_eq_true rfl) ⟨Nat.zero_le _, Nat.zero_le _⟩ dX4_giveRunway_2 (fun H locs h => ?_)
  refine lv_if_ne (tgt := 9) X.x X.b dX4_giveRunway_5 (by decide) (fun c3 => ?_) (fun c3 => ?_)
  · have hf := wF c3 hf
    refine lv_aload_n X.x X.b dX4_giveRunway_9 rfl (lv_at hl 0 rfl) ?_
    refine gC_9_11 X h (hS 9) hi Nat.one_pos lk_X4_34 dX4_giveRunway_10 ?_
    refine lv_iload_n X.x X.b dX4_giveRunway_13 rfl (lv_at hl 2 rfl) ?_
    obtain ⟨b4, hf⟩ := wGi_s hf
    refine qC_16 X h (hS 16) hi Nat.one_pos b4 dX4_giveRunway_14 ?_
    refine lv_astore_n (lv' := [(3, .ref (k.1 + adC 19 i ((a2).toNatClampNeg))), (0, .ref (k.1 + adC 9 i 0)), (1, .int a1), (2, .int a2)]) X.x X.b dX4_giveRunway_15 rfl hl (by decide) rfl (fun ls hl => ?_)
    refine lv_aload_n X.x X.b dX4_giveRunway_16 rfl (lv_at hl 0 rfl) ?_
    refine gC_19_6 X h (hS 19) hi (vin_lt b4) lk_X4_120 dX4_giveRunway_17 ?_
    refine lv_iconst (v := 1) X.x X.b dX4_giveRunway_20 (by decide) ?_
    refine lv_icmp_ne (tgt := 66) X.x X.b dX4_giveRunway_21 (by decide) (fun c5 => ?_) (fun c5 => ?_)
    · have hf := wF c5 hf
      refine lv_aload_n X.x X.b dX4_giveRunway_66 rfl (lv_at hl 0 rfl) ?_
      refine lv_bipush (v := 6) X.x X.b dX4_giveRunway_67 (by decide) ?_
      refine lv_aload_n X.x X.b dX4_giveRunway_69 rfl (lv_at hl 1 rfl) ?_
      refine gC_9_0 X h (hS 9) hi Nat.one_pos lk_X4_55 dX4_giveRunway_70 ?_
      obtain ⟨g8, e6, hf⟩ := wBd_s hf
      refine ro_callvV (As := [.int (6 : Int32), .int (g 9 i 0 0)]) (g1 := g8) X h (kX9_enter l hS hi (vin_lt b4) e6) mv_X9_enter lk_X4_153 ⟨rfl, rfl⟩ ⟨(Nat.le_of_ble_eq_true rfl), (Nat.le_of_ble_eq_true rfl)⟩ (rC_19 X h (hS 19) hi (vin_lt b4)) rfl hl rfl (Nat.le_of_ble_eq_true rfl) ⟨Nat.zero_le _, Nat.zero_le _⟩ dX4_giveRunway_73 (fun H locs h => ?_)
      exact wX4_giveRunway_b76 hS hi X (vin_lt b4) h (lv_sub hl [1, 2, 0] rfl) hf JR
    · have hf := wT c5 hf
      refine lv_aload_n X.x X.b dX4_giveRunway_24 rfl (lv_at hl 0 rfl) ?_
      refine lv_aload_n X.x X.b dX4_giveRunway_25 rfl (lv_at hl 1 rfl) ?_
      refine lv_aload_n X.x X.b dX4_giveRunway_26 rfl (lv_at hl 0 rfl) ?_
      obtain ⟨y18, e17, hf⟩ := wBd_s hf
      refine ro_callvI (As := [.ref (k.1 + adC 19 i ((a2).toNatClampNeg))]) (g1 := g) (x := y18) X h (kX4_standFor l hS hi hi (vin_lt b4) e17) mv_X4_standFor lk_X4_259 ⟨rfl, rfl⟩ ⟨(Nat.le_of_ble_eq_true rfl), (Nat.le_of_ble_eq_true rfl)⟩ (rC_9 X h (hS 9) hi Nat.one_pos) rfl hl rfl (Nat.le_of_ble_eq_true rfl) ⟨Nat.zero_le _, Nat.zero_le _⟩ dX4_giveRunway_27 (fun H locs h => ?_)
      obtain ⟨g19, e20, hf⟩ := wLe_s hf
      refine pC_19_8 X h (hS 19) hi (vin_lt b4) lk_X4_184 e20 dX4_giveRunway_30 (fun H locs h => ?_)
      refine lv_aload_n X.x X.b dX4_giveRunway_33 rfl (lv_at hl 1 rfl) ?_
      refine lv_aload_n X.x X.b dX4_giveRunway_34 rfl (lv_at hl 0 rfl) ?_
      refine gC_19_8 X h (hS 19) hi (vin_lt b4) lk_X4_184 dX4_giveRunway_35 ?_
      obtain ⟨y22, e21, hf⟩ := wBd_s hf
      refine ro_callvI (As := [.int (g19 19 i ((a2).toNatClampNeg) 8)]) (g1 := g19) (x := y22) X h (kX4_hasStand l hS hi e21) mv_X4_hasStand lk_X4_187 ⟨rfl, rfl⟩ ⟨(Nat.le_of_ble_eq_true rfl), (Nat.le_of_ble_eq_true rfl)⟩ (rC_9 X h (hS 9) hi Nat.one_pos) rfl hl rfl (Nat.le_of_ble_eq_true rfl) ⟨Nat.zero_le _, Nat.zero_le _⟩ dX4_giveRunway_38 (fun H locs h => ?_)
      refine lv_if_eq (tgt := 54) X.x X.b dX4_giveRunway_41 (by decide) (fun c23 => ?_) (fun c23 => ?_)
      · have hf := wT c23 hf
        exact wX4_giveRunway_b54 hS hi X (vin_lt b4) h (lv_sub hl [1, 2, 0] rfl) hf JR
      · have hf := wF c23 hf
        refine lv_aload_n X.x X.b dX4_giveRunway_44 rfl (lv_at hl 1 rfl) ?_
        refine gC_9_8 X h (hS 9) hi Nat.one_pos lk_X4_23 dX4_giveRunway_45 ?_
        refine lv_aload_n X.x X.b dX4_giveRunway_48 rfl (lv_at hl 0 rfl) ?_
        refine gC_19_8 X h (hS 19) hi (vin_lt b4) lk_X4_184 dX4_giveRunway_49 ?_
        refine lv_iload_n X.x X.b dX4_giveRunway_52 rfl (lv_at hl 3 rfl) ?_
        obtain ⟨b27, hf⟩ := wGi_s hf
        obtain ⟨g28, e29, hf⟩ := wLe_s hf
        refine bC_13 X h (hS 13) hi Nat.one_pos e29 b27 dX4_giveRunway_53 (fun H locs h => ?_)
        exact wX4_giveRunway_b54 hS hi X (vin_lt b4) h (lv_sub hl [1, 2, 0] rfl) hf JR
  · have hf := wT c3 hf
    cases (Option.some.inj hf).trans JR
    exact ro_vret X h dX4_giveRunway_8
set_option maxHeartbeats 4000000 in
set_option maxRecDepth 20000 in
theorem kX4_causeOfRunways (l : Launch) {k : En} {S : Nat → Prop} (hS : ∀ t, S t) {g0 : Mm} {i : Nat} (hi : i < 2) {res : Int32} (hf : fX4_causeOfRunways g0 i = some res) : Mt l yX4_causeOfRunways cX4_causeOfRunways 1 (some .int) (RmN 0 0) YC S k [.ref (k.1 + adC 9 i 0)] g0 (some (.int res)) g0 := by
  refine Mt.of (by decide) (Nat.le_of_ble_eq_true rfl) ?_
  intro p e s m args below meth c ls X _ h hl
  have X : Cx YC S k p s m args meth c cX4_causeOfRunways 1 (some .int) RX4 := X
  have hl : lv_has ls 1 [(0, .ref (k.1 + adC 9 i 0))] := hl
  have JR : res = res := rfl
  unfold fX4_causeOfRunways at hf
  refine lv_aload_n X.x X.b dX4_causeOfRunways_0 rfl (lv_at hl 0 rfl) ?_
  refine gC_9_5 X h (hS 9) hi Nat.one_pos lk_X4_11 dX4_causeOfRunways_1 ?_
  refine lv_iconst (v := 5) X.x X.b dX4_causeOfRunways_4 (by decide) ?_
  obtain ⟨b1, hf⟩ := wGi_s hf
  refine aC_10 X h (hS 10) hi Nat.one_pos b1 dX4_causeOfRunways_5 ?_
  refine lv_iconst (v := 1) X.x X.b dX4_causeOfRunways_6 (by decide) ?_
  refine lv_icmp_ne (tgt := 26) X.x X.b dX4_causeOfRunways_7 (by decide) (fun c2 => ?_) (fun c2 => ?_)
  · have hf := wF c2 hf
    refine lv_iconst (v := 5) X.x X.b dX4_causeOfRunways_26 (by decide) ?_
    cases (Option.some.inj hf).trans JR
    exact ro_iret X h dX4_causeOfRunways_27
  · have hf := wT c2 hf
    refine lv_aload_n X.x X.b dX4_causeOfRunways_10 rfl (lv_at hl 0 rfl) ?_
    refine gC_9_5 X h (hS 9) hi Nat.one_pos lk_X4_11 dX4_causeOfRunways_11 ?_
    refine lv_bipush (v := 8) X.x X.b dX4_causeOfRunways_14 (by decide) ?_
    obtain ⟨b3, hf⟩ := wGi_s hf
    refine aC_10 X h (hS 10) hi Nat.one_pos b3 dX4_causeOfRunways_16 ?_
    refine lv_iconst (v := 2) X.x X.b dX4_causeOfRunways_17 (by decide) ?_
    refine lv_icmp_ne (tgt := 26) X.x X.b dX4_causeOfRunways_18 (by decide) (fun c4 => ?_) (fun c4 => ?_)
    · have hf := wF c4 hf
      refine lv_iconst (v := 5) X.x X.b dX4_causeOfRunways_26 (by decide) ?_
      cases (Option.some.inj hf).trans JR
      exact ro_iret X h dX4_causeOfRunways_27
    · have hf := wT c4 hf
      refine lv_bipush (v := 6) X.x X.b dX4_causeOfRunways_21 (by decide) ?_
      refine lv_goto (tgt := 27) X.x X.b dX4_causeOfRunways_23 (by decide) ?_
      cases (Option.some.inj hf).trans JR
      exact ro_iret X h dX4_causeOfRunways_27
set_option maxHeartbeats 4000000 in
set_option maxRecDepth 20000 in
theorem kX4_causeNow (l : Launch) {k : En} {S : Nat → Prop} (hS : ∀ t, S t) {g0 : Mm} {i : Nat} {i1 : Nat} {v1 : Nat} (hi : i < 2) (hi1 : i1 < 2) (hv1 : v1 < 12) {res : Int32} (hf : fX4_causeNow g0 i i1 v1 = some res) : Mt l yX4_causeNow cX4_causeNow 2 (some .int) (RmN 2 46) YC S k [.ref (k.1 + adC 9 i 0), .ref (k.1 + adC 19 i1 v1)] g0 (some (.int res)) g0 := by
  refine Mt.of (by decide) (Nat.le_of_ble_eq_true rfl) ?_
  intro p e s m args below meth c ls X _ h hl
  have X : Cx YC S k p s m args meth c cX4_causeNow 2 (some .int) RX4 := X
  have hl : lv_has ls 2 [(0, .ref (k.1 + adC 9 i 0)), (1, .ref (k.1 + adC 19 i1 v1))] := hl
  have JR : res = res := rfl
  unfold fX4_causeNow at hf
  refine lv_aload_n X.x X.b dX4_causeNow_0 rfl (lv_at hl 1 rfl) ?_
  refine gC_19_6 X h (hS 19) hi1 hv1 lk_X4_120 dX4_causeNow_1 ?_
  obtain ⟨y1, e2, hf⟩ := wLe_s hf
  refine lv_nmi e2 ?_
  by_cases c3 : y1 = (1 : Int32)
  · have hf := wT c3 hf
    refine lv_tableIn (off := 36) (tgt := 40) X.x X.b dX4_causeNow_4 (by rw [c3]; decide) (by rw [c3]; decide) (by rw [c3]; rfl) (by decide) ?_
    refine lv_aload_n X.x X.b dX4_causeNow_40 rfl (lv_at hl 0 rfl) ?_
    refine lv_aload_n X.x X.b dX4_causeNow_41 rfl (lv_at hl 1 rfl) ?_
    obtain ⟨y5, e4, hf⟩ := wBd_s hf
    refine ro_callvI (As := [.ref (k.1 + adC 19 i1 v1)]) (g1 := g0) (x := y5) X h (kX4_standFor l hS hi hi1 hv1 e4) mv_X4_standFor lk_X4_259 ⟨rfl, rfl⟩ ⟨(Nat.le_of_ble_eq_true rfl), (Nat.le_of_ble_eq_true rfl)⟩ (rC_9 X h (hS 9) hi Nat.one_pos) rfl hl rfl (Nat.le_of_ble_eq_true rfl) ⟨Nat.zero_le _, Nat.zero_le _⟩ dX4_causeNow_42 (fun H locs h => ?_)
    refine lv_if_ge (tgt := 52) X.x X.b dX4_causeNow_45 (by decide) (fun c6 => ?_) (fun c6 => ?_)
    · have hf := wT c6 hf
      refine lv_aload_n X.x X.b dX4_causeNow_52 rfl (lv_at hl 0 rfl) ?_
      obtain ⟨y8, e7, hf⟩ := wBd_s hf
      refine ro_callvI (As := []) (g1 := g0) (x := y8) X h (kX4_causeOfRunways l hS hi e7) mv_X4_causeOfRunways lk_X4_279 ⟨rfl, rfl⟩ ⟨(Nat.le_of_ble_eq_true rfl), (Nat.le_of_ble_eq_true rfl)⟩ (rC_9 X h (hS 9) hi Nat.one_pos) rfl hl rfl (Nat.le_of_ble_eq_true rfl) ⟨Nat.zero_le _, Nat.zero_le _⟩ dX4_causeNow_53 (fun H locs h => ?_)
      cases (Option.some.inj hf).trans JR
      exact ro_iret X h dX4_causeNow_56
    · have hf := wF c6 hf
      refine lv_iconst (v := 1) X.x X.b dX4_causeNow_48 (by decide) ?_
      refine lv_goto (tgt := 56) X.x X.b dX4_causeNow_49 (by decide) ?_
      cases (Option.some.inj hf).trans JR
      exact ro_iret X h dX4_causeNow_56
  · have hf := wF c3 hf
    by_cases c9 : y1 = (2 : Int32)
    · have hf := wT c9 hf
      refine lv_tableIn (off := 110) (tgt := 114) X.x X.b dX4_causeNow_4 (by rw [c9]; decide) (by rw [c9]; decide) (by rw [c9]; rfl) (by decide) ?_
      refine lv_iconst (v := 0) X.x X.b dX4_causeNow_114 (by decide) ?_
      cases (Option.some.inj hf).trans JR
      exact ro_iret X h dX4_causeNow_115
    · have hf := wF c9 hf
      by_cases c10 : y1 = (3 : Int32)
      · have hf := wT c10 hf
        refine lv_tableIn (off := 110) (tgt := 114) X.x X.b dX4_causeNow_4 (by rw [c10]; decide) (by rw [c10]; decide) (by rw [c10]; rfl) (by decide) ?_
        refine lv_iconst (v := 0) X.x X.b dX4_causeNow_114 (by decide) ?_
        cases (Option.some.inj hf).trans JR
        exact ro_iret X h dX4_causeNow_115
      · have hf := wF c10 hf
        by_cases c11 : y1 = (4 : Int32)
        · have hf := wT c11 hf
          refine lv_tableIn (off := 53) (tgt := 57) X.x X.b dX4_causeNow_4 (by rw [c11]; decide) (by rw [c11]; decide) (by rw [c11]; rfl) (by decide) ?_
          refine lv_aload_n X.x X.b dX4_causeNow_57 rfl (lv_at hl 1 rfl) ?_
          refine gC_19_11 X h (hS 19) hi1 hv1 lk_X4_204 dX4_causeNow_58 ?_
          cases (Option.some.inj hf).trans JR
          exact ro_iret X h dX4_causeNow_61
        · have hf := wF c11 hf
          by_cases c12 : y1 = (5 : Int32)
          · have hf := wT c12 hf
            refine lv_tableIn (off := 58) (tgt := 62) X.x X.b dX4_causeNow_4 (by rw [c12]; decide) (by rw [c12]; decide) (by rw [c12]; rfl) (by decide) ?_
            refine lv_aload_n X.x X.b dX4_causeNow_62 rfl (lv_at hl 1 rfl) ?_
            refine lv_bipush (v := 6) X.x X.b dX4_causeNow_63 (by decide) ?_
            obtain ⟨y14, e13, hf⟩ := wBd_s hf
            refine ro_callvI (As := [.int (6 : Int32)]) (g1 := g0) (x := y14) X h (kX9_isUnder l hS hi1 hv1 e13) mv_X9_isUnder lk_X4_162 ⟨rfl, rfl⟩ ⟨(Nat.le_of_ble_eq_true rfl), (Nat.le_of_ble_eq_true rfl)⟩ (rC_19 X h (hS 19) hi1 hv1) rfl hl rfl (Nat.le_of_ble_eq_true rfl) ⟨Nat.zero_le _, Nat.zero_le _⟩ dX4_causeNow_65 (fun H locs h => ?_)
            refine lv_if_ne (tgt := 89) X.x X.b dX4_causeNow_68 (by decide) (fun c15 => ?_) (fun c15 => ?_)
            · have hf := wF c15 hf
              refine lv_bipush (v := 8) X.x X.b dX4_causeNow_89 (by decide) ?_
              cases (Option.some.inj hf).trans JR
              exact ro_iret X h dX4_causeNow_91
            · have hf := wT c15 hf
              refine lv_aload_n X.x X.b dX4_causeNow_71 rfl (lv_at hl 1 rfl) ?_
              refine lv_aload_n X.x X.b dX4_causeNow_72 rfl (lv_at hl 0 rfl) ?_
              refine gC_9_5 X h (hS 9) hi Nat.one_pos lk_X4_11 dX4_causeNow_73 ?_
              refine lv_bipush (v := 6) X.x X.b dX4_causeNow_76 (by decide) ?_
              obtain ⟨b16, hf⟩ := wGi_s hf
              refine aC_10 X h (hS 10) hi Nat.one_pos b16 dX4_causeNow_78 ?_
              refine lv_aload_n X.x X.b dX4_causeNow_79 rfl (lv_at hl 0 rfl) ?_
              refine gC_9_0 X h (hS 9) hi Nat.one_pos lk_X4_55 dX4_causeNow_80 ?_
              obtain ⟨y18, e17, hf⟩ := wBd_s hf
              refine ro_callvI (As := [.int (g0 10 i 0 ((6 : Int32)).toNatClampNeg), .int (g0 9 i 0 0)]) (g1 := g0) (x := y18) X h (kX9_needsIce l hS hi1 hv1 e17) mv_X9_needsIce lk_X4_252 ⟨rfl, rfl⟩ ⟨(Nat.le_of_ble_eq_true rfl), (Nat.le_of_ble_eq_true rfl)⟩ (rC_19 X h (hS 19) hi1 hv1) rfl hl rfl (Nat.le_of_ble_eq_true rfl) ⟨Nat.zero_le _, Nat.zero_le _⟩ dX4_causeNow_83 (fun H locs h => ?_)
              refine lv_if_eq (tgt := 92) X.x X.b dX4_causeNow_86 (by decide) (fun c19 => ?_) (fun c19 => ?_)
              · have hf := wT c19 hf
                refine lv_aload_n X.x X.b dX4_causeNow_92 rfl (lv_at hl 0 rfl) ?_
                refine gC_9_0 X h (hS 9) hi Nat.one_pos lk_X4_55 dX4_causeNow_93 ?_
                refine lv_aload_n X.x X.b dX4_causeNow_96 rfl (lv_at hl 1 rfl) ?_
                refine gC_19_7 X h (hS 19) hi1 hv1 lk_X4_147 dX4_causeNow_97 ?_
                refine lv_isub X.x X.b dX4_causeNow_100 ?_
                refine lv_iconst (v := 4) X.x X.b dX4_causeNow_101 (by decide) ?_
                refine lv_icmp_ge (tgt := 109) X.x X.b dX4_causeNow_102 (by decide) (fun c20 => ?_) (fun c20 => ?_)
                · have hf := wT c20 hf
                  refine lv_aload_n X.x X.b dX4_causeNow_109 rfl (lv_at hl 0 rfl) ?_
                  obtain ⟨y22, e21, hf⟩ := wBd_s hf
                  refine ro_callvI (As := []) (g1 := g0) (x := y22) X h (kX4_causeOfRunways l hS hi e21) mv_X4_causeOfRunways lk_X4_279 ⟨rfl, rfl⟩ ⟨(Nat.le_of_ble_eq_true rfl), (Nat.le_of_ble_eq_true rfl)⟩ (rC_9 X h (hS 9) hi Nat.one_pos) rfl hl rfl (Nat.le_of_ble_eq_true rfl) ⟨Nat.zero_le _, Nat.zero_le _⟩ dX4_causeNow_110 (fun H locs h => ?_)
                  cases (Option.some.inj hf).trans JR
                  exact ro_iret X h dX4_causeNow_113
                · have hf := wF c20 hf
                  refine lv_iconst (v := 2) X.x X.b dX4_causeNow_105 (by decide) ?_
                  refine lv_goto (tgt := 113) X.x X.b dX4_causeNow_106 (by decide) ?_
                  cases (Option.some.inj hf).trans JR
                  exact ro_iret X h dX4_causeNow_113
              · have hf := wF c19 hf
                refine lv_bipush (v := 8) X.x X.b dX4_causeNow_89 (by decide) ?_
                cases (Option.some.inj hf).trans JR
                exact ro_iret X h dX4_causeNow_91
          · have hf := wF c12 hf
            refine lv_tableOut (tgt := 114) X.x X.b dX4_causeNow_4 (by have q0 := lv_neT c3 (a := 1) rfl; have q1 := lv_neT c9 (a := 2) rfl; have q2 := lv_neT c10 (a := 3) rfl; have q3 := lv_neT c11 (a := 4) rfl; have q4 := lv_neT c12 (a := 5) rfl; omega) (by decide) ?_
            refine lv_iconst (v := 0) X.x X.b dX4_causeNow_114 (by decide) ?_
            cases (Option.some.inj hf).trans JR
            exact ro_iret X h dX4_causeNow_115
set_option maxHeartbeats 4000000 in
set_option maxRecDepth 20000 in
theorem kX4_blame (l : Launch) {k : En} {S : Nat → Prop} (hS : ∀ t, S t) {i : Nat} {i1 : Nat} {v1 : Nat} (hi : i < 2) (hi1 : i1 < 2) (hv1 : v1 < 12) {res : Mm} {g : Mm} (hf : fX4_blame g i i1 v1 = some res) : Mt l yX4_blame cX4_blame 3 none (RmN 3 67) YC S k [.ref (k.1 + adC 9 i 0), .ref (k.1 + adC 19 i1 v1)] g none res := by
  refine Mt.of (by decide) (Nat.le_of_ble_eq_true rfl) ?_
  intro p e s m args below meth c ls X _ h hl
  have X : Cx YC S k p s m args meth c cX4_blame 3 none RX4 := X
  have hl : lv_has ls 3 [(0, .ref (k.1 + adC 9 i 0)), (1, .ref (k.1 + adC 19 i1 v1))] := hl
  have JR : res = res := rfl
  unfold fX4_blame at hf
  refine lv_aload_n X.x X.b dX4_blame_0 rfl (lv_at hl 1 rfl) ?_
  refine gC_19_6 X h (hS 19) hi1 hv1 lk_X4_120 dX4_blame_1 ?_
  refine lv_iconst (v := 5) X.x X.b dX4_blame_4 (by decide) ?_
  refine lv_icmp_gt (tgt := 19) X.x X.b dX4_blame_5 (by decide) (fun c1 => ?_) (fun c1 => ?_)
  · have hf := wT c1 hf
    cases (Option.some.inj hf).trans JR
    exact ro_vret X h dX4_blame_19
  · have hf := wF c1 hf
    refine lv_aload_n X.x X.b dX4_blame_8 rfl (lv_at hl 0 rfl) ?_
    refine gC_9_0 X h (hS 9) hi Nat.one_pos lk_X4_55 dX4_blame_9 ?_
    refine lv_aload_n X.x X.b dX4_blame_12 rfl (lv_at hl 1 rfl) ?_
    refine gC_19_2 X h (hS 19) hi1 hv1 lk_X4_228 dX4_blame_13 ?_
    refine lv_icmp_ge (tgt := 20) X.x X.b dX4_blame_16 (by decide) (fun c2 => ?_) (fun c2 => ?_)
    · have hf := wT c2 hf
      refine lv_aload_n X.x X.b dX4_blame_20 rfl (lv_at hl 0 rfl) ?_
      refine lv_aload_n X.x X.b dX4_blame_21 rfl (lv_at hl 1 rfl) ?_
      obtain ⟨y4, e3, hf⟩ := wBd_s hf
      refine ro_callvI (As := [.ref (k.1 + adC 19 i1 v1)]) (g1 := g) (x := y4) X h (kX4_causeNow l hS hi hi1 hv1 e3) mv_X4_causeNow lk_X4_273 ⟨rfl, rfl⟩ ⟨(Nat.le_of_ble_eq_true rfl), (Nat.le_of_ble_eq_true rfl)⟩ (rC_9 X h (hS 9) hi Nat.one_pos) rfl hl rfl (Nat.le_of_ble_eq_true rfl) ⟨Nat.zero_le _, Nat.zero_le _⟩ dX4_blame_22 (fun H locs h => ?_)
      refine lv_istore_n (lv' := [(2, .int y4), (0, .ref (k.1 + adC 9 i 0)), (1, .ref (k.1 + adC 19 i1 v1))]) X.x X.b dX4_blame_25 rfl hl (by decide) rfl (fun ls hl => ?_)
      refine lv_iload_n X.x X.b dX4_blame_26 rfl (lv_at hl 0 rfl) ?_
      refine lv_if_lt (tgt := 40) X.x X.b dX4_blame_27 (by decide) (fun c5 => ?_) (fun c5 => ?_)
      · have hf := wT c5 hf
        cases (Option.some.inj hf).trans JR
        exact ro_vret X h dX4_blame_40
      · have hf := wF c5 hf
        refine lv_aload_n X.x X.b dX4_blame_30 rfl (lv_at hl 2 rfl) ?_
        refine gC_19_14 X h (hS 19) hi1 hv1 lk_X4_276 dX4_blame_31 ?_
        refine lv_iload_n X.x X.b dX4_blame_34 rfl (lv_at hl 0 rfl) ?_
        refine lv_dup2_11 X.x X.b dX4_blame_35 rfl rfl ?_
        obtain ⟨b6, hf⟩ := wGi_s hf
        refine aC_21 X h (hS 21) hi1 hv1 b6 dX4_blame_36 ?_
        refine lv_iconst (v := 1) X.x X.b dX4_blame_37 (by decide) ?_
        refine lv_iadd X.x X.b dX4_blame_38 ?_
        obtain ⟨b7, hf⟩ := wGi_s hf
        obtain ⟨g8, e9, hf⟩ := wLe_s hf
        refine bC_21 X h (hS 21) hi1 hv1 e9 b7 dX4_blame_39 (fun H locs h => ?_)
        cases (Option.some.inj hf).trans JR
        exact ro_vret X h dX4_blame_40
    · have hf := wF c2 hf
      cases (Option.some.inj hf).trans JR
      exact ro_vret X h dX4_blame_19
set_option maxHeartbeats 4000000 in
set_option maxRecDepth 20000 in
theorem wX4_step_L180 {k : En} {S : Nat → Prop} (hS : ∀ t, S t) {i : Nat} (hi : i < 2) {res : Mm} (X : Cx YC S k p s m args meth c cX4_step 3 none RX4) {r : Mm} (JR : r = res) :
    ∀ (fu : Nat) (g : Mm) (x2 : Int32) (H : Heap) (locs : List Loc) (ls : Array Slot), Hx YC S k s g H locs → lv_has ls 3 [(0, .ref (k.1 + adC 9 i 0)), (2, .int x2)] → wLp (fun q => fX4_step_B180 q.1 i q.2) fu (g, x2) = some r → W p l e (RmN 5 119) s m args below meth c H locs 0 0 (Fin YC S k args s below none res) (F0 m 180 ls []) := by
  intro fu
  induction fu with
  | zero => intro g x2 H locs ls h hl hf; exact (wLp_0 hf).elim
  | succ fu ih1 =>
    intro g x2 H locs ls h hl hf
    obtain ⟨r1, hf, hr⟩ := wLp_s hf
    have J1n : ∀ (g : Mm) (x2 : Int32), r1 = .inl (g, x2) → ∀ (H : Heap) (locs : List Loc) (ls : Array Slot), Hx YC S k s g H locs → lv_has ls 3 [(0, .ref (k.1 + adC 9 i 0)), (2, .int x2)] → W p l e (RmN 5 119) s m args below meth c H locs 0 0 (Fin YC S k args s below none res) (F0 m 180 ls []) := fun g x2 q H locs ls h hl => by subst q; exact ih1 _ _ _ _ _ h hl hr
    have JRn : ∀ t1, r1 = .inr t1 → t1 = res := fun t1 q => by subst q; obtain rfl := Option.some.inj hr; exact JR
    have J1 := J1n
    have JR := JRn
    clear J1n JRn
    have hf : fX4_step_B180 g i x2 = some r1 := hf
    unfold fX4_step_B180 at hf
    refine lv_iload_n X.x X.b dX4_step_180 rfl (lv_at hl 1 rfl) ?_
    refine lv_aload_n X.x X.b dX4_step_181 rfl (lv_at hl 0 rfl) ?_
    refine gC_9_2 X h (hS 9) hi Nat.one_pos lk_X4_62 dX4_step_182 ?_
    refine lv_icmp_ge (tgt := 204) X.x X.b dX4_step_185 (by decide) (fun c36 => ?_) (fun c36 => ?_)
    · have hf := wT c36 hf
      obtain ⟨t37, hf, e38⟩ := wEx_s hf
      have JR := JR t37 e38
      refine lv_aload_n X.x X.b dX4_step_204 rfl (lv_at hl 0 rfl) ?_
      refine lv_dup X.x X.b dX4_step_205 rfl ?_
      refine gC_9_0 X h (hS 9) hi Nat.one_pos lk_X4_55 dX4_step_206 ?_
      refine lv_iconst (v := 1) X.x X.b dX4_step_209 (by decide) ?_
      refine lv_iadd X.x X.b dX4_step_210 ?_
      obtain ⟨g39, e40, hf⟩ := wLe_s hf
      refine pC_9_0 X h (hS 9) hi Nat.one_pos lk_X4_55 e40 dX4_step_211 (fun H locs h => ?_)
      cases (Option.some.inj hf).trans JR
      exact ro_vret X h dX4_step_214
    · have hf := wF c36 hf
      refine lv_aload_n X.x X.b dX4_step_188 rfl (lv_at hl 0 rfl) ?_
      refine lv_aload_n X.x X.b dX4_step_189 rfl (lv_at hl 0 rfl) ?_
      refine gC_9_11 X h (hS 9) hi Nat.one_pos lk_X4_34 dX4_step_190 ?_
      refine lv_iload_n X.x X.b dX4_step_193 rfl (lv_at hl 1 rfl) ?_
      obtain ⟨b41, hf⟩ := wGi_s hf
      refine qC_16 X h (hS 16) hi Nat.one_pos b41 dX4_step_194 ?_
      obtain ⟨g44, e42, hf⟩ := wBd_s hf
      refine ro_callvV (As := [.ref (k.1 + adC 19 i ((x2).toNatClampNeg))]) (g1 := g44) X h (kX4_blame l hS hi hi (vin_lt b41) e42) mv_X4_blame lk_X4_144 ⟨rfl, rfl⟩ ⟨(Nat.le_of_ble_eq_true rfl), (Nat.le_of_ble_eq_true rfl)⟩ (rC_9 X h (hS 9) hi Nat.one_pos) rfl hl rfl (Nat.le_of_ble_eq_true rfl) ⟨Nat.zero_le _, Nat.zero_le _⟩ dX4_step_195 (fun H locs h => ?_)
      obtain ⟨y45, e46, hf⟩ := wLe_s hf
      refine lv_iinc (v := y45) (lv' := [(2, .int y45), (0, .ref (k.1 + adC 9 i 0))]) X.x X.b dX4_step_198 hl (k := 1) rfl (by rw [e46]; rfl) (by decide) rfl (fun ls hl => ?_)
      refine lv_goto (tgt := 180) X.x X.b dX4_step_201 (by decide) ?_
      exact J1 _ _ (Option.some.inj hf).symm _ _ _ h (lv_sub hl [1, 0] rfl)
set_option maxHeartbeats 4000000 in
set_option maxRecDepth 20000 in
theorem wX4_step_L157 {k : En} {S : Nat → Prop} (hS : ∀ t, S t) {i : Nat} (hi : i < 2) {res : Mm} (X : Cx YC S k p s m args meth c cX4_step 3 none RX4) {x1 : Int32} {r : Mm} (JR : r = res) :
    ∀ (fu : Nat) (g : Mm) (x2 : Int32) (H : Heap) (locs : List Loc) (ls : Array Slot), Hx YC S k s g H locs → lv_has ls 3 [(0, .ref (k.1 + adC 9 i 0)), (1, .int x1), (2, .int x2)] → wLp (fun q => fX4_step_B157 q.1 i x1 q.2) fu (g, x2) = some r → W p l e (RmN 5 119) s m args below meth c H locs 0 0 (Fin YC S k args s below none res) (F0 m 157 ls []) := by
  intro fu
  induction fu with
  | zero => intro g x2 H locs ls h hl hf; exact (wLp_0 hf).elim
  | succ fu ih1 =>
    intro g x2 H locs ls h hl hf
    obtain ⟨r1, hf, hr⟩ := wLp_s hf
    have J1n : ∀ (g : Mm) (x2 : Int32), r1 = .inl (g, x2) → ∀ (H : Heap) (locs : List Loc) (ls : Array Slot), Hx YC S k s g H locs → lv_has ls 3 [(0, .ref (k.1 + adC 9 i 0)), (1, .int x1), (2, .int x2)] → W p l e (RmN 5 119) s m args below meth c H locs 0 0 (Fin YC S k args s below none res) (F0 m 157 ls []) := fun g x2 q H locs ls h hl => by subst q; exact ih1 _ _ _ _ _ h hl hr
    have JRn : ∀ t1, r1 = .inr t1 → t1 = res := fun t1 q => by subst q; obtain rfl := Option.some.inj hr; exact JR
    have J1 := J1n
    have JR := JRn
    clear J1n JRn
    have hf : fX4_step_B157 g i x1 x2 = some r1 := hf
    unfold fX4_step_B157 at hf
    refine lv_iload_n X.x X.b dX4_step_157 rfl (lv_at hl 2 rfl) ?_
    refine lv_iload_n X.x X.b dX4_step_158 rfl (lv_at hl 1 rfl) ?_
    refine lv_icmp_ge (tgt := 178) X.x X.b dX4_step_159 (by decide) (fun c31 => ?_) (fun c31 => ?_)
    · have hf := wT c31 hf
      obtain ⟨t32, hf, e33⟩ := wEx_s hf
      have JR := JR t32 e33
      refine lv_iconst (v := 0) X.x X.b dX4_step_178 (by decide) ?_
      obtain ⟨y34, e35, hf⟩ := wLe_s hf
      refine lv_nmi e35 ?_
      refine lv_istore_n (lv' := [(2, .int y34), (0, .ref (k.1 + adC 9 i 0)), (1, .int x1)]) X.x X.b dX4_step_179 rfl hl (by decide) rfl (fun ls hl => ?_)
      exact wX4_step_L180 hS hi X JR _ _ _ _ _ _ h (lv_sub hl [1, 0] rfl) hf
    · have hf := wF c31 hf
      refine lv_aload_n X.x X.b dX4_step_162 rfl (lv_at hl 0 rfl) ?_
      refine lv_iload_n X.x X.b dX4_step_163 rfl (lv_at hl 2 rfl) ?_
      refine lv_aload_n X.x X.b dX4_step_164 rfl (lv_at hl 0 rfl) ?_
      refine lv_iload_n X.x X.b dX4_step_165 rfl (lv_at hl 2 rfl) ?_
      obtain ⟨g49, y48, e47, hf⟩ := wB2_s hf
      refine ro_callvI (As := [.int x2]) (g1 := g49) (x := y48) X h (kX4_bestFor l hS hi e47) mv_X4_bestFor lk_X4_137 ⟨rfl, rfl⟩ ⟨(Nat.le_of_ble_eq_true rfl), (Nat.le_of_ble_eq_true rfl)⟩ (rC_9 X h (hS 9) hi Nat.one_pos) rfl hl rfl (Nat.le_of_ble_eq_true rfl) ⟨Nat.zero_le _, Nat.zero_le _⟩ dX4_step_166 (fun H locs h => ?_)
      obtain ⟨g52, e50, hf⟩ := wBd_s hf
      refine ro_callvV (As := [.int x2, .int y48]) (g1 := g52) X h (kX4_giveRunway l hS hi e50) mv_X4_giveRunway lk_X4_140 ⟨rfl, rfl⟩ ⟨(Nat.le_of_ble_eq_true rfl), (Nat.le_of_ble_eq_true rfl)⟩ (rC_9 X h (hS 9) hi Nat.one_pos) rfl hl rfl (Nat.le_of_ble_eq_true rfl) ⟨Nat.zero_le _, Nat.zero_le _⟩ dX4_step_169 (fun H locs h => ?_)
      obtain ⟨y53, e54, hf⟩ := wLe_s hf
      refine lv_iinc (v := y53) (lv' := [(2, .int y53), (0, .ref (k.1 + adC 9 i 0)), (1, .int x1)]) X.x X.b dX4_step_172 hl (k := 2) rfl (by rw [e54]; rfl) (by decide) rfl (fun ls hl => ?_)
      refine lv_goto (tgt := 157) X.x X.b dX4_step_175 (by decide) ?_
      exact J1 _ _ (Option.some.inj hf).symm _ _ _ h (lv_sub hl [1, 2, 0] rfl)
set_option maxHeartbeats 4000000 in
set_option maxRecDepth 20000 in
theorem wX4_step_b154 {k : En} {S : Nat → Prop} (hS : ∀ t, S t) {i : Nat} (hi : i < 2) {res : Mm} (X : Cx YC S k p s m args meth c cX4_step 3 none RX4) {g : Mm} {z0 : Int32} {H : Heap} {locs : List Loc} {ls : Array Slot} (h : Hx YC S k s g H locs) (hl : lv_has ls 3 [(0, .ref (k.1 + adC 9 i 0))]) {r : Mm} (hf : fX4_step_b154 g i z0 = some r) (JR : r = res) :
    W p l e (RmN 5 119) s m args below meth c H locs 0 0 (Fin YC S k args s below none res) (F0 m 154 ls [.int z0]) := by
  unfold fX4_step_b154 at hf
  refine lv_istore_n (lv' := [(1, .int z0), (0, .ref (k.1 + adC 9 i 0))]) X.x X.b dX4_step_154 rfl hl (by decide) rfl (fun ls hl => ?_)
  refine lv_iconst (v := 0) X.x X.b dX4_step_155 (by decide) ?_
  obtain ⟨y29, e30, hf⟩ := wLe_s hf
  refine lv_nmi e30 ?_
  refine lv_istore_n (lv' := [(2, .int y29), (1, .int z0), (0, .ref (k.1 + adC 9 i 0))]) X.x X.b dX4_step_156 rfl hl (by decide) rfl (fun ls hl => ?_)
  exact wX4_step_L157 hS hi X JR _ _ _ _ _ _ h (lv_sub hl [2, 1, 0] rfl) hf
set_option maxHeartbeats 4000000 in
set_option maxRecDepth 20000 in
theorem wX4_step_L109 {k : En} {S : Nat → Prop} (hS : ∀ t, S t) {i : Nat} (hi : i < 2) {res : Mm} (X : Cx YC S k p s m args meth c cX4_step 3 none RX4) {r : Mm} (JR : r = res) :
    ∀ (fu : Nat) (g : Mm) (x1 : Int32) (H : Heap) (locs : List Loc) (ls : Array Slot), Hx YC S k s g H locs → lv_has ls 3 [(0, .ref (k.1 + adC 9 i 0)), (1, .int x1)] → wLp (fun q => fX4_step_B109 q.1 i q.2) fu (g, x1) = some r → W p l e (RmN 5 119) s m args below meth c H locs 0 0 (Fin YC S k args s below none res) (F0 m 109 ls []) := by
  intro fu
  induction fu with
  | zero => intro g x1 H locs ls h hl hf; exact (wLp_0 hf).elim
  | succ fu ih1 =>
    intro g x1 H locs ls h hl hf
    obtain ⟨r1, hf, hr⟩ := wLp_s hf
    have J1n : ∀ (g : Mm) (x1 : Int32), r1 = .inl (g, x1) → ∀ (H : Heap) (locs : List Loc) (ls : Array Slot), Hx YC S k s g H locs → lv_has ls 3 [(0, .ref (k.1 + adC 9 i 0)), (1, .int x1)] → W p l e (RmN 5 119) s m args below meth c H locs 0 0 (Fin YC S k args s below none res) (F0 m 109 ls []) := fun g x1 q H locs ls h hl => by subst q; exact ih1 _ _ _ _ _ h hl hr
    have JRn : ∀ t1, r1 = .inr t1 → t1 = res := fun t1 q => by subst q; obtain rfl := Option.some.inj hr; exact JR
    have J1 := J1n
    have JR := JRn
    clear J1n JRn
    have hf : fX4_step_B109 g i x1 = some r1 := hf
    unfold fX4_step_B109 at hf
    refine lv_iload_n X.x X.b dX4_step_109 rfl (lv_at hl 1 rfl) ?_
    refine lv_aload_n X.x X.b dX4_step_110 rfl (lv_at hl 0 rfl) ?_
    refine gC_9_2 X h (hS 9) hi Nat.one_pos lk_X4_62 dX4_step_111 ?_
    refine lv_icmp_ge (tgt := 133) X.x X.b dX4_step_114 (by decide) (fun c23 => ?_) (fun c23 => ?_)
    · have hf := wT c23 hf
      obtain ⟨t24, hf, e25⟩ := wEx_s hf
      have JR := JR t24 e25
      refine lv_aload_n X.x X.b dX4_step_133 rfl (lv_at hl 0 rfl) ?_
      refine gC_9_5 X h (hS 9) hi Nat.one_pos lk_X4_11 dX4_step_134 ?_
      refine lv_iconst (v := 5) X.x X.b dX4_step_137 (by decide) ?_
      obtain ⟨b26, hf⟩ := wGi_s hf
      refine aC_10 X h (hS 10) hi Nat.one_pos b26 dX4_step_138 ?_
      refine lv_iconst (v := 1) X.x X.b dX4_step_139 (by decide) ?_
      refine lv_icmp_ne (tgt := 147) X.x X.b dX4_step_140 (by decide) (fun c27 => ?_) (fun c27 => ?_)
      · have hf := wF c27 hf
        refine lv_aload_n X.x X.b dX4_step_147 rfl (lv_at hl 0 rfl) ?_
        refine gC_9_5 X h (hS 9) hi Nat.one_pos lk_X4_11 dX4_step_148 ?_
        refine lv_bipush (v := 8) X.x X.b dX4_step_151 (by decide) ?_
        obtain ⟨b28, hf⟩ := wGi_s hf
        refine aC_10 X h (hS 10) hi Nat.one_pos b28 dX4_step_153 ?_
        exact wX4_step_b154 hS hi X h (lv_sub hl [0] rfl) hf JR
      · have hf := wT c27 hf
        refine lv_iconst (v := 1) X.x X.b dX4_step_143 (by decide) ?_
        refine lv_goto (tgt := 154) X.x X.b dX4_step_144 (by decide) ?_
        exact wX4_step_b154 hS hi X h (lv_sub hl [0] rfl) hf JR
    · have hf := wF c23 hf
      refine lv_aload_n X.x X.b dX4_step_117 rfl (lv_at hl 0 rfl) ?_
      refine lv_aload_n X.x X.b dX4_step_118 rfl (lv_at hl 0 rfl) ?_
      refine gC_9_11 X h (hS 9) hi Nat.one_pos lk_X4_34 dX4_step_119 ?_
      refine lv_iload_n X.x X.b dX4_step_122 rfl (lv_at hl 1 rfl) ?_
      obtain ⟨b55, hf⟩ := wGi_s hf
      refine qC_16 X h (hS 16) hi Nat.one_pos b55 dX4_step_123 ?_
      obtain ⟨g58, e56, hf⟩ := wBd_s hf
      refine ro_callvV (As := [.ref (k.1 + adC 19 i ((x1).toNatClampNeg))]) (g1 := g58) X h (kX4_iceAgain l hS hi hi (vin_lt b55) e56) mv_X4_iceAgain lk_X4_134 ⟨rfl, rfl⟩ ⟨(Nat.le_of_ble_eq_true rfl), (Nat.le_of_ble_eq_true rfl)⟩ (rC_9 X h (hS 9) hi Nat.one_pos) rfl hl rfl (Nat.le_of_ble_eq_true rfl) ⟨Nat.zero_le _, Nat.zero_le _⟩ dX4_step_124 (fun H locs h => ?_)
      obtain ⟨y59, e60, hf⟩ := wLe_s hf
      refine lv_iinc (v := y59) (lv' := [(1, .int y59), (0, .ref (k.1 + adC 9 i 0))]) X.x X.b dX4_step_127 hl (k := 1) rfl (by rw [e60]; rfl) (by decide) rfl (fun ls hl => ?_)
      refine lv_goto (tgt := 109) X.x X.b dX4_step_130 (by decide) ?_
      exact J1 _ _ (Option.some.inj hf).symm _ _ _ h (lv_sub hl [1, 0] rfl)
set_option maxHeartbeats 4000000 in
set_option maxRecDepth 20000 in
theorem wX4_step_b101 {k : En} {S : Nat → Prop} (hS : ∀ t, S t) {i : Nat} (hi : i < 2) {res : Mm} (X : Cx YC S k p s m args meth c cX4_step 3 none RX4) {g : Mm} {x1 : Int32} {H : Heap} {locs : List Loc} {ls : Array Slot} (h : Hx YC S k s g H locs) (hl : lv_has ls 3 [(0, .ref (k.1 + adC 9 i 0)), (1, .int x1)]) {r : (Mm × Int32) ⊕ (Mm)} (hf : fX4_step_b101 g i x1 = some r) (J1 : ∀ (g : Mm) (x1 : Int32), r = .inl (g, x1) → ∀ (H : Heap) (locs : List Loc) (ls : Array Slot), Hx YC S k s g H locs → lv_has ls 3 [(0, .ref (k.1 + adC 9 i 0)), (1, .int x1)] → W p l e (RmN 5 119) s m args below meth c H locs 0 0 (Fin YC S k args s below none res) (F0 m 75 ls [])) (JR : ∀ t1, r = .inr t1 → t1 = res) :
    W p l e (RmN 5 119) s m args below meth c H locs 0 0 (Fin YC S k args s below none res) (F0 m 101 ls []) := by
  unfold fX4_step_b101 at hf
  obtain ⟨y63, e64, hf⟩ := wLe_s hf
  refine lv_iinc (v := y63) (lv' := [(1, .int y63), (0, .ref (k.1 + adC 9 i 0))]) X.x X.b dX4_step_101 hl (k := 1) rfl (by rw [e64]; rfl) (by decide) rfl (fun ls hl => ?_)
  refine lv_goto (tgt := 75) X.x X.b dX4_step_104 (by decide) ?_
  exact J1 _ _ (Option.some.inj hf).symm _ _ _ h (lv_sub hl [1, 0] rfl)
set_option maxHeartbeats 4000000 in
set_option maxRecDepth 20000 in
theorem wX4_step_L75 {k : En} {S : Nat → Prop} (hS : ∀ t, S t) {i : Nat} (hi : i < 2) {res : Mm} (X : Cx YC S k p s m args meth c cX4_step 3 none RX4) {r : Mm} (JR : r = res) :
    ∀ (fu : Nat) (g : Mm) (x1 : Int32) (H : Heap) (locs : List Loc) (ls : Array Slot), Hx YC S k s g H locs → lv_has ls 3 [(0, .ref (k.1 + adC 9 i 0)), (1, .int x1)] → wLp (fun q => fX4_step_B75 q.1 i q.2) fu (g, x1) = some r → W p l e (RmN 5 119) s m args below meth c H locs 0 0 (Fin YC S k args s below none res) (F0 m 75 ls []) := by
  intro fu
  induction fu with
  | zero => intro g x1 H locs ls h hl hf; exact (wLp_0 hf).elim
  | succ fu ih1 =>
    intro g x1 H locs ls h hl hf
    obtain ⟨r1, hf, hr⟩ := wLp_s hf
    have J1n : ∀ (g : Mm) (x1 : Int32), r1 = .inl (g, x1) → ∀ (H : Heap) (locs : List Loc) (ls : Array Slot), Hx YC S k s g H locs → lv_has ls 3 [(0, .ref (k.1 + adC 9 i 0)), (1, .int x1)] → W p l e (RmN 5 119) s m args below meth c H locs 0 0 (Fin YC S k args s below none res) (F0 m 75 ls []) := fun g x1 q H locs ls h hl => by subst q; exact ih1 _ _ _ _ _ h hl hr
    have JRn : ∀ t1, r1 = .inr t1 → t1 = res := fun t1 q => by subst q; obtain rfl := Option.some.inj hr; exact JR
    have J1 := J1n
    have JR := JRn
    clear J1n JRn
    have hf : fX4_step_B75 g i x1 = some r1 := hf
    unfold fX4_step_B75 at hf
    refine lv_iload_n X.x X.b dX4_step_75 rfl (lv_at hl 1 rfl) ?_
    refine lv_aload_n X.x X.b dX4_step_76 rfl (lv_at hl 0 rfl) ?_
    refine gC_9_2 X h (hS 9) hi Nat.one_pos lk_X4_62 dX4_step_77 ?_
    refine lv_icmp_ge (tgt := 107) X.x X.b dX4_step_80 (by decide) (fun c18 => ?_) (fun c18 => ?_)
    · have hf := wT c18 hf
      obtain ⟨t19, hf, e20⟩ := wEx_s hf
      have JR := JR t19 e20
      refine lv_iconst (v := 0) X.x X.b dX4_step_107 (by decide) ?_
      obtain ⟨y21, e22, hf⟩ := wLe_s hf
      refine lv_nmi e22 ?_
      refine lv_istore_n (lv' := [(1, .int y21), (0, .ref (k.1 + adC 9 i 0))]) X.x X.b dX4_step_108 rfl hl (by decide) rfl (fun ls hl => ?_)
      exact wX4_step_L109 hS hi X JR _ _ _ _ _ _ h (lv_sub hl [1, 0] rfl) hf
    · have hf := wF c18 hf
      refine lv_aload_n X.x X.b dX4_step_83 rfl (lv_at hl 0 rfl) ?_
      refine gC_9_11 X h (hS 9) hi Nat.one_pos lk_X4_34 dX4_step_84 ?_
      refine lv_iload_n X.x X.b dX4_step_87 rfl (lv_at hl 1 rfl) ?_
      obtain ⟨b61, hf⟩ := wGi_s hf
      refine qC_16 X h (hS 16) hi Nat.one_pos b61 dX4_step_88 ?_
      refine gC_19_6 X h (hS 19) hi (vin_lt b61) lk_X4_120 dX4_step_89 ?_
      refine lv_iconst (v := 4) X.x X.b dX4_step_92 (by decide) ?_
      refine lv_icmp_ne (tgt := 101) X.x X.b dX4_step_93 (by decide) (fun c62 => ?_) (fun c62 => ?_)
      · have hf := wF c62 hf
        exact wX4_step_b101 hS hi X h (lv_sub hl [0, 1] rfl) hf J1 JR
      · have hf := wT c62 hf
        refine lv_aload_n X.x X.b dX4_step_96 rfl (lv_at hl 0 rfl) ?_
        refine lv_iload_n X.x X.b dX4_step_97 rfl (lv_at hl 1 rfl) ?_
        obtain ⟨g67, e65, hf⟩ := wBd_s hf
        refine ro_callvV (As := [.int x1]) (g1 := g67) X h (kX4_serve l hS hi e65) mv_X4_serve lk_X4_131 ⟨rfl, rfl⟩ ⟨(Nat.le_of_ble_eq_true rfl), (Nat.le_of_ble_eq_true rfl)⟩ (rC_9 X h (hS 9) hi Nat.one_pos) rfl hl rfl (Nat.le_of_ble_eq_true rfl) ⟨Nat.zero_le _, Nat.zero_le _⟩ dX4_step_98 (fun H locs h => ?_)
        exact wX4_step_b101 hS hi X h (lv_sub hl [0, 1] rfl) hf J1 JR
set_option maxHeartbeats 4000000 in
set_option maxRecDepth 20000 in
theorem wX4_step_L49 {k : En} {S : Nat → Prop} (hS : ∀ t, S t) {i : Nat} (hi : i < 2) {res : Mm} (X : Cx YC S k p s m args meth c cX4_step 3 none RX4) {r : Mm} (JR : r = res) :
    ∀ (fu : Nat) (g : Mm) (x1 : Int32) (H : Heap) (locs : List Loc) (ls : Array Slot), Hx YC S k s g H locs → lv_has ls 3 [(0, .ref (k.1 + adC 9 i 0)), (1, .int x1)] → wLp (fun q => fX4_step_B49 q.1 i q.2) fu (g, x1) = some r → W p l e (RmN 5 119) s m args below meth c H locs 0 0 (Fin YC S k args s below none res) (F0 m 49 ls []) := by
  intro fu
  induction fu with
  | zero => intro g x1 H locs ls h hl hf; exact (wLp_0 hf).elim
  | succ fu ih1 =>
    intro g x1 H locs ls h hl hf
    obtain ⟨r1, hf, hr⟩ := wLp_s hf
    have J1n : ∀ (g : Mm) (x1 : Int32), r1 = .inl (g, x1) → ∀ (H : Heap) (locs : List Loc) (ls : Array Slot), Hx YC S k s g H locs → lv_has ls 3 [(0, .ref (k.1 + adC 9 i 0)), (1, .int x1)] → W p l e (RmN 5 119) s m args below meth c H locs 0 0 (Fin YC S k args s below none res) (F0 m 49 ls []) := fun g x1 q H locs ls h hl => by subst q; exact ih1 _ _ _ _ _ h hl hr
    have JRn : ∀ t1, r1 = .inr t1 → t1 = res := fun t1 q => by subst q; obtain rfl := Option.some.inj hr; exact JR
    have J1 := J1n
    have JR := JRn
    clear J1n JRn
    have hf : fX4_step_B49 g i x1 = some r1 := hf
    unfold fX4_step_B49 at hf
    refine lv_iload_n X.x X.b dX4_step_49 rfl (lv_at hl 1 rfl) ?_
    refine lv_aload_n X.x X.b dX4_step_50 rfl (lv_at hl 0 rfl) ?_
    refine gC_9_3 X h (hS 9) hi Nat.one_pos lk_X4_65 dX4_step_51 ?_
    refine lv_icmp_ge (tgt := 73) X.x X.b dX4_step_54 (by decide) (fun c13 => ?_) (fun c13 => ?_)
    · have hf := wT c13 hf
      obtain ⟨t14, hf, e15⟩ := wEx_s hf
      have JR := JR t14 e15
      refine lv_iconst (v := 0) X.x X.b dX4_step_73 (by decide) ?_
      obtain ⟨y16, e17, hf⟩ := wLe_s hf
      refine lv_nmi e17 ?_
      refine lv_istore_n (lv' := [(1, .int y16), (0, .ref (k.1 + adC 9 i 0))]) X.x X.b dX4_step_74 rfl hl (by decide) rfl (fun ls hl => ?_)
      exact wX4_step_L75 hS hi X JR _ _ _ _ _ _ h (lv_sub hl [1, 0] rfl) hf
    · have hf := wF c13 hf
      refine lv_aload_n X.x X.b dX4_step_57 rfl (lv_at hl 0 rfl) ?_
      refine lv_aload_n X.x X.b dX4_step_58 rfl (lv_at hl 0 rfl) ?_
      refine gC_9_12 X h (hS 9) hi Nat.one_pos lk_X4_40 dX4_step_59 ?_
      refine lv_iload_n X.x X.b dX4_step_62 rfl (lv_at hl 1 rfl) ?_
      obtain ⟨b68, hf⟩ := wGi_s hf
      refine qC_17 X h (hS 17) hi Nat.one_pos b68 dX4_step_63 ?_
      obtain ⟨g71, e69, hf⟩ := wBd_s hf
      refine ro_callvV (As := [.ref (k.1 + adC 22 i ((x1).toNatClampNeg))]) (g1 := g71) X h (kX4_carry l hS hi hi (vin_lt b68) e69) mv_X4_carry lk_X4_128 ⟨rfl, rfl⟩ ⟨(Nat.le_of_ble_eq_true rfl), (Nat.le_of_ble_eq_true rfl)⟩ (rC_9 X h (hS 9) hi Nat.one_pos) rfl hl rfl (Nat.le_of_ble_eq_true rfl) ⟨Nat.zero_le _, Nat.zero_le _⟩ dX4_step_64 (fun H locs h => ?_)
      obtain ⟨y72, e73, hf⟩ := wLe_s hf
      refine lv_iinc (v := y72) (lv' := [(1, .int y72), (0, .ref (k.1 + adC 9 i 0))]) X.x X.b dX4_step_67 hl (k := 1) rfl (by rw [e73]; rfl) (by decide) rfl (fun ls hl => ?_)
      refine lv_goto (tgt := 49) X.x X.b dX4_step_70 (by decide) ?_
      exact J1 _ _ (Option.some.inj hf).symm _ _ _ h (lv_sub hl [1, 0] rfl)
set_option maxHeartbeats 4000000 in
set_option maxRecDepth 20000 in
theorem wX4_step_L28 {k : En} {S : Nat → Prop} (hS : ∀ t, S t) {i : Nat} (hi : i < 2) {res : Mm} (X : Cx YC S k p s m args meth c cX4_step 3 none RX4) {r : Mm} (JR : r = res) :
    ∀ (fu : Nat) (g : Mm) (x1 : Int32) (H : Heap) (locs : List Loc) (ls : Array Slot), Hx YC S k s g H locs → lv_has ls 3 [(0, .ref (k.1 + adC 9 i 0)), (1, .int x1)] → wLp (fun q => fX4_step_B28 q.1 i q.2) fu (g, x1) = some r → W p l e (RmN 5 119) s m args below meth c H locs 0 0 (Fin YC S k args s below none res) (F0 m 28 ls []) := by
  intro fu
  induction fu with
  | zero => intro g x1 H locs ls h hl hf; exact (wLp_0 hf).elim
  | succ fu ih1 =>
    intro g x1 H locs ls h hl hf
    obtain ⟨r1, hf, hr⟩ := wLp_s hf
    have J1n : ∀ (g : Mm) (x1 : Int32), r1 = .inl (g, x1) → ∀ (H : Heap) (locs : List Loc) (ls : Array Slot), Hx YC S k s g H locs → lv_has ls 3 [(0, .ref (k.1 + adC 9 i 0)), (1, .int x1)] → W p l e (RmN 5 119) s m args below meth c H locs 0 0 (Fin YC S k args s below none res) (F0 m 28 ls []) := fun g x1 q H locs ls h hl => by subst q; exact ih1 _ _ _ _ _ h hl hr
    have JRn : ∀ t1, r1 = .inr t1 → t1 = res := fun t1 q => by subst q; obtain rfl := Option.some.inj hr; exact JR
    have J1 := J1n
    have JR := JRn
    clear J1n JRn
    have hf : fX4_step_B28 g i x1 = some r1 := hf
    unfold fX4_step_B28 at hf
    refine lv_iload_n X.x X.b dX4_step_28 rfl (lv_at hl 1 rfl) ?_
    refine lv_aload_n X.x X.b dX4_step_29 rfl (lv_at hl 0 rfl) ?_
    refine gC_9_2 X h (hS 9) hi Nat.one_pos lk_X4_62 dX4_step_30 ?_
    refine lv_icmp_ge (tgt := 47) X.x X.b dX4_step_33 (by decide) (fun c8 => ?_) (fun c8 => ?_)
    · have hf := wT c8 hf
      obtain ⟨t9, hf, e10⟩ := wEx_s hf
      have JR := JR t9 e10
      refine lv_iconst (v := 0) X.x X.b dX4_step_47 (by decide) ?_
      obtain ⟨y11, e12, hf⟩ := wLe_s hf
      refine lv_nmi e12 ?_
      refine lv_istore_n (lv' := [(1, .int y11), (0, .ref (k.1 + adC 9 i 0))]) X.x X.b dX4_step_48 rfl hl (by decide) rfl (fun ls hl => ?_)
      exact wX4_step_L49 hS hi X JR _ _ _ _ _ _ h (lv_sub hl [1, 0] rfl) hf
    · have hf := wF c8 hf
      refine lv_aload_n X.x X.b dX4_step_36 rfl (lv_at hl 0 rfl) ?_
      refine lv_iload_n X.x X.b dX4_step_37 rfl (lv_at hl 1 rfl) ?_
      obtain ⟨g76, e74, hf⟩ := wBd_s hf
      refine ro_callvV (As := [.int x1]) (g1 := g76) X h (kX4_work l hS hi e74) mv_X4_work lk_X4_124 ⟨rfl, rfl⟩ ⟨(Nat.le_of_ble_eq_true rfl), (Nat.le_of_ble_eq_true rfl)⟩ (rC_9 X h (hS 9) hi Nat.one_pos) rfl hl rfl (Nat.le_of_ble_eq_true rfl) ⟨Nat.zero_le _, Nat.zero_le _⟩ dX4_step_38 (fun H locs h => ?_)
      obtain ⟨y77, e78, hf⟩ := wLe_s hf
      refine lv_iinc (v := y77) (lv' := [(1, .int y77), (0, .ref (k.1 + adC 9 i 0))]) X.x X.b dX4_step_41 hl (k := 1) rfl (by rw [e78]; rfl) (by decide) rfl (fun ls hl => ?_)
      refine lv_goto (tgt := 28) X.x X.b dX4_step_44 (by decide) ?_
      exact J1 _ _ (Option.some.inj hf).symm _ _ _ h (lv_sub hl [1, 0] rfl)
set_option maxHeartbeats 4000000 in
set_option maxRecDepth 20000 in
theorem wX4_step_L2 {k : En} {S : Nat → Prop} (hS : ∀ t, S t) {i : Nat} (hi : i < 2) {res : Mm} (X : Cx YC S k p s m args meth c cX4_step 3 none RX4) {r : Mm} (JR : r = res) :
    ∀ (fu : Nat) (g : Mm) (x1 : Int32) (H : Heap) (locs : List Loc) (ls : Array Slot), Hx YC S k s g H locs → lv_has ls 3 [(0, .ref (k.1 + adC 9 i 0)), (1, .int x1)] → wLp (fun q => fX4_step_B2 q.1 i q.2) fu (g, x1) = some r → W p l e (RmN 5 119) s m args below meth c H locs 0 0 (Fin YC S k args s below none res) (F0 m 2 ls []) := by
  intro fu
  induction fu with
  | zero => intro g x1 H locs ls h hl hf; exact (wLp_0 hf).elim
  | succ fu ih1 =>
    intro g x1 H locs ls h hl hf
    obtain ⟨r1, hf, hr⟩ := wLp_s hf
    have J1n : ∀ (g : Mm) (x1 : Int32), r1 = .inl (g, x1) → ∀ (H : Heap) (locs : List Loc) (ls : Array Slot), Hx YC S k s g H locs → lv_has ls 3 [(0, .ref (k.1 + adC 9 i 0)), (1, .int x1)] → W p l e (RmN 5 119) s m args below meth c H locs 0 0 (Fin YC S k args s below none res) (F0 m 2 ls []) := fun g x1 q H locs ls h hl => by subst q; exact ih1 _ _ _ _ _ h hl hr
    have JRn : ∀ t1, r1 = .inr t1 → t1 = res := fun t1 q => by subst q; obtain rfl := Option.some.inj hr; exact JR
    have J1 := J1n
    have JR := JRn
    clear J1n JRn
    have hf : fX4_step_B2 g i x1 = some r1 := hf
    unfold fX4_step_B2 at hf
    refine lv_iload_n X.x X.b dX4_step_2 rfl (lv_at hl 1 rfl) ?_
    refine lv_aload_n X.x X.b dX4_step_3 rfl (lv_at hl 0 rfl) ?_
    refine gC_9_2 X h (hS 9) hi Nat.one_pos lk_X4_62 dX4_step_4 ?_
    refine lv_icmp_ge (tgt := 26) X.x X.b dX4_step_7 (by decide) (fun c3 => ?_) (fun c3 => ?_)
    · have hf := wT c3 hf
      obtain ⟨t4, hf, e5⟩ := wEx_s hf
      have JR := JR t4 e5
      refine lv_iconst (v := 0) X.x X.b dX4_step_26 (by decide) ?_
      obtain ⟨y6, e7, hf⟩ := wLe_s hf
      refine lv_nmi e7 ?_
      refine lv_istore_n (lv' := [(1, .int y6), (0, .ref (k.1 + adC 9 i 0))]) X.x X.b dX4_step_27 rfl hl (by decide) rfl (fun ls hl => ?_)
      exact wX4_step_L28 hS hi X JR _ _ _ _ _ _ h (lv_sub hl [1, 0] rfl) hf
    · have hf := wF c3 hf
      refine lv_aload_n X.x X.b dX4_step_10 rfl (lv_at hl 0 rfl) ?_
      refine lv_aload_n X.x X.b dX4_step_11 rfl (lv_at hl 0 rfl) ?_
      refine gC_9_11 X h (hS 9) hi Nat.one_pos lk_X4_34 dX4_step_12 ?_
      refine lv_iload_n X.x X.b dX4_step_15 rfl (lv_at hl 1 rfl) ?_
      obtain ⟨b79, hf⟩ := wGi_s hf
      refine qC_16 X h (hS 16) hi Nat.one_pos b79 dX4_step_16 ?_
      obtain ⟨g82, e80, hf⟩ := wBd_s hf
      refine ro_callvV (As := [.ref (k.1 + adC 19 i ((x1).toNatClampNeg))]) (g1 := g82) X h (kX4_move l hS hi hi (vin_lt b79) e80) mv_X4_move lk_X4_121 ⟨rfl, rfl⟩ ⟨(Nat.le_of_ble_eq_true rfl), (Nat.le_of_ble_eq_true rfl)⟩ (rC_9 X h (hS 9) hi Nat.one_pos) rfl hl rfl (Nat.le_of_ble_eq_true rfl) ⟨Nat.zero_le _, Nat.zero_le _⟩ dX4_step_17 (fun H locs h => ?_)
      obtain ⟨y83, e84, hf⟩ := wLe_s hf
      refine lv_iinc (v := y83) (lv' := [(1, .int y83), (0, .ref (k.1 + adC 9 i 0))]) X.x X.b dX4_step_20 hl (k := 1) rfl (by rw [e84]; rfl) (by decide) rfl (fun ls hl => ?_)
      refine lv_goto (tgt := 2) X.x X.b dX4_step_23 (by decide) ?_
      exact J1 _ _ (Option.some.inj hf).symm _ _ _ h (lv_sub hl [1, 0] rfl)
set_option maxHeartbeats 4000000 in
set_option maxRecDepth 20000 in
theorem kX4_step (l : Launch) {k : En} {S : Nat → Prop} (hS : ∀ t, S t) {i : Nat} (hi : i < 2) {res : Mm} {g : Mm} (hf : fX4_step g i = some res) : Mt l yX4_step cX4_step 3 none (RmN 5 119) YC S k [.ref (k.1 + adC 9 i 0)] g none res := by
  refine Mt.of (by decide) (Nat.le_of_ble_eq_true rfl) ?_
  intro p e s m args below meth c ls X _ h hl
  have X : Cx YC S k p s m args meth c cX4_step 3 none RX4 := X
  have hl : lv_has ls 3 [(0, .ref (k.1 + adC 9 i 0))] := hl
  have JR : res = res := rfl
  unfold fX4_step at hf
  refine lv_iconst (v := 0) X.x X.b dX4_step_0 (by decide) ?_
  obtain ⟨y1, e2, hf⟩ := wLe_s hf
  refine lv_nmi e2 ?_
  refine lv_istore_n (lv' := [(1, .int y1), (0, .ref (k.1 + adC 9 i 0))]) X.x X.b dX4_step_1 rfl hl (by decide) rfl (fun ls hl => ?_)
  exact wX4_step_L2 hS hi X JR _ _ _ _ _ _ h (lv_sub hl [1, 0] rfl) hf
end WK
