theorem dX11_two_0 : decode cX11_two 0 = .ok (.iload_n 0, 1) := by decide +kernel
theorem dX11_two_1 : decode cX11_two 1 = .ok (.tableswitch 101 11 17 #[43, 57, 101, 71, 82, 93, 97], 43) := by decide +kernel
theorem dX11_two_44 : decode cX11_two 44 = .ok (.iload_n 1, 1) := by decide +kernel
theorem dX11_two_45 : decode cX11_two 45 = .ok (.ifCond .ne 7, 3) := by decide +kernel
theorem dX11_two_48 : decode cX11_two 48 = .ok (.iload_n 2, 1) := by decide +kernel
theorem dX11_two_49 : decode cX11_two 49 = .ok (.ifCond .eq 7, 3) := by decide +kernel
theorem dX11_two_52 : decode cX11_two 52 = .ok (.iconst 1, 1) := by decide +kernel
theorem dX11_two_53 : decode cX11_two 53 = .ok (.goto 4, 3) := by decide +kernel
theorem dX11_two_56 : decode cX11_two 56 = .ok (.iconst 0, 1) := by decide +kernel
theorem dX11_two_57 : decode cX11_two 57 = .ok (.ireturn, 1) := by decide +kernel
theorem dX11_two_58 : decode cX11_two 58 = .ok (.iload_n 1, 1) := by decide +kernel
theorem dX11_two_59 : decode cX11_two 59 = .ok (.ifCond .eq 11, 3) := by decide +kernel
theorem dX11_two_62 : decode cX11_two 62 = .ok (.iload_n 2, 1) := by decide +kernel
theorem dX11_two_63 : decode cX11_two 63 = .ok (.ifCond .eq 7, 3) := by decide +kernel
theorem dX11_two_66 : decode cX11_two 66 = .ok (.iconst 1, 1) := by decide +kernel
theorem dX11_two_67 : decode cX11_two 67 = .ok (.goto 4, 3) := by decide +kernel
theorem dX11_two_70 : decode cX11_two 70 = .ok (.iconst 0, 1) := by decide +kernel
theorem dX11_two_71 : decode cX11_two 71 = .ok (.ireturn, 1) := by decide +kernel
theorem dX11_two_72 : decode cX11_two 72 = .ok (.iload_n 1, 1) := by decide +kernel
theorem dX11_two_73 : decode cX11_two 73 = .ok (.iload_n 2, 1) := by decide +kernel
theorem dX11_two_74 : decode cX11_two 74 = .ok (.if_icmp .ge 7, 3) := by decide +kernel
theorem dX11_two_77 : decode cX11_two 77 = .ok (.iconst 1, 1) := by decide +kernel
theorem dX11_two_78 : decode cX11_two 78 = .ok (.goto 4, 3) := by decide +kernel
theorem dX11_two_81 : decode cX11_two 81 = .ok (.iconst 0, 1) := by decide +kernel
theorem dX11_two_82 : decode cX11_two 82 = .ok (.ireturn, 1) := by decide +kernel
theorem dX11_two_83 : decode cX11_two 83 = .ok (.iload_n 1, 1) := by decide +kernel
theorem dX11_two_84 : decode cX11_two 84 = .ok (.iload_n 2, 1) := by decide +kernel
theorem dX11_two_85 : decode cX11_two 85 = .ok (.if_icmp .ne 7, 3) := by decide +kernel
theorem dX11_two_88 : decode cX11_two 88 = .ok (.iconst 1, 1) := by decide +kernel
theorem dX11_two_89 : decode cX11_two 89 = .ok (.goto 4, 3) := by decide +kernel
theorem dX11_two_92 : decode cX11_two 92 = .ok (.iconst 0, 1) := by decide +kernel
theorem dX11_two_93 : decode cX11_two 93 = .ok (.ireturn, 1) := by decide +kernel
theorem dX11_two_94 : decode cX11_two 94 = .ok (.iload_n 1, 1) := by decide +kernel
theorem dX11_two_95 : decode cX11_two 95 = .ok (.iload_n 2, 1) := by decide +kernel
theorem dX11_two_96 : decode cX11_two 96 = .ok (.iadd, 1) := by decide +kernel
theorem dX11_two_97 : decode cX11_two 97 = .ok (.ireturn, 1) := by decide +kernel
theorem dX11_two_98 : decode cX11_two 98 = .ok (.iload_n 1, 1) := by decide +kernel
theorem dX11_two_99 : decode cX11_two 99 = .ok (.iload_n 2, 1) := by decide +kernel
theorem dX11_two_100 : decode cX11_two 100 = .ok (.isub, 1) := by decide +kernel
theorem dX11_two_101 : decode cX11_two 101 = .ok (.ireturn, 1) := by decide +kernel
theorem dX11_two_102 : decode cX11_two 102 = .ok (.iload_n 1, 1) := by decide +kernel
theorem dX11_two_103 : decode cX11_two 103 = .ok (.iload_n 2, 1) := by decide +kernel
theorem dX11_two_104 : decode cX11_two 104 = .ok (.imul, 1) := by decide +kernel
theorem dX11_two_105 : decode cX11_two 105 = .ok (.ireturn, 1) := by decide +kernel
theorem dX11_worth_0 : decode cX11_worth 0 = .ok (.iconst 0, 1) := by decide +kernel
theorem dX11_worth_1 : decode cX11_worth 1 = .ok (.istore 4, 2) := by decide +kernel
theorem dX11_worth_3 : decode cX11_worth 3 = .ok (.aload_n 0, 1) := by decide +kernel
theorem dX11_worth_4 : decode cX11_worth 4 = .ok (.getfield 31, 3) := by decide +kernel
theorem dX11_worth_7 : decode cX11_worth 7 = .ok (.iconst 4, 1) := by decide +kernel
theorem dX11_worth_8 : decode cX11_worth 8 = .ok (.aload_n 0, 1) := by decide +kernel
theorem dX11_worth_9 : decode cX11_worth 9 = .ok (.getfield 186, 3) := by decide +kernel
theorem dX11_worth_12 : decode cX11_worth 12 = .ok (.imul, 1) := by decide +kernel
theorem dX11_worth_13 : decode cX11_worth 13 = .ok (.iload_n 1, 1) := by decide +kernel
theorem dX11_worth_14 : decode cX11_worth 14 = .ok (.iadd, 1) := by decide +kernel
theorem dX11_worth_15 : decode cX11_worth 15 = .ok (.iaload, 1) := by decide +kernel
theorem dX11_worth_16 : decode cX11_worth 16 = .ok (.istore 5, 2) := by decide +kernel
theorem dX11_worth_18 : decode cX11_worth 18 = .ok (.iload 5, 2) := by decide +kernel
theorem dX11_worth_20 : decode cX11_worth 20 = .ok (.aload_n 0, 1) := by decide +kernel
theorem dX11_worth_21 : decode cX11_worth 21 = .ok (.getfield 31, 3) := by decide +kernel
theorem dX11_worth_24 : decode cX11_worth 24 = .ok (.iconst 4, 1) := by decide +kernel
theorem dX11_worth_25 : decode cX11_worth 25 = .ok (.aload_n 0, 1) := by decide +kernel
theorem dX11_worth_26 : decode cX11_worth 26 = .ok (.getfield 186, 3) := by decide +kernel
theorem dX11_worth_29 : decode cX11_worth 29 = .ok (.imul, 1) := by decide +kernel
theorem dX11_worth_30 : decode cX11_worth 30 = .ok (.iload_n 1, 1) := by decide +kernel
theorem dX11_worth_31 : decode cX11_worth 31 = .ok (.iadd, 1) := by decide +kernel
theorem dX11_worth_32 : decode cX11_worth 32 = .ok (.iconst 1, 1) := by decide +kernel
theorem dX11_worth_33 : decode cX11_worth 33 = .ok (.iadd, 1) := by decide +kernel
theorem dX11_worth_34 : decode cX11_worth 34 = .ok (.iaload, 1) := by decide +kernel
theorem dX11_worth_35 : decode cX11_worth 35 = .ok (.if_icmp .ge 175, 3) := by decide +kernel
theorem dX11_worth_38 : decode cX11_worth 38 = .ok (.aload_n 0, 1) := by decide +kernel
theorem dX11_worth_39 : decode cX11_worth 39 = .ok (.getfield 28, 3) := by decide +kernel
theorem dX11_worth_42 : decode cX11_worth 42 = .ok (.sipush 200, 3) := by decide +kernel
theorem dX11_worth_45 : decode cX11_worth 45 = .ok (.aload_n 0, 1) := by decide +kernel
theorem dX11_worth_46 : decode cX11_worth 46 = .ok (.getfield 186, 3) := by decide +kernel
theorem dX11_worth_49 : decode cX11_worth 49 = .ok (.imul, 1) := by decide +kernel
theorem dX11_worth_50 : decode cX11_worth 50 = .ok (.iload 5, 2) := by decide +kernel
theorem dX11_worth_52 : decode cX11_worth 52 = .ok (.iadd, 1) := by decide +kernel
theorem dX11_worth_53 : decode cX11_worth 53 = .ok (.iaload, 1) := by decide +kernel
theorem dX11_worth_54 : decode cX11_worth 54 = .ok (.istore 6, 2) := by decide +kernel
theorem dX11_worth_56 : decode cX11_worth 56 = .ok (.iload 6, 2) := by decide +kernel
theorem dX11_worth_58 : decode cX11_worth 58 = .ok (.ldc 37, 2) := by decide +kernel
theorem dX11_worth_60 : decode cX11_worth 60 = .ok (.if_icmp .ge 10, 3) := by decide +kernel
theorem dX11_worth_63 : decode cX11_worth 63 = .ok (.iload 6, 2) := by decide +kernel
theorem dX11_worth_65 : decode cX11_worth 65 = .ok (.bipush 7, 2) := by decide +kernel
theorem dX11_worth_67 : decode cX11_worth 67 = .ok (.if_icmp .gt 39, 3) := by decide +kernel
theorem dX11_worth_70 : decode cX11_worth 70 = .ok (.aload_n 0, 1) := by decide +kernel
theorem dX11_worth_71 : decode cX11_worth 71 = .ok (.getfield 83, 3) := by decide +kernel
theorem dX11_worth_74 : decode cX11_worth 74 = .ok (.iload 4, 2) := by decide +kernel
theorem dX11_worth_76 : decode cX11_worth 76 = .ok (.iload 6, 2) := by decide +kernel
theorem dX11_worth_78 : decode cX11_worth 78 = .ok (.bipush 7, 2) := by decide +kernel
theorem dX11_worth_80 : decode cX11_worth 80 = .ok (.if_icmp .gt 14, 3) := by decide +kernel
theorem dX11_worth_83 : decode cX11_worth 83 = .ok (.aload_n 0, 1) := by decide +kernel
theorem dX11_worth_84 : decode cX11_worth 84 = .ok (.iload 6, 2) := by decide +kernel
theorem dX11_worth_86 : decode cX11_worth 86 = .ok (.iload_n 2, 1) := by decide +kernel
theorem dX11_worth_87 : decode cX11_worth 87 = .ok (.iload_n 3, 1) := by decide +kernel
theorem dX11_worth_88 : decode cX11_worth 88 = .ok (.invokevirtual 195, 3) := by decide +kernel
theorem dX11_worth_91 : decode cX11_worth 91 = .ok (.goto 8, 3) := by decide +kernel
theorem dX11_worth_94 : decode cX11_worth 94 = .ok (.iload 6, 2) := by decide +kernel
theorem dX11_worth_96 : decode cX11_worth 96 = .ok (.ldc 37, 2) := by decide +kernel
theorem dX11_worth_98 : decode cX11_worth 98 = .ok (.isub, 1) := by decide +kernel
theorem dX11_worth_99 : decode cX11_worth 99 = .ok (.iastore, 1) := by decide +kernel
theorem dX11_worth_100 : decode cX11_worth 100 = .ok (.iinc 4 1, 3) := by decide +kernel
theorem dX11_worth_103 : decode cX11_worth 103 = .ok (.goto 101, 3) := by decide +kernel
theorem dX11_worth_106 : decode cX11_worth 106 = .ok (.iload 6, 2) := by decide +kernel
theorem dX11_worth_108 : decode cX11_worth 108 = .ok (.bipush 13, 2) := by decide +kernel
theorem dX11_worth_110 : decode cX11_worth 110 = .ok (.if_icmp .ne 32, 3) := by decide +kernel
theorem dX11_worth_113 : decode cX11_worth 113 = .ok (.aload_n 0, 1) := by decide +kernel
theorem dX11_worth_114 : decode cX11_worth 114 = .ok (.getfield 83, 3) := by decide +kernel
theorem dX11_worth_117 : decode cX11_worth 117 = .ok (.iload 4, 2) := by decide +kernel
theorem dX11_worth_119 : decode cX11_worth 119 = .ok (.iconst 1, 1) := by decide +kernel
theorem dX11_worth_120 : decode cX11_worth 120 = .ok (.isub, 1) := by decide +kernel
theorem dX11_worth_121 : decode cX11_worth 121 = .ok (.aload_n 0, 1) := by decide +kernel
theorem dX11_worth_122 : decode cX11_worth 122 = .ok (.getfield 83, 3) := by decide +kernel
theorem dX11_worth_125 : decode cX11_worth 125 = .ok (.iload 4, 2) := by decide +kernel
theorem dX11_worth_127 : decode cX11_worth 127 = .ok (.iconst 1, 1) := by decide +kernel
theorem dX11_worth_128 : decode cX11_worth 128 = .ok (.isub, 1) := by decide +kernel
theorem dX11_worth_129 : decode cX11_worth 129 = .ok (.iaload, 1) := by decide +kernel
theorem dX11_worth_130 : decode cX11_worth 130 = .ok (.ifCond .ne 7, 3) := by decide +kernel
theorem dX11_worth_133 : decode cX11_worth 133 = .ok (.iconst 1, 1) := by decide +kernel
theorem dX11_worth_134 : decode cX11_worth 134 = .ok (.goto 4, 3) := by decide +kernel
theorem dX11_worth_137 : decode cX11_worth 137 = .ok (.iconst 0, 1) := by decide +kernel
theorem dX11_worth_138 : decode cX11_worth 138 = .ok (.iastore, 1) := by decide +kernel
theorem dX11_worth_139 : decode cX11_worth 139 = .ok (.goto 65, 3) := by decide +kernel
theorem dX11_worth_142 : decode cX11_worth 142 = .ok (.iload 6, 2) := by decide +kernel
theorem dX11_worth_144 : decode cX11_worth 144 = .ok (.bipush 19, 2) := by decide +kernel
theorem dX11_worth_146 : decode cX11_worth 146 = .ok (.if_icmp .ne 25, 3) := by decide +kernel
theorem dX11_worth_149 : decode cX11_worth 149 = .ok (.aload_n 0, 1) := by decide +kernel
theorem dX11_worth_150 : decode cX11_worth 150 = .ok (.getfield 83, 3) := by decide +kernel
theorem dX11_worth_153 : decode cX11_worth 153 = .ok (.iload 4, 2) := by decide +kernel
theorem dX11_worth_155 : decode cX11_worth 155 = .ok (.iconst 1, 1) := by decide +kernel
theorem dX11_worth_156 : decode cX11_worth 156 = .ok (.isub, 1) := by decide +kernel
theorem dX11_worth_157 : decode cX11_worth 157 = .ok (.aload_n 0, 1) := by decide +kernel
theorem dX11_worth_158 : decode cX11_worth 158 = .ok (.getfield 83, 3) := by decide +kernel
theorem dX11_worth_161 : decode cX11_worth 161 = .ok (.iload 4, 2) := by decide +kernel
theorem dX11_worth_163 : decode cX11_worth 163 = .ok (.iconst 1, 1) := by decide +kernel
theorem dX11_worth_164 : decode cX11_worth 164 = .ok (.isub, 1) := by decide +kernel
theorem dX11_worth_165 : decode cX11_worth 165 = .ok (.iaload, 1) := by decide +kernel
theorem dX11_worth_166 : decode cX11_worth 166 = .ok (.ineg, 1) := by decide +kernel
theorem dX11_worth_167 : decode cX11_worth 167 = .ok (.iastore, 1) := by decide +kernel
theorem dX11_worth_168 : decode cX11_worth 168 = .ok (.goto 36, 3) := by decide +kernel
theorem dX11_worth_171 : decode cX11_worth 171 = .ok (.iinc 4 (-1), 3) := by decide +kernel
theorem dX11_worth_174 : decode cX11_worth 174 = .ok (.aload_n 0, 1) := by decide +kernel
theorem dX11_worth_175 : decode cX11_worth 175 = .ok (.getfield 83, 3) := by decide +kernel
theorem dX11_worth_178 : decode cX11_worth 178 = .ok (.iload 4, 2) := by decide +kernel
theorem dX11_worth_180 : decode cX11_worth 180 = .ok (.iconst 1, 1) := by decide +kernel
theorem dX11_worth_181 : decode cX11_worth 181 = .ok (.isub, 1) := by decide +kernel
theorem dX11_worth_182 : decode cX11_worth 182 = .ok (.iload 6, 2) := by decide +kernel
theorem dX11_worth_184 : decode cX11_worth 184 = .ok (.aload_n 0, 1) := by decide +kernel
theorem dX11_worth_185 : decode cX11_worth 185 = .ok (.getfield 83, 3) := by decide +kernel
theorem dX11_worth_188 : decode cX11_worth 188 = .ok (.iload 4, 2) := by decide +kernel
theorem dX11_worth_190 : decode cX11_worth 190 = .ok (.iconst 1, 1) := by decide +kernel
theorem dX11_worth_191 : decode cX11_worth 191 = .ok (.isub, 1) := by decide +kernel
theorem dX11_worth_192 : decode cX11_worth 192 = .ok (.iaload, 1) := by decide +kernel
theorem dX11_worth_193 : decode cX11_worth 193 = .ok (.aload_n 0, 1) := by decide +kernel
theorem dX11_worth_194 : decode cX11_worth 194 = .ok (.getfield 83, 3) := by decide +kernel
theorem dX11_worth_197 : decode cX11_worth 197 = .ok (.iload 4, 2) := by decide +kernel
theorem dX11_worth_199 : decode cX11_worth 199 = .ok (.iaload, 1) := by decide +kernel
theorem dX11_worth_200 : decode cX11_worth 200 = .ok (.invokestatic 199, 3) := by decide +kernel
theorem dX11_worth_203 : decode cX11_worth 203 = .ok (.iastore, 1) := by decide +kernel
theorem dX11_worth_204 : decode cX11_worth 204 = .ok (.iinc 5 1, 3) := by decide +kernel
theorem dX11_worth_207 : decode cX11_worth 207 = .ok (.goto (-189), 3) := by decide +kernel
theorem dX11_worth_210 : decode cX11_worth 210 = .ok (.aload_n 0, 1) := by decide +kernel
theorem dX11_worth_211 : decode cX11_worth 211 = .ok (.getfield 83, 3) := by decide +kernel
theorem dX11_worth_214 : decode cX11_worth 214 = .ok (.iconst 0, 1) := by decide +kernel
theorem dX11_worth_215 : decode cX11_worth 215 = .ok (.iaload, 1) := by decide +kernel
theorem dX11_worth_216 : decode cX11_worth 216 = .ok (.ireturn, 1) := by decide +kernel
theorem dX11_atLeast0_0 : decode cX11_atLeast0 0 = .ok (.aload_n 0, 1) := by decide +kernel
theorem dX11_atLeast0_1 : decode cX11_atLeast0 1 = .ok (.iload_n 1, 1) := by decide +kernel
theorem dX11_atLeast0_2 : decode cX11_atLeast0 2 = .ok (.iload_n 2, 1) := by decide +kernel
theorem dX11_atLeast0_3 : decode cX11_atLeast0 3 = .ok (.iload_n 3, 1) := by decide +kernel
theorem dX11_atLeast0_4 : decode cX11_atLeast0 4 = .ok (.invokevirtual 202, 3) := by decide +kernel
theorem dX11_atLeast0_7 : decode cX11_atLeast0 7 = .ok (.istore 4, 2) := by decide +kernel
theorem dX11_atLeast0_9 : decode cX11_atLeast0 9 = .ok (.iload 4, 2) := by decide +kernel
theorem dX11_atLeast0_11 : decode cX11_atLeast0 11 = .ok (.ifCond .ge 7, 3) := by decide +kernel
theorem dX11_atLeast0_14 : decode cX11_atLeast0 14 = .ok (.iconst 0, 1) := by decide +kernel
theorem dX11_atLeast0_15 : decode cX11_atLeast0 15 = .ok (.goto 5, 3) := by decide +kernel
theorem dX11_atLeast0_18 : decode cX11_atLeast0 18 = .ok (.iload 4, 2) := by decide +kernel
theorem dX11_atLeast0_20 : decode cX11_atLeast0 20 = .ok (.ireturn, 1) := by decide +kernel
theorem dX11_tells_0 : decode cX11_tells 0 = .ok (.aload_n 0, 1) := by decide +kernel
theorem dX11_tells_1 : decode cX11_tells 1 = .ok (.iload_n 1, 1) := by decide +kernel
theorem dX11_tells_2 : decode cX11_tells 2 = .ok (.invokevirtual 114, 3) := by decide +kernel
theorem dX11_tells_5 : decode cX11_tells 5 = .ok (.ifCond .eq 23, 3) := by decide +kernel
theorem dX11_tells_8 : decode cX11_tells 8 = .ok (.iload_n 2, 1) := by decide +kernel
theorem dX11_tells_9 : decode cX11_tells 9 = .ok (.iconst 0, 1) := by decide +kernel
theorem dX11_tells_10 : decode cX11_tells 10 = .ok (.iconst 2, 1) := by decide +kernel
theorem dX11_tells_11 : decode cX11_tells 11 = .ok (.invokestatic 99, 3) := by decide +kernel
theorem dX11_tells_14 : decode cX11_tells 14 = .ok (.ifCond .eq 14, 3) := by decide +kernel
theorem dX11_tells_17 : decode cX11_tells 17 = .ok (.aload_n 0, 1) := by decide +kernel
theorem dX11_tells_18 : decode cX11_tells 18 = .ok (.iload_n 2, 1) := by decide +kernel
theorem dX11_tells_19 : decode cX11_tells 19 = .ok (.iload_n 1, 1) := by decide +kernel
theorem dX11_tells_20 : decode cX11_tells 20 = .ok (.iconst (-1), 1) := by decide +kernel
theorem dX11_tells_21 : decode cX11_tells 21 = .ok (.invokevirtual 202, 3) := by decide +kernel
theorem dX11_tells_24 : decode cX11_tells 24 = .ok (.i2l, 1) := by decide +kernel
theorem dX11_tells_25 : decode cX11_tells 25 = .ok (.goto 6, 3) := by decide +kernel
theorem dX11_tells_28 : decode cX11_tells 28 = .ok (.ldc2_w 205, 3) := by decide +kernel
theorem dX11_tells_31 : decode cX11_tells 31 = .ok (.lreturn, 1) := by decide +kernel
theorem dX11_becomes_0 : decode cX11_becomes 0 = .ok (.aload_n 0, 1) := by decide +kernel
theorem dX11_becomes_1 : decode cX11_becomes 1 = .ok (.getfield 7, 3) := by decide +kernel
theorem dX11_becomes_4 : decode cX11_becomes 4 = .ok (.bipush 30, 2) := by decide +kernel
theorem dX11_becomes_6 : decode cX11_becomes 6 = .ok (.iload_n 1, 1) := by decide +kernel
theorem dX11_becomes_7 : decode cX11_becomes 7 = .ok (.imul, 1) := by decide +kernel
theorem dX11_becomes_8 : decode cX11_becomes 8 = .ok (.bipush 6, 2) := by decide +kernel
theorem dX11_becomes_10 : decode cX11_becomes 10 = .ok (.iadd, 1) := by decide +kernel
theorem dX11_becomes_11 : decode cX11_becomes 11 = .ok (.iload_n 2, 1) := by decide +kernel
theorem dX11_becomes_12 : decode cX11_becomes 12 = .ok (.iastore, 1) := by decide +kernel
theorem dX11_becomes_13 : decode cX11_becomes 13 = .ok (.aload_n 0, 1) := by decide +kernel
theorem dX11_becomes_14 : decode cX11_becomes 14 = .ok (.getfield 7, 3) := by decide +kernel
theorem dX11_becomes_17 : decode cX11_becomes 17 = .ok (.bipush 30, 2) := by decide +kernel
theorem dX11_becomes_19 : decode cX11_becomes 19 = .ok (.iload_n 1, 1) := by decide +kernel
theorem dX11_becomes_20 : decode cX11_becomes 20 = .ok (.imul, 1) := by decide +kernel
theorem dX11_becomes_21 : decode cX11_becomes 21 = .ok (.bipush 7, 2) := by decide +kernel
theorem dX11_becomes_23 : decode cX11_becomes 23 = .ok (.iadd, 1) := by decide +kernel
theorem dX11_becomes_24 : decode cX11_becomes 24 = .ok (.aload_n 0, 1) := by decide +kernel
theorem dX11_becomes_25 : decode cX11_becomes 25 = .ok (.getfield 7, 3) := by decide +kernel
theorem dX11_becomes_28 : decode cX11_becomes 28 = .ok (.sipush 480, 3) := by decide +kernel
theorem dX11_becomes_31 : decode cX11_becomes 31 = .ok (.iaload, 1) := by decide +kernel
theorem dX11_becomes_32 : decode cX11_becomes 32 = .ok (.iastore, 1) := by decide +kernel
theorem dX11_becomes_33 : decode cX11_becomes 33 = .ok (.return_, 1) := by decide +kernel
theorem dX11_goesOn_0 : decode cX11_goesOn 0 = .ok (.aload_n 0, 1) := by decide +kernel
theorem dX11_goesOn_1 : decode cX11_goesOn 1 = .ok (.getfield 7, 3) := by decide +kernel
theorem dX11_goesOn_4 : decode cX11_goesOn 4 = .ok (.sipush 480, 3) := by decide +kernel
theorem dX11_goesOn_7 : decode cX11_goesOn 7 = .ok (.iaload, 1) := by decide +kernel
theorem dX11_goesOn_8 : decode cX11_goesOn 8 = .ok (.istore_n 2, 1) := by decide +kernel
theorem dX11_goesOn_9 : decode cX11_goesOn 9 = .ok (.iload_n 2, 1) := by decide +kernel
theorem dX11_goesOn_10 : decode cX11_goesOn 10 = .ok (.aload_n 0, 1) := by decide +kernel
theorem dX11_goesOn_11 : decode cX11_goesOn 11 = .ok (.iload_n 1, 1) := by decide +kernel
theorem dX11_goesOn_12 : decode cX11_goesOn 12 = .ok (.bipush 7, 2) := by decide +kernel
theorem dX11_goesOn_14 : decode cX11_goesOn 14 = .ok (.invokevirtual 106, 3) := by decide +kernel
theorem dX11_goesOn_17 : decode cX11_goesOn 17 = .ok (.isub, 1) := by decide +kernel
theorem dX11_goesOn_18 : decode cX11_goesOn 18 = .ok (.istore_n 3, 1) := by decide +kernel
theorem dX11_goesOn_19 : decode cX11_goesOn 19 = .ok (.aload_n 0, 1) := by decide +kernel
theorem dX11_goesOn_20 : decode cX11_goesOn 20 = .ok (.getfield 56, 3) := by decide +kernel
theorem dX11_goesOn_23 : decode cX11_goesOn 23 = .ok (.aload_n 0, 1) := by decide +kernel
theorem dX11_goesOn_24 : decode cX11_goesOn 24 = .ok (.iload_n 1, 1) := by decide +kernel
theorem dX11_goesOn_25 : decode cX11_goesOn 25 = .ok (.iconst 0, 1) := by decide +kernel
theorem dX11_goesOn_26 : decode cX11_goesOn 26 = .ok (.invokevirtual 106, 3) := by decide +kernel
theorem dX11_goesOn_29 : decode cX11_goesOn 29 = .ok (.iaload, 1) := by decide +kernel
theorem dX11_goesOn_30 : decode cX11_goesOn 30 = .ok (.istore 4, 2) := by decide +kernel
theorem dX11_goesOn_32 : decode cX11_goesOn 32 = .ok (.aload_n 0, 1) := by decide +kernel
theorem dX11_goesOn_33 : decode cX11_goesOn 33 = .ok (.iload_n 1, 1) := by decide +kernel
theorem dX11_goesOn_34 : decode cX11_goesOn 34 = .ok (.bipush 6, 2) := by decide +kernel
theorem dX11_goesOn_36 : decode cX11_goesOn 36 = .ok (.invokevirtual 106, 3) := by decide +kernel
theorem dX11_goesOn_39 : decode cX11_goesOn 39 = .ok (.tableswitch 120 0 6 #[41, 59, 75, 90, 120, 120, 104], 41) := by decide +kernel
theorem dX11_goesOn_80 : decode cX11_goesOn 80 = .ok (.aload_n 0, 1) := by decide +kernel
theorem dX11_goesOn_81 : decode cX11_goesOn 81 = .ok (.iload_n 1, 1) := by decide +kernel
theorem dX11_goesOn_82 : decode cX11_goesOn 82 = .ok (.invokevirtual 110, 3) := by decide +kernel
theorem dX11_goesOn_85 : decode cX11_goesOn 85 = .ok (.iload_n 2, 1) := by decide +kernel
theorem dX11_goesOn_86 : decode cX11_goesOn 86 = .ok (.if_icmp .gt 73, 3) := by decide +kernel
theorem dX11_goesOn_89 : decode cX11_goesOn 89 = .ok (.aload_n 0, 1) := by decide +kernel
theorem dX11_goesOn_90 : decode cX11_goesOn 90 = .ok (.iload_n 1, 1) := by decide +kernel
theorem dX11_goesOn_91 : decode cX11_goesOn 91 = .ok (.iconst 1, 1) := by decide +kernel
theorem dX11_goesOn_92 : decode cX11_goesOn 92 = .ok (.invokevirtual 207, 3) := by decide +kernel
theorem dX11_goesOn_95 : decode cX11_goesOn 95 = .ok (.goto 64, 3) := by decide +kernel
theorem dX11_goesOn_98 : decode cX11_goesOn 98 = .ok (.iload_n 3, 1) := by decide +kernel
theorem dX11_goesOn_99 : decode cX11_goesOn 99 = .ok (.bipush 60, 2) := by decide +kernel
theorem dX11_goesOn_101 : decode cX11_goesOn 101 = .ok (.if_icmp .lt 58, 3) := by decide +kernel
theorem dX11_goesOn_104 : decode cX11_goesOn 104 = .ok (.aload_n 0, 1) := by decide +kernel
theorem dX11_goesOn_105 : decode cX11_goesOn 105 = .ok (.iload_n 1, 1) := by decide +kernel
theorem dX11_goesOn_106 : decode cX11_goesOn 106 = .ok (.bipush 8, 2) := by decide +kernel
theorem dX11_goesOn_108 : decode cX11_goesOn 108 = .ok (.invokevirtual 207, 3) := by decide +kernel
theorem dX11_goesOn_111 : decode cX11_goesOn 111 = .ok (.goto 48, 3) := by decide +kernel
theorem dX11_goesOn_114 : decode cX11_goesOn 114 = .ok (.iload_n 3, 1) := by decide +kernel
theorem dX11_goesOn_115 : decode cX11_goesOn 115 = .ok (.iload 4, 2) := by decide +kernel
theorem dX11_goesOn_117 : decode cX11_goesOn 117 = .ok (.if_icmp .lt 42, 3) := by decide +kernel
theorem dX11_goesOn_120 : decode cX11_goesOn 120 = .ok (.aload_n 0, 1) := by decide +kernel
theorem dX11_goesOn_121 : decode cX11_goesOn 121 = .ok (.iload_n 1, 1) := by decide +kernel
theorem dX11_goesOn_122 : decode cX11_goesOn 122 = .ok (.iconst 3, 1) := by decide +kernel
theorem dX11_goesOn_123 : decode cX11_goesOn 123 = .ok (.invokevirtual 207, 3) := by decide +kernel
theorem dX11_goesOn_126 : decode cX11_goesOn 126 = .ok (.goto 33, 3) := by decide +kernel
theorem dX11_goesOn_129 : decode cX11_goesOn 129 = .ok (.iload_n 3, 1) := by decide +kernel
theorem dX11_goesOn_130 : decode cX11_goesOn 130 = .ok (.iconst 4, 1) := by decide +kernel
theorem dX11_goesOn_131 : decode cX11_goesOn 131 = .ok (.if_icmp .lt 28, 3) := by decide +kernel
theorem dX11_goesOn_134 : decode cX11_goesOn 134 = .ok (.aload_n 0, 1) := by decide +kernel
theorem dX11_goesOn_135 : decode cX11_goesOn 135 = .ok (.iload_n 1, 1) := by decide +kernel
theorem dX11_goesOn_136 : decode cX11_goesOn 136 = .ok (.iconst 4, 1) := by decide +kernel
theorem dX11_goesOn_137 : decode cX11_goesOn 137 = .ok (.invokevirtual 207, 3) := by decide +kernel
theorem dX11_goesOn_140 : decode cX11_goesOn 140 = .ok (.goto 19, 3) := by decide +kernel
theorem dX11_goesOn_143 : decode cX11_goesOn 143 = .ok (.iload_n 3, 1) := by decide +kernel
theorem dX11_goesOn_144 : decode cX11_goesOn 144 = .ok (.iload 4, 2) := by decide +kernel
theorem dX11_goesOn_146 : decode cX11_goesOn 146 = .ok (.if_icmp .lt 13, 3) := by decide +kernel
theorem dX11_goesOn_149 : decode cX11_goesOn 149 = .ok (.aload_n 0, 1) := by decide +kernel
theorem dX11_goesOn_150 : decode cX11_goesOn 150 = .ok (.iload_n 1, 1) := by decide +kernel
theorem dX11_goesOn_151 : decode cX11_goesOn 151 = .ok (.bipush 7, 2) := by decide +kernel
theorem dX11_goesOn_153 : decode cX11_goesOn 153 = .ok (.invokevirtual 207, 3) := by decide +kernel
theorem dX11_goesOn_156 : decode cX11_goesOn 156 = .ok (.goto 3, 3) := by decide +kernel
theorem dX11_goesOn_159 : decode cX11_goesOn 159 = .ok (.return_, 1) := by decide +kernel
theorem dX11_isDoneNow_0 : decode cX11_isDoneNow 0 = .ok (.bipush 30, 2) := by decide +kernel
theorem dX11_isDoneNow_2 : decode cX11_isDoneNow 2 = .ok (.iload_n 1, 1) := by decide +kernel
theorem dX11_isDoneNow_3 : decode cX11_isDoneNow 3 = .ok (.imul, 1) := by decide +kernel
theorem dX11_isDoneNow_4 : decode cX11_isDoneNow 4 = .ok (.istore_n 3, 1) := by decide +kernel
theorem dX11_isDoneNow_5 : decode cX11_isDoneNow 5 = .ok (.aload_n 0, 1) := by decide +kernel
theorem dX11_isDoneNow_6 : decode cX11_isDoneNow 6 = .ok (.getfield 7, 3) := by decide +kernel
theorem dX11_isDoneNow_9 : decode cX11_isDoneNow 9 = .ok (.iload_n 3, 1) := by decide +kernel
theorem dX11_isDoneNow_10 : decode cX11_isDoneNow 10 = .ok (.bipush 9, 2) := by decide +kernel
theorem dX11_isDoneNow_12 : decode cX11_isDoneNow 12 = .ok (.iadd, 1) := by decide +kernel
theorem dX11_isDoneNow_13 : decode cX11_isDoneNow 13 = .ok (.dup2, 1) := by decide +kernel
theorem dX11_isDoneNow_14 : decode cX11_isDoneNow 14 = .ok (.iaload, 1) := by decide +kernel
theorem dX11_isDoneNow_15 : decode cX11_isDoneNow 15 = .ok (.iconst 1, 1) := by decide +kernel
theorem dX11_isDoneNow_16 : decode cX11_isDoneNow 16 = .ok (.iload_n 2, 1) := by decide +kernel
theorem dX11_isDoneNow_17 : decode cX11_isDoneNow 17 = .ok (.ishl, 1) := by decide +kernel
theorem dX11_isDoneNow_18 : decode cX11_isDoneNow 18 = .ok (.ior, 1) := by decide +kernel
theorem dX11_isDoneNow_19 : decode cX11_isDoneNow 19 = .ok (.iastore, 1) := by decide +kernel
theorem dX11_isDoneNow_20 : decode cX11_isDoneNow 20 = .ok (.aload_n 0, 1) := by decide +kernel
theorem dX11_isDoneNow_21 : decode cX11_isDoneNow 21 = .ok (.getfield 59, 3) := by decide +kernel
theorem dX11_isDoneNow_24 : decode cX11_isDoneNow 24 = .ok (.iload_n 2, 1) := by decide +kernel
theorem dX11_isDoneNow_25 : decode cX11_isDoneNow 25 = .ok (.iaload, 1) := by decide +kernel
theorem dX11_isDoneNow_26 : decode cX11_isDoneNow 26 = .ok (.iconst (-1), 1) := by decide +kernel
theorem dX11_isDoneNow_27 : decode cX11_isDoneNow 27 = .ok (.if_icmp .eq 22, 3) := by decide +kernel
theorem dX11_isDoneNow_30 : decode cX11_isDoneNow 30 = .ok (.aload_n 0, 1) := by decide +kernel
theorem dX11_isDoneNow_31 : decode cX11_isDoneNow 31 = .ok (.getfield 7, 3) := by decide +kernel
theorem dX11_isDoneNow_34 : decode cX11_isDoneNow 34 = .ok (.sipush 475, 3) := by decide +kernel
theorem dX11_isDoneNow_37 : decode cX11_isDoneNow 37 = .ok (.aload_n 0, 1) := by decide +kernel
theorem dX11_isDoneNow_38 : decode cX11_isDoneNow 38 = .ok (.getfield 59, 3) := by decide +kernel
theorem dX11_isDoneNow_41 : decode cX11_isDoneNow 41 = .ok (.iload_n 2, 1) := by decide +kernel
theorem dX11_isDoneNow_42 : decode cX11_isDoneNow 42 = .ok (.iaload, 1) := by decide +kernel
theorem dX11_isDoneNow_43 : decode cX11_isDoneNow 43 = .ok (.iadd, 1) := by decide +kernel
theorem dX11_isDoneNow_44 : decode cX11_isDoneNow 44 = .ok (.dup2, 1) := by decide +kernel
theorem dX11_isDoneNow_45 : decode cX11_isDoneNow 45 = .ok (.iaload, 1) := by decide +kernel
theorem dX11_isDoneNow_46 : decode cX11_isDoneNow 46 = .ok (.iconst 1, 1) := by decide +kernel
theorem dX11_isDoneNow_47 : decode cX11_isDoneNow 47 = .ok (.isub, 1) := by decide +kernel
theorem dX11_isDoneNow_48 : decode cX11_isDoneNow 48 = .ok (.iastore, 1) := by decide +kernel
theorem dX11_isDoneNow_49 : decode cX11_isDoneNow 49 = .ok (.iload_n 2, 1) := by decide +kernel
theorem dX11_isDoneNow_50 : decode cX11_isDoneNow 50 = .ok (.iconst 1, 1) := by decide +kernel
theorem dX11_isDoneNow_51 : decode cX11_isDoneNow 51 = .ok (.if_icmp .ne 93, 3) := by decide +kernel
theorem dX11_isDoneNow_54 : decode cX11_isDoneNow 54 = .ok (.sipush 360, 3) := by decide +kernel
theorem dX11_isDoneNow_57 : decode cX11_isDoneNow 57 = .ok (.istore 4, 2) := by decide +kernel
theorem dX11_isDoneNow_59 : decode cX11_isDoneNow 59 = .ok (.iload 4, 2) := by decide +kernel
theorem dX11_isDoneNow_61 : decode cX11_isDoneNow 61 = .ok (.sipush 360, 3) := by decide +kernel
theorem dX11_isDoneNow_64 : decode cX11_isDoneNow 64 = .ok (.bipush 6, 2) := by decide +kernel
theorem dX11_isDoneNow_66 : decode cX11_isDoneNow 66 = .ok (.aload_n 0, 1) := by decide +kernel
theorem dX11_isDoneNow_67 : decode cX11_isDoneNow 67 = .ok (.getfield 124, 3) := by decide +kernel
theorem dX11_isDoneNow_70 : decode cX11_isDoneNow 70 = .ok (.imul, 1) := by decide +kernel
theorem dX11_isDoneNow_71 : decode cX11_isDoneNow 71 = .ok (.iadd, 1) := by decide +kernel
theorem dX11_isDoneNow_72 : decode cX11_isDoneNow 72 = .ok (.if_icmp .ge 69, 3) := by decide +kernel
theorem dX11_isDoneNow_75 : decode cX11_isDoneNow 75 = .ok (.aload_n 0, 1) := by decide +kernel
theorem dX11_isDoneNow_76 : decode cX11_isDoneNow 76 = .ok (.getfield 7, 3) := by decide +kernel
theorem dX11_isDoneNow_79 : decode cX11_isDoneNow 79 = .ok (.iload 4, 2) := by decide +kernel
theorem dX11_isDoneNow_81 : decode cX11_isDoneNow 81 = .ok (.iaload, 1) := by decide +kernel
theorem dX11_isDoneNow_82 : decode cX11_isDoneNow 82 = .ok (.iload_n 1, 1) := by decide +kernel
theorem dX11_isDoneNow_83 : decode cX11_isDoneNow 83 = .ok (.if_icmp .ne 52, 3) := by decide +kernel
theorem dX11_isDoneNow_86 : decode cX11_isDoneNow 86 = .ok (.aload_n 0, 1) := by decide +kernel
theorem dX11_isDoneNow_87 : decode cX11_isDoneNow 87 = .ok (.getfield 7, 3) := by decide +kernel
theorem dX11_isDoneNow_90 : decode cX11_isDoneNow 90 = .ok (.iload 4, 2) := by decide +kernel
theorem dX11_isDoneNow_92 : decode cX11_isDoneNow 92 = .ok (.iconst 4, 1) := by decide +kernel
theorem dX11_isDoneNow_93 : decode cX11_isDoneNow 93 = .ok (.iadd, 1) := by decide +kernel
theorem dX11_isDoneNow_94 : decode cX11_isDoneNow 94 = .ok (.iaload, 1) := by decide +kernel
theorem dX11_isDoneNow_95 : decode cX11_isDoneNow 95 = .ok (.ifCond .ne 40, 3) := by decide +kernel
theorem dX11_isDoneNow_98 : decode cX11_isDoneNow 98 = .ok (.aload_n 0, 1) := by decide +kernel
theorem dX11_isDoneNow_99 : decode cX11_isDoneNow 99 = .ok (.getfield 7, 3) := by decide +kernel
theorem dX11_isDoneNow_102 : decode cX11_isDoneNow 102 = .ok (.iload 4, 2) := by decide +kernel
theorem dX11_isDoneNow_104 : decode cX11_isDoneNow 104 = .ok (.iconst 4, 1) := by decide +kernel
theorem dX11_isDoneNow_105 : decode cX11_isDoneNow 105 = .ok (.iadd, 1) := by decide +kernel
theorem dX11_isDoneNow_106 : decode cX11_isDoneNow 106 = .ok (.iconst 1, 1) := by decide +kernel
theorem dX11_isDoneNow_107 : decode cX11_isDoneNow 107 = .ok (.iastore, 1) := by decide +kernel
theorem dX11_isDoneNow_108 : decode cX11_isDoneNow 108 = .ok (.aload_n 0, 1) := by decide +kernel
theorem dX11_isDoneNow_109 : decode cX11_isDoneNow 109 = .ok (.getfield 7, 3) := by decide +kernel
theorem dX11_isDoneNow_112 : decode cX11_isDoneNow 112 = .ok (.iload 4, 2) := by decide +kernel
theorem dX11_isDoneNow_114 : decode cX11_isDoneNow 114 = .ok (.iconst 5, 1) := by decide +kernel
theorem dX11_isDoneNow_115 : decode cX11_isDoneNow 115 = .ok (.iadd, 1) := by decide +kernel
theorem dX11_isDoneNow_116 : decode cX11_isDoneNow 116 = .ok (.aload_n 0, 1) := by decide +kernel
theorem dX11_isDoneNow_117 : decode cX11_isDoneNow 117 = .ok (.getfield 7, 3) := by decide +kernel
theorem dX11_isDoneNow_120 : decode cX11_isDoneNow 120 = .ok (.sipush 480, 3) := by decide +kernel
theorem dX11_isDoneNow_123 : decode cX11_isDoneNow 123 = .ok (.iaload, 1) := by decide +kernel
theorem dX11_isDoneNow_124 : decode cX11_isDoneNow 124 = .ok (.aload_n 0, 1) := by decide +kernel
theorem dX11_isDoneNow_125 : decode cX11_isDoneNow 125 = .ok (.getfield 7, 3) := by decide +kernel
theorem dX11_isDoneNow_128 : decode cX11_isDoneNow 128 = .ok (.iload 4, 2) := by decide +kernel
theorem dX11_isDoneNow_130 : decode cX11_isDoneNow 130 = .ok (.iconst 3, 1) := by decide +kernel
theorem dX11_isDoneNow_131 : decode cX11_isDoneNow 131 = .ok (.iadd, 1) := by decide +kernel
theorem dX11_isDoneNow_132 : decode cX11_isDoneNow 132 = .ok (.iaload, 1) := by decide +kernel
theorem dX11_isDoneNow_133 : decode cX11_isDoneNow 133 = .ok (.iadd, 1) := by decide +kernel
theorem dX11_isDoneNow_134 : decode cX11_isDoneNow 134 = .ok (.iastore, 1) := by decide +kernel
theorem dX11_isDoneNow_135 : decode cX11_isDoneNow 135 = .ok (.iinc 4 6, 3) := by decide +kernel
theorem dX11_isDoneNow_138 : decode cX11_isDoneNow 138 = .ok (.goto (-79), 3) := by decide +kernel
theorem dX11_isDoneNow_141 : decode cX11_isDoneNow 141 = .ok (.goto 70, 3) := by decide +kernel
theorem dX11_isDoneNow_144 : decode cX11_isDoneNow 144 = .ok (.iload_n 2, 1) := by decide +kernel
theorem dX11_isDoneNow_145 : decode cX11_isDoneNow 145 = .ok (.bipush 6, 2) := by decide +kernel
theorem dX11_isDoneNow_147 : decode cX11_isDoneNow 147 = .ok (.if_icmp .ne 23, 3) := by decide +kernel
theorem dX11_isDoneNow_150 : decode cX11_isDoneNow 150 = .ok (.aload_n 0, 1) := by decide +kernel
theorem dX11_isDoneNow_151 : decode cX11_isDoneNow 151 = .ok (.getfield 7, 3) := by decide +kernel
theorem dX11_isDoneNow_154 : decode cX11_isDoneNow 154 = .ok (.iload_n 3, 1) := by decide +kernel
theorem dX11_isDoneNow_155 : decode cX11_isDoneNow 155 = .ok (.bipush 10, 2) := by decide +kernel
theorem dX11_isDoneNow_157 : decode cX11_isDoneNow 157 = .ok (.iadd, 1) := by decide +kernel
theorem dX11_isDoneNow_158 : decode cX11_isDoneNow 158 = .ok (.aload_n 0, 1) := by decide +kernel
theorem dX11_isDoneNow_159 : decode cX11_isDoneNow 159 = .ok (.getfield 7, 3) := by decide +kernel
theorem dX11_isDoneNow_162 : decode cX11_isDoneNow 162 = .ok (.sipush 480, 3) := by decide +kernel
theorem dX11_isDoneNow_165 : decode cX11_isDoneNow 165 = .ok (.iaload, 1) := by decide +kernel
theorem dX11_isDoneNow_166 : decode cX11_isDoneNow 166 = .ok (.iastore, 1) := by decide +kernel
theorem dX11_isDoneNow_167 : decode cX11_isDoneNow 167 = .ok (.goto 44, 3) := by decide +kernel
theorem dX11_isDoneNow_170 : decode cX11_isDoneNow 170 = .ok (.iload_n 2, 1) := by decide +kernel
theorem dX11_isDoneNow_171 : decode cX11_isDoneNow 171 = .ok (.bipush 7, 2) := by decide +kernel
theorem dX11_isDoneNow_173 : decode cX11_isDoneNow 173 = .ok (.if_icmp .ne 38, 3) := by decide +kernel
theorem dX11_isDoneNow_176 : decode cX11_isDoneNow 176 = .ok (.aload_n 0, 1) := by decide +kernel
theorem dX11_isDoneNow_177 : decode cX11_isDoneNow 177 = .ok (.getfield 7, 3) := by decide +kernel
theorem dX11_isDoneNow_180 : decode cX11_isDoneNow 180 = .ok (.sipush 496, 3) := by decide +kernel
theorem dX11_isDoneNow_183 : decode cX11_isDoneNow 183 = .ok (.aload_n 0, 1) := by decide +kernel
theorem dX11_isDoneNow_184 : decode cX11_isDoneNow 184 = .ok (.getfield 7, 3) := by decide +kernel
theorem dX11_isDoneNow_187 : decode cX11_isDoneNow 187 = .ok (.iload_n 3, 1) := by decide +kernel
theorem dX11_isDoneNow_188 : decode cX11_isDoneNow 188 = .ok (.bipush 8, 2) := by decide +kernel
theorem dX11_isDoneNow_190 : decode cX11_isDoneNow 190 = .ok (.iadd, 1) := by decide +kernel
theorem dX11_isDoneNow_191 : decode cX11_isDoneNow 191 = .ok (.iaload, 1) := by decide +kernel
theorem dX11_isDoneNow_192 : decode cX11_isDoneNow 192 = .ok (.iadd, 1) := by decide +kernel
theorem dX11_isDoneNow_193 : decode cX11_isDoneNow 193 = .ok (.iconst (-1), 1) := by decide +kernel
theorem dX11_isDoneNow_194 : decode cX11_isDoneNow 194 = .ok (.iastore, 1) := by decide +kernel
theorem dX11_isDoneNow_195 : decode cX11_isDoneNow 195 = .ok (.aload_n 0, 1) := by decide +kernel
theorem dX11_isDoneNow_196 : decode cX11_isDoneNow 196 = .ok (.getfield 7, 3) := by decide +kernel
theorem dX11_isDoneNow_199 : decode cX11_isDoneNow 199 = .ok (.iload_n 3, 1) := by decide +kernel
theorem dX11_isDoneNow_200 : decode cX11_isDoneNow 200 = .ok (.bipush 8, 2) := by decide +kernel
theorem dX11_isDoneNow_202 : decode cX11_isDoneNow 202 = .ok (.iadd, 1) := by decide +kernel
theorem dX11_isDoneNow_203 : decode cX11_isDoneNow 203 = .ok (.iconst (-1), 1) := by decide +kernel
theorem dX11_isDoneNow_204 : decode cX11_isDoneNow 204 = .ok (.iastore, 1) := by decide +kernel
theorem dX11_isDoneNow_205 : decode cX11_isDoneNow 205 = .ok (.aload_n 0, 1) := by decide +kernel
theorem dX11_isDoneNow_206 : decode cX11_isDoneNow 206 = .ok (.iload_n 1, 1) := by decide +kernel
theorem dX11_isDoneNow_207 : decode cX11_isDoneNow 207 = .ok (.iconst 5, 1) := by decide +kernel
theorem dX11_isDoneNow_208 : decode cX11_isDoneNow 208 = .ok (.invokevirtual 207, 3) := by decide +kernel
theorem dX11_isDoneNow_211 : decode cX11_isDoneNow 211 = .ok (.return_, 1) := by decide +kernel
theorem dX11_works_0 : decode cX11_works 0 = .ok (.iconst 0, 1) := by decide +kernel
theorem dX11_works_1 : decode cX11_works 1 = .ok (.istore_n 2, 1) := by decide +kernel
theorem dX11_works_2 : decode cX11_works 2 = .ok (.iload_n 2, 1) := by decide +kernel
theorem dX11_works_3 : decode cX11_works 3 = .ok (.bipush 8, 2) := by decide +kernel
theorem dX11_works_5 : decode cX11_works 5 = .ok (.if_icmp .ge 53, 3) := by decide +kernel
theorem dX11_works_8 : decode cX11_works 8 = .ok (.bipush 30, 2) := by decide +kernel
theorem dX11_works_10 : decode cX11_works 10 = .ok (.iload_n 1, 1) := by decide +kernel
theorem dX11_works_11 : decode cX11_works 11 = .ok (.imul, 1) := by decide +kernel
theorem dX11_works_12 : decode cX11_works 12 = .ok (.bipush 11, 2) := by decide +kernel
theorem dX11_works_14 : decode cX11_works 14 = .ok (.iadd, 1) := by decide +kernel
theorem dX11_works_15 : decode cX11_works 15 = .ok (.iload_n 2, 1) := by decide +kernel
theorem dX11_works_16 : decode cX11_works 16 = .ok (.iadd, 1) := by decide +kernel
theorem dX11_works_17 : decode cX11_works 17 = .ok (.istore_n 3, 1) := by decide +kernel
theorem dX11_works_18 : decode cX11_works 18 = .ok (.aload_n 0, 1) := by decide +kernel
theorem dX11_works_19 : decode cX11_works 19 = .ok (.getfield 7, 3) := by decide +kernel
theorem dX11_works_22 : decode cX11_works 22 = .ok (.iload_n 3, 1) := by decide +kernel
theorem dX11_works_23 : decode cX11_works 23 = .ok (.iaload, 1) := by decide +kernel
theorem dX11_works_24 : decode cX11_works 24 = .ok (.ifCond .le 28, 3) := by decide +kernel
theorem dX11_works_27 : decode cX11_works 27 = .ok (.aload_n 0, 1) := by decide +kernel
theorem dX11_works_28 : decode cX11_works 28 = .ok (.getfield 7, 3) := by decide +kernel
theorem dX11_works_31 : decode cX11_works 31 = .ok (.iload_n 3, 1) := by decide +kernel
theorem dX11_works_32 : decode cX11_works 32 = .ok (.dup2, 1) := by decide +kernel
theorem dX11_works_33 : decode cX11_works 33 = .ok (.iaload, 1) := by decide +kernel
theorem dX11_works_34 : decode cX11_works 34 = .ok (.iconst 1, 1) := by decide +kernel
theorem dX11_works_35 : decode cX11_works 35 = .ok (.isub, 1) := by decide +kernel
theorem dX11_works_36 : decode cX11_works 36 = .ok (.iastore, 1) := by decide +kernel
theorem dX11_works_37 : decode cX11_works 37 = .ok (.aload_n 0, 1) := by decide +kernel
theorem dX11_works_38 : decode cX11_works 38 = .ok (.getfield 7, 3) := by decide +kernel
theorem dX11_works_41 : decode cX11_works 41 = .ok (.iload_n 3, 1) := by decide +kernel
theorem dX11_works_42 : decode cX11_works 42 = .ok (.iaload, 1) := by decide +kernel
theorem dX11_works_43 : decode cX11_works 43 = .ok (.ifCond .ne 9, 3) := by decide +kernel
theorem dX11_works_46 : decode cX11_works 46 = .ok (.aload_n 0, 1) := by decide +kernel
theorem dX11_works_47 : decode cX11_works 47 = .ok (.iload_n 1, 1) := by decide +kernel
theorem dX11_works_48 : decode cX11_works 48 = .ok (.iload_n 2, 1) := by decide +kernel
theorem dX11_works_49 : decode cX11_works 49 = .ok (.invokevirtual 211, 3) := by decide +kernel
theorem dX11_works_52 : decode cX11_works 52 = .ok (.iinc 2 1, 3) := by decide +kernel
theorem dX11_works_55 : decode cX11_works 55 = .ok (.goto (-53), 3) := by decide +kernel
theorem dX11_works_58 : decode cX11_works 58 = .ok (.return_, 1) := by decide +kernel
theorem dX11_feedGoes_0 : decode cX11_feedGoes 0 = .ok (.aload_n 0, 1) := by decide +kernel
theorem dX11_feedGoes_1 : decode cX11_feedGoes 1 = .ok (.getfield 7, 3) := by decide +kernel
theorem dX11_feedGoes_4 : decode cX11_feedGoes 4 = .ok (.iload_n 1, 1) := by decide +kernel
theorem dX11_feedGoes_5 : decode cX11_feedGoes 5 = .ok (.iconst 4, 1) := by decide +kernel
theorem dX11_feedGoes_6 : decode cX11_feedGoes 6 = .ok (.iadd, 1) := by decide +kernel
theorem dX11_feedGoes_7 : decode cX11_feedGoes 7 = .ok (.iaload, 1) := by decide +kernel
theorem dX11_feedGoes_8 : decode cX11_feedGoes 8 = .ok (.istore_n 2, 1) := by decide +kernel
theorem dX11_feedGoes_9 : decode cX11_feedGoes 9 = .ok (.iload_n 2, 1) := by decide +kernel
theorem dX11_feedGoes_10 : decode cX11_feedGoes 10 = .ok (.iconst 1, 1) := by decide +kernel
theorem dX11_feedGoes_11 : decode cX11_feedGoes 11 = .ok (.if_icmp .le 4, 3) := by decide +kernel
theorem dX11_feedGoes_14 : decode cX11_feedGoes 14 = .ok (.return_, 1) := by decide +kernel
theorem dX11_feedGoes_15 : decode cX11_feedGoes 15 = .ok (.aload_n 0, 1) := by decide +kernel
theorem dX11_feedGoes_16 : decode cX11_feedGoes 16 = .ok (.aload_n 0, 1) := by decide +kernel
theorem dX11_feedGoes_17 : decode cX11_feedGoes 17 = .ok (.getfield 7, 3) := by decide +kernel
theorem dX11_feedGoes_20 : decode cX11_feedGoes 20 = .ok (.iload_n 1, 1) := by decide +kernel
theorem dX11_feedGoes_21 : decode cX11_feedGoes 21 = .ok (.iconst 1, 1) := by decide +kernel
theorem dX11_feedGoes_22 : decode cX11_feedGoes 22 = .ok (.iadd, 1) := by decide +kernel
theorem dX11_feedGoes_23 : decode cX11_feedGoes 23 = .ok (.iaload, 1) := by decide +kernel
theorem dX11_feedGoes_24 : decode cX11_feedGoes 24 = .ok (.bipush 6, 2) := by decide +kernel
theorem dX11_feedGoes_26 : decode cX11_feedGoes 26 = .ok (.invokevirtual 106, 3) := by decide +kernel
theorem dX11_feedGoes_29 : decode cX11_feedGoes 29 = .ok (.bipush 8, 2) := by decide +kernel
theorem dX11_feedGoes_31 : decode cX11_feedGoes 31 = .ok (.if_icmp .eq 24, 3) := by decide +kernel
theorem dX11_feedGoes_34 : decode cX11_feedGoes 34 = .ok (.iload_n 2, 1) := by decide +kernel
theorem dX11_feedGoes_35 : decode cX11_feedGoes 35 = .ok (.ifCond .ne 32, 3) := by decide +kernel
theorem dX11_feedGoes_38 : decode cX11_feedGoes 38 = .ok (.aload_n 0, 1) := by decide +kernel
theorem dX11_feedGoes_39 : decode cX11_feedGoes 39 = .ok (.aload_n 0, 1) := by decide +kernel
theorem dX11_feedGoes_40 : decode cX11_feedGoes 40 = .ok (.getfield 7, 3) := by decide +kernel
theorem dX11_feedGoes_43 : decode cX11_feedGoes 43 = .ok (.iload_n 1, 1) := by decide +kernel
theorem dX11_feedGoes_44 : decode cX11_feedGoes 44 = .ok (.iaload, 1) := by decide +kernel
theorem dX11_feedGoes_45 : decode cX11_feedGoes 45 = .ok (.bipush 6, 2) := by decide +kernel
theorem dX11_feedGoes_47 : decode cX11_feedGoes 47 = .ok (.invokevirtual 106, 3) := by decide +kernel
theorem dX11_feedGoes_50 : decode cX11_feedGoes 50 = .ok (.bipush 8, 2) := by decide +kernel
theorem dX11_feedGoes_52 : decode cX11_feedGoes 52 = .ok (.if_icmp .ne 15, 3) := by decide +kernel
theorem dX11_feedGoes_55 : decode cX11_feedGoes 55 = .ok (.aload_n 0, 1) := by decide +kernel
theorem dX11_feedGoes_56 : decode cX11_feedGoes 56 = .ok (.getfield 7, 3) := by decide +kernel
theorem dX11_feedGoes_59 : decode cX11_feedGoes 59 = .ok (.iload_n 1, 1) := by decide +kernel
theorem dX11_feedGoes_60 : decode cX11_feedGoes 60 = .ok (.iconst 4, 1) := by decide +kernel
theorem dX11_feedGoes_61 : decode cX11_feedGoes 61 = .ok (.iadd, 1) := by decide +kernel
theorem dX11_feedGoes_62 : decode cX11_feedGoes 62 = .ok (.iconst 3, 1) := by decide +kernel
theorem dX11_feedGoes_63 : decode cX11_feedGoes 63 = .ok (.iastore, 1) := by decide +kernel
theorem dX11_feedGoes_64 : decode cX11_feedGoes 64 = .ok (.goto 56, 3) := by decide +kernel
theorem dX11_feedGoes_67 : decode cX11_feedGoes 67 = .ok (.iload_n 2, 1) := by decide +kernel
theorem dX11_feedGoes_68 : decode cX11_feedGoes 68 = .ok (.iconst 1, 1) := by decide +kernel
theorem dX11_feedGoes_69 : decode cX11_feedGoes 69 = .ok (.if_icmp .ne 51, 3) := by decide +kernel
theorem dX11_feedGoes_72 : decode cX11_feedGoes 72 = .ok (.aload_n 0, 1) := by decide +kernel
theorem dX11_feedGoes_73 : decode cX11_feedGoes 73 = .ok (.getfield 7, 3) := by decide +kernel
theorem dX11_feedGoes_76 : decode cX11_feedGoes 76 = .ok (.iload_n 1, 1) := by decide +kernel
theorem dX11_feedGoes_77 : decode cX11_feedGoes 77 = .ok (.iconst 5, 1) := by decide +kernel
theorem dX11_feedGoes_78 : decode cX11_feedGoes 78 = .ok (.iadd, 1) := by decide +kernel
theorem dX11_feedGoes_79 : decode cX11_feedGoes 79 = .ok (.iaload, 1) := by decide +kernel
theorem dX11_feedGoes_80 : decode cX11_feedGoes 80 = .ok (.aload_n 0, 1) := by decide +kernel
theorem dX11_feedGoes_81 : decode cX11_feedGoes 81 = .ok (.getfield 7, 3) := by decide +kernel
theorem dX11_feedGoes_84 : decode cX11_feedGoes 84 = .ok (.sipush 480, 3) := by decide +kernel
theorem dX11_feedGoes_87 : decode cX11_feedGoes 87 = .ok (.iaload, 1) := by decide +kernel
theorem dX11_feedGoes_88 : decode cX11_feedGoes 88 = .ok (.if_icmp .gt 32, 3) := by decide +kernel
theorem dX11_feedGoes_91 : decode cX11_feedGoes 91 = .ok (.aload_n 0, 1) := by decide +kernel
theorem dX11_feedGoes_92 : decode cX11_feedGoes 92 = .ok (.getfield 7, 3) := by decide +kernel
theorem dX11_feedGoes_95 : decode cX11_feedGoes 95 = .ok (.iload_n 1, 1) := by decide +kernel
theorem dX11_feedGoes_96 : decode cX11_feedGoes 96 = .ok (.iconst 4, 1) := by decide +kernel
theorem dX11_feedGoes_97 : decode cX11_feedGoes 97 = .ok (.iadd, 1) := by decide +kernel
theorem dX11_feedGoes_98 : decode cX11_feedGoes 98 = .ok (.aload_n 0, 1) := by decide +kernel
theorem dX11_feedGoes_99 : decode cX11_feedGoes 99 = .ok (.aload_n 0, 1) := by decide +kernel
theorem dX11_feedGoes_100 : decode cX11_feedGoes 100 = .ok (.getfield 7, 3) := by decide +kernel
theorem dX11_feedGoes_103 : decode cX11_feedGoes 103 = .ok (.iload_n 1, 1) := by decide +kernel
theorem dX11_feedGoes_104 : decode cX11_feedGoes 104 = .ok (.iconst 1, 1) := by decide +kernel
theorem dX11_feedGoes_105 : decode cX11_feedGoes 105 = .ok (.iadd, 1) := by decide +kernel
theorem dX11_feedGoes_106 : decode cX11_feedGoes 106 = .ok (.iaload, 1) := by decide +kernel
theorem dX11_feedGoes_107 : decode cX11_feedGoes 107 = .ok (.iconst 5, 1) := by decide +kernel
theorem dX11_feedGoes_108 : decode cX11_feedGoes 108 = .ok (.invokevirtual 214, 3) := by decide +kernel
theorem dX11_feedGoes_111 : decode cX11_feedGoes 111 = .ok (.ifCond .eq 7, 3) := by decide +kernel
theorem dX11_feedGoes_114 : decode cX11_feedGoes 114 = .ok (.iconst 3, 1) := by decide +kernel
theorem dX11_feedGoes_115 : decode cX11_feedGoes 115 = .ok (.goto 4, 3) := by decide +kernel
theorem dX11_feedGoes_118 : decode cX11_feedGoes 118 = .ok (.iconst 2, 1) := by decide +kernel
theorem dX11_feedGoes_119 : decode cX11_feedGoes 119 = .ok (.iastore, 1) := by decide +kernel
theorem dX11_feedGoes_120 : decode cX11_feedGoes 120 = .ok (.return_, 1) := by decide +kernel
theorem dX11_isFree_0 : decode cX11_isFree 0 = .ok (.aload_n 0, 1) := by decide +kernel
theorem dX11_isFree_1 : decode cX11_isFree 1 = .ok (.getfield 7, 3) := by decide +kernel
theorem dX11_isFree_4 : decode cX11_isFree 4 = .ok (.sipush 475, 3) := by decide +kernel
theorem dX11_isFree_7 : decode cX11_isFree 7 = .ok (.iload_n 1, 1) := by decide +kernel
theorem dX11_isFree_8 : decode cX11_isFree 8 = .ok (.iadd, 1) := by decide +kernel
theorem dX11_isFree_9 : decode cX11_isFree 9 = .ok (.iaload, 1) := by decide +kernel
theorem dX11_isFree_10 : decode cX11_isFree 10 = .ok (.aload_n 0, 1) := by decide +kernel
theorem dX11_isFree_11 : decode cX11_isFree 11 = .ok (.getfield 7, 3) := by decide +kernel
theorem dX11_isFree_14 : decode cX11_isFree 14 = .ok (.sipush 470, 3) := by decide +kernel
theorem dX11_isFree_17 : decode cX11_isFree 17 = .ok (.iload_n 1, 1) := by decide +kernel
theorem dX11_isFree_18 : decode cX11_isFree 18 = .ok (.iadd, 1) := by decide +kernel
theorem dX11_isFree_19 : decode cX11_isFree 19 = .ok (.iaload, 1) := by decide +kernel
theorem dX11_isFree_20 : decode cX11_isFree 20 = .ok (.if_icmp .ge 7, 3) := by decide +kernel
theorem dX11_isFree_23 : decode cX11_isFree 23 = .ok (.iconst 1, 1) := by decide +kernel
theorem dX11_isFree_24 : decode cX11_isFree 24 = .ok (.goto 4, 3) := by decide +kernel
theorem dX11_isFree_27 : decode cX11_isFree 27 = .ok (.iconst 0, 1) := by decide +kernel
theorem dX11_isFree_28 : decode cX11_isFree 28 = .ok (.ireturn, 1) := by decide +kernel
theorem dX11_hindrance_0 : decode cX11_hindrance 0 = .ok (.aload_n 0, 1) := by decide +kernel
theorem dX11_hindrance_1 : decode cX11_hindrance 1 = .ok (.getfield 7, 3) := by decide +kernel
theorem dX11_hindrance_4 : decode cX11_hindrance 4 = .ok (.sipush 480, 3) := by decide +kernel
theorem dX11_hindrance_7 : decode cX11_hindrance 7 = .ok (.iaload, 1) := by decide +kernel
theorem dX11_hindrance_8 : decode cX11_hindrance 8 = .ok (.istore_n 3, 1) := by decide +kernel
theorem dX11_hindrance_9 : decode cX11_hindrance 9 = .ok (.iload_n 2, 1) := by decide +kernel
theorem dX11_hindrance_10 : decode cX11_hindrance 10 = .ok (.iconst 5, 1) := by decide +kernel
theorem dX11_hindrance_11 : decode cX11_hindrance 11 = .ok (.if_icmp .ne 35, 3) := by decide +kernel
theorem dX11_hindrance_14 : decode cX11_hindrance 14 = .ok (.aload_n 0, 1) := by decide +kernel
theorem dX11_hindrance_15 : decode cX11_hindrance 15 = .ok (.iload_n 1, 1) := by decide +kernel
theorem dX11_hindrance_16 : decode cX11_hindrance 16 = .ok (.invokevirtual 189, 3) := by decide +kernel
theorem dX11_hindrance_19 : decode cX11_hindrance 19 = .ok (.ifCond .le 27, 3) := by decide +kernel
theorem dX11_hindrance_22 : decode cX11_hindrance 22 = .ok (.iload_n 3, 1) := by decide +kernel
theorem dX11_hindrance_23 : decode cX11_hindrance 23 = .ok (.i2l, 1) := by decide +kernel
theorem dX11_hindrance_24 : decode cX11_hindrance 24 = .ok (.aload_n 0, 1) := by decide +kernel
theorem dX11_hindrance_25 : decode cX11_hindrance 25 = .ok (.iload_n 1, 1) := by decide +kernel
theorem dX11_hindrance_26 : decode cX11_hindrance 26 = .ok (.iconst 2, 1) := by decide +kernel
theorem dX11_hindrance_27 : decode cX11_hindrance 27 = .ok (.invokevirtual 106, 3) := by decide +kernel
theorem dX11_hindrance_30 : decode cX11_hindrance 30 = .ok (.i2l, 1) := by decide +kernel
theorem dX11_hindrance_31 : decode cX11_hindrance 31 = .ok (.aload_n 0, 1) := by decide +kernel
theorem dX11_hindrance_32 : decode cX11_hindrance 32 = .ok (.iconst 2, 1) := by decide +kernel
theorem dX11_hindrance_33 : decode cX11_hindrance 33 = .ok (.iload_n 1, 1) := by decide +kernel
theorem dX11_hindrance_34 : decode cX11_hindrance 34 = .ok (.iconst (-1), 1) := by decide +kernel
theorem dX11_hindrance_35 : decode cX11_hindrance 35 = .ok (.invokevirtual 218, 3) := by decide +kernel
theorem dX11_hindrance_38 : decode cX11_hindrance 38 = .ok (.i2l, 1) := by decide +kernel
theorem dX11_hindrance_39 : decode cX11_hindrance 39 = .ok (.ladd, 1) := by decide +kernel
theorem dX11_hindrance_40 : decode cX11_hindrance 40 = .ok (.lcmp, 1) := by decide +kernel
theorem dX11_hindrance_41 : decode cX11_hindrance 41 = .ok (.ifCond .ge 5, 3) := by decide +kernel
theorem dX11_hindrance_44 : decode cX11_hindrance 44 = .ok (.iconst 4, 1) := by decide +kernel
theorem dX11_hindrance_45 : decode cX11_hindrance 45 = .ok (.ireturn, 1) := by decide +kernel
theorem dX11_hindrance_46 : decode cX11_hindrance 46 = .ok (.iload_n 2, 1) := by decide +kernel
theorem dX11_hindrance_47 : decode cX11_hindrance 47 = .ok (.bipush 7, 2) := by decide +kernel
theorem dX11_hindrance_49 : decode cX11_hindrance 49 = .ok (.if_icmp .ne 23, 3) := by decide +kernel
theorem dX11_hindrance_52 : decode cX11_hindrance 52 = .ok (.iload_n 3, 1) := by decide +kernel
theorem dX11_hindrance_53 : decode cX11_hindrance 53 = .ok (.aload_n 0, 1) := by decide +kernel
theorem dX11_hindrance_54 : decode cX11_hindrance 54 = .ok (.iload_n 1, 1) := by decide +kernel
theorem dX11_hindrance_55 : decode cX11_hindrance 55 = .ok (.iconst 2, 1) := by decide +kernel
theorem dX11_hindrance_56 : decode cX11_hindrance 56 = .ok (.invokevirtual 106, 3) := by decide +kernel
theorem dX11_hindrance_59 : decode cX11_hindrance 59 = .ok (.aload_n 0, 1) := by decide +kernel
theorem dX11_hindrance_60 : decode cX11_hindrance 60 = .ok (.iload_n 1, 1) := by decide +kernel
theorem dX11_hindrance_61 : decode cX11_hindrance 61 = .ok (.bipush 7, 2) := by decide +kernel
theorem dX11_hindrance_63 : decode cX11_hindrance 63 = .ok (.invokevirtual 221, 3) := by decide +kernel
theorem dX11_hindrance_66 : decode cX11_hindrance 66 = .ok (.isub, 1) := by decide +kernel
theorem dX11_hindrance_67 : decode cX11_hindrance 67 = .ok (.if_icmp .ge 5, 3) := by decide +kernel
theorem dX11_hindrance_70 : decode cX11_hindrance 70 = .ok (.iconst 2, 1) := by decide +kernel
theorem dX11_hindrance_71 : decode cX11_hindrance 71 = .ok (.ireturn, 1) := by decide +kernel
theorem dX11_hindrance_72 : decode cX11_hindrance 72 = .ok (.aload_n 0, 1) := by decide +kernel
theorem dX11_hindrance_73 : decode cX11_hindrance 73 = .ok (.getfield 59, 3) := by decide +kernel
theorem dX11_hindrance_76 : decode cX11_hindrance 76 = .ok (.iload_n 2, 1) := by decide +kernel
theorem dX11_hindrance_77 : decode cX11_hindrance 77 = .ok (.iaload, 1) := by decide +kernel
theorem dX11_hindrance_78 : decode cX11_hindrance 78 = .ok (.iconst (-1), 1) := by decide +kernel
theorem dX11_hindrance_79 : decode cX11_hindrance 79 = .ok (.if_icmp .eq 18, 3) := by decide +kernel
theorem dX11_hindrance_82 : decode cX11_hindrance 82 = .ok (.aload_n 0, 1) := by decide +kernel
theorem dX11_hindrance_83 : decode cX11_hindrance 83 = .ok (.aload_n 0, 1) := by decide +kernel
theorem dX11_hindrance_84 : decode cX11_hindrance 84 = .ok (.getfield 59, 3) := by decide +kernel
theorem dX11_hindrance_87 : decode cX11_hindrance 87 = .ok (.iload_n 2, 1) := by decide +kernel
theorem dX11_hindrance_88 : decode cX11_hindrance 88 = .ok (.iaload, 1) := by decide +kernel
theorem dX11_hindrance_89 : decode cX11_hindrance 89 = .ok (.invokevirtual 224, 3) := by decide +kernel
theorem dX11_hindrance_92 : decode cX11_hindrance 92 = .ok (.ifCond .ne 5, 3) := by decide +kernel
theorem dX11_hindrance_95 : decode cX11_hindrance 95 = .ok (.iconst 3, 1) := by decide +kernel
theorem dX11_hindrance_96 : decode cX11_hindrance 96 = .ok (.ireturn, 1) := by decide +kernel
theorem dX11_hindrance_97 : decode cX11_hindrance 97 = .ok (.iload_n 2, 1) := by decide +kernel
theorem dX11_hindrance_98 : decode cX11_hindrance 98 = .ok (.bipush 7, 2) := by decide +kernel
theorem dX11_hindrance_100 : decode cX11_hindrance 100 = .ok (.if_icmp .ne 28, 3) := by decide +kernel
theorem dX11_hindrance_103 : decode cX11_hindrance 103 = .ok (.iload_n 3, 1) := by decide +kernel
theorem dX11_hindrance_104 : decode cX11_hindrance 104 = .ok (.aload_n 0, 1) := by decide +kernel
theorem dX11_hindrance_105 : decode cX11_hindrance 105 = .ok (.iload_n 1, 1) := by decide +kernel
theorem dX11_hindrance_106 : decode cX11_hindrance 106 = .ok (.invokevirtual 192, 3) := by decide +kernel
theorem dX11_hindrance_109 : decode cX11_hindrance 109 = .ok (.if_icmp .le 19, 3) := by decide +kernel
theorem dX11_hindrance_112 : decode cX11_hindrance 112 = .ok (.aload_n 0, 1) := by decide +kernel
theorem dX11_hindrance_113 : decode cX11_hindrance 113 = .ok (.getfield 7, 3) := by decide +kernel
theorem dX11_hindrance_116 : decode cX11_hindrance 116 = .ok (.sipush 483, 3) := by decide +kernel
theorem dX11_hindrance_119 : decode cX11_hindrance 119 = .ok (.iaload, 1) := by decide +kernel
theorem dX11_hindrance_120 : decode cX11_hindrance 120 = .ok (.ifCond .ne 8, 3) := by decide +kernel
theorem dX11_hindrance_123 : decode cX11_hindrance 123 = .ok (.bipush 7, 2) := by decide +kernel
theorem dX11_hindrance_125 : decode cX11_hindrance 125 = .ok (.goto 4, 3) := by decide +kernel
theorem dX11_hindrance_128 : decode cX11_hindrance 128 = .ok (.iconst (-1), 1) := by decide +kernel
theorem dX11_hindrance_129 : decode cX11_hindrance 129 = .ok (.ireturn, 1) := by decide +kernel
theorem dX11_begins_0 : decode cX11_begins 0 = .ok (.aload_n 0, 1) := by decide +kernel
theorem dX11_begins_1 : decode cX11_begins 1 = .ok (.getfield 7, 3) := by decide +kernel
theorem dX11_begins_4 : decode cX11_begins 4 = .ok (.bipush 30, 2) := by decide +kernel
theorem dX11_begins_6 : decode cX11_begins 6 = .ok (.iload_n 1, 1) := by decide +kernel
theorem dX11_begins_7 : decode cX11_begins 7 = .ok (.imul, 1) := by decide +kernel
theorem dX11_begins_8 : decode cX11_begins 8 = .ok (.bipush 11, 2) := by decide +kernel
theorem dX11_begins_10 : decode cX11_begins 10 = .ok (.iadd, 1) := by decide +kernel
theorem dX11_begins_11 : decode cX11_begins 11 = .ok (.iload_n 2, 1) := by decide +kernel
theorem dX11_begins_12 : decode cX11_begins 12 = .ok (.iadd, 1) := by decide +kernel
theorem dX11_begins_13 : decode cX11_begins 13 = .ok (.aload_n 0, 1) := by decide +kernel
theorem dX11_begins_14 : decode cX11_begins 14 = .ok (.iload_n 1, 1) := by decide +kernel
theorem dX11_begins_15 : decode cX11_begins 15 = .ok (.iload_n 2, 1) := by decide +kernel
theorem dX11_begins_16 : decode cX11_begins 16 = .ok (.invokevirtual 221, 3) := by decide +kernel
theorem dX11_begins_19 : decode cX11_begins 19 = .ok (.iastore, 1) := by decide +kernel
theorem dX11_begins_20 : decode cX11_begins 20 = .ok (.aload_n 0, 1) := by decide +kernel
theorem dX11_begins_21 : decode cX11_begins 21 = .ok (.getfield 59, 3) := by decide +kernel
theorem dX11_begins_24 : decode cX11_begins 24 = .ok (.iload_n 2, 1) := by decide +kernel
theorem dX11_begins_25 : decode cX11_begins 25 = .ok (.iaload, 1) := by decide +kernel
theorem dX11_begins_26 : decode cX11_begins 26 = .ok (.iconst (-1), 1) := by decide +kernel
theorem dX11_begins_27 : decode cX11_begins 27 = .ok (.if_icmp .eq 22, 3) := by decide +kernel
theorem dX11_begins_30 : decode cX11_begins 30 = .ok (.aload_n 0, 1) := by decide +kernel
theorem dX11_begins_31 : decode cX11_begins 31 = .ok (.getfield 7, 3) := by decide +kernel
theorem dX11_begins_34 : decode cX11_begins 34 = .ok (.sipush 475, 3) := by decide +kernel
theorem dX11_begins_37 : decode cX11_begins 37 = .ok (.aload_n 0, 1) := by decide +kernel
theorem dX11_begins_38 : decode cX11_begins 38 = .ok (.getfield 59, 3) := by decide +kernel
theorem dX11_begins_41 : decode cX11_begins 41 = .ok (.iload_n 2, 1) := by decide +kernel
theorem dX11_begins_42 : decode cX11_begins 42 = .ok (.iaload, 1) := by decide +kernel
theorem dX11_begins_43 : decode cX11_begins 43 = .ok (.iadd, 1) := by decide +kernel
theorem dX11_begins_44 : decode cX11_begins 44 = .ok (.dup2, 1) := by decide +kernel
theorem dX11_begins_45 : decode cX11_begins 45 = .ok (.iaload, 1) := by decide +kernel
theorem dX11_begins_46 : decode cX11_begins 46 = .ok (.iconst 1, 1) := by decide +kernel
theorem dX11_begins_47 : decode cX11_begins 47 = .ok (.iadd, 1) := by decide +kernel
theorem dX11_begins_48 : decode cX11_begins 48 = .ok (.iastore, 1) := by decide +kernel
theorem dX11_begins_49 : decode cX11_begins 49 = .ok (.iload_n 2, 1) := by decide +kernel
theorem dX11_begins_50 : decode cX11_begins 50 = .ok (.bipush 7, 2) := by decide +kernel
theorem dX11_begins_52 : decode cX11_begins 52 = .ok (.if_icmp .ne 31, 3) := by decide +kernel
theorem dX11_begins_55 : decode cX11_begins 55 = .ok (.aload_n 0, 1) := by decide +kernel
theorem dX11_begins_56 : decode cX11_begins 56 = .ok (.getfield 7, 3) := by decide +kernel
theorem dX11_begins_59 : decode cX11_begins 59 = .ok (.sipush 480, 3) := by decide +kernel
theorem dX11_begins_62 : decode cX11_begins 62 = .ok (.iaload, 1) := by decide +kernel
theorem dX11_begins_63 : decode cX11_begins 63 = .ok (.aload_n 0, 1) := by decide +kernel
theorem dX11_begins_64 : decode cX11_begins 64 = .ok (.iload_n 1, 1) := by decide +kernel
theorem dX11_begins_65 : decode cX11_begins 65 = .ok (.invokevirtual 192, 3) := by decide +kernel
theorem dX11_begins_68 : decode cX11_begins 68 = .ok (.if_icmp .le 15, 3) := by decide +kernel
theorem dX11_begins_71 : decode cX11_begins 71 = .ok (.aload_n 0, 1) := by decide +kernel
theorem dX11_begins_72 : decode cX11_begins 72 = .ok (.getfield 7, 3) := by decide +kernel
theorem dX11_begins_75 : decode cX11_begins 75 = .ok (.sipush 483, 3) := by decide +kernel
theorem dX11_begins_78 : decode cX11_begins 78 = .ok (.dup2, 1) := by decide +kernel
theorem dX11_begins_79 : decode cX11_begins 79 = .ok (.iaload, 1) := by decide +kernel
theorem dX11_begins_80 : decode cX11_begins 80 = .ok (.iconst 1, 1) := by decide +kernel
theorem dX11_begins_81 : decode cX11_begins 81 = .ok (.isub, 1) := by decide +kernel
theorem dX11_begins_82 : decode cX11_begins 82 = .ok (.iastore, 1) := by decide +kernel
theorem dX11_begins_83 : decode cX11_begins 83 = .ok (.return_, 1) := by decide +kernel
theorem dX11_serves_0 : decode cX11_serves 0 = .ok (.aload_n 0, 1) := by decide +kernel
theorem dX11_serves_1 : decode cX11_serves 1 = .ok (.getfield 86, 3) := by decide +kernel
theorem dX11_serves_4 : decode cX11_serves 4 = .ok (.iload_n 1, 1) := by decide +kernel
theorem dX11_serves_5 : decode cX11_serves 5 = .ok (.iconst (-1), 1) := by decide +kernel
theorem dX11_serves_6 : decode cX11_serves 6 = .ok (.iastore, 1) := by decide +kernel
theorem dX11_serves_7 : decode cX11_serves 7 = .ok (.iconst 0, 1) := by decide +kernel
theorem dX11_serves_8 : decode cX11_serves 8 = .ok (.istore_n 2, 1) := by decide +kernel
theorem dX11_serves_9 : decode cX11_serves 9 = .ok (.iload_n 2, 1) := by decide +kernel
theorem dX11_serves_10 : decode cX11_serves 10 = .ok (.bipush 8, 2) := by decide +kernel
theorem dX11_serves_12 : decode cX11_serves 12 = .ok (.if_icmp .ge 196, 3) := by decide +kernel
theorem dX11_serves_15 : decode cX11_serves 15 = .ok (.aload_n 0, 1) := by decide +kernel
theorem dX11_serves_16 : decode cX11_serves 16 = .ok (.iload_n 1, 1) := by decide +kernel
theorem dX11_serves_17 : decode cX11_serves 17 = .ok (.iload_n 2, 1) := by decide +kernel
theorem dX11_serves_18 : decode cX11_serves 18 = .ok (.invokevirtual 214, 3) := by decide +kernel
theorem dX11_serves_21 : decode cX11_serves 21 = .ok (.ifCond .ne 38, 3) := by decide +kernel
theorem dX11_serves_24 : decode cX11_serves 24 = .ok (.aload_n 0, 1) := by decide +kernel
theorem dX11_serves_25 : decode cX11_serves 25 = .ok (.iload_n 1, 1) := by decide +kernel
theorem dX11_serves_26 : decode cX11_serves 26 = .ok (.bipush 11, 2) := by decide +kernel
theorem dX11_serves_28 : decode cX11_serves 28 = .ok (.iload_n 2, 1) := by decide +kernel
theorem dX11_serves_29 : decode cX11_serves 29 = .ok (.iadd, 1) := by decide +kernel
theorem dX11_serves_30 : decode cX11_serves 30 = .ok (.invokevirtual 106, 3) := by decide +kernel
theorem dX11_serves_33 : decode cX11_serves 33 = .ok (.ifCond .ne 26, 3) := by decide +kernel
theorem dX11_serves_36 : decode cX11_serves 36 = .ok (.aload_n 0, 1) := by decide +kernel
theorem dX11_serves_37 : decode cX11_serves 37 = .ok (.getfield 62, 3) := by decide +kernel
theorem dX11_serves_40 : decode cX11_serves 40 = .ok (.iload_n 2, 1) := by decide +kernel
theorem dX11_serves_41 : decode cX11_serves 41 = .ok (.iaload, 1) := by decide +kernel
theorem dX11_serves_42 : decode cX11_serves 42 = .ok (.aload_n 0, 1) := by decide +kernel
theorem dX11_serves_43 : decode cX11_serves 43 = .ok (.iload_n 1, 1) := by decide +kernel
theorem dX11_serves_44 : decode cX11_serves 44 = .ok (.bipush 9, 2) := by decide +kernel
theorem dX11_serves_46 : decode cX11_serves 46 = .ok (.invokevirtual 106, 3) := by decide +kernel
theorem dX11_serves_49 : decode cX11_serves 49 = .ok (.iconst (-1), 1) := by decide +kernel
theorem dX11_serves_50 : decode cX11_serves 50 = .ok (.ixor, 1) := by decide +kernel
theorem dX11_serves_51 : decode cX11_serves 51 = .ok (.iand, 1) := by decide +kernel
theorem dX11_serves_52 : decode cX11_serves 52 = .ok (.ifCond .ne 7, 3) := by decide +kernel
theorem dX11_serves_55 : decode cX11_serves 55 = .ok (.iconst 1, 1) := by decide +kernel
theorem dX11_serves_56 : decode cX11_serves 56 = .ok (.goto 4, 3) := by decide +kernel
theorem dX11_serves_59 : decode cX11_serves 59 = .ok (.iconst 0, 1) := by decide +kernel
theorem dX11_serves_60 : decode cX11_serves 60 = .ok (.istore_n 3, 1) := by decide +kernel
theorem dX11_serves_61 : decode cX11_serves 61 = .ok (.iload_n 3, 1) := by decide +kernel
theorem dX11_serves_62 : decode cX11_serves 62 = .ok (.ifCond .eq 50, 3) := by decide +kernel
theorem dX11_serves_65 : decode cX11_serves 65 = .ok (.aload_n 0, 1) := by decide +kernel
theorem dX11_serves_66 : decode cX11_serves 66 = .ok (.iload_n 1, 1) := by decide +kernel
theorem dX11_serves_67 : decode cX11_serves 67 = .ok (.iload_n 2, 1) := by decide +kernel
theorem dX11_serves_68 : decode cX11_serves 68 = .ok (.invokevirtual 221, 3) := by decide +kernel
theorem dX11_serves_71 : decode cX11_serves 71 = .ok (.ifCond .eq 20, 3) := by decide +kernel
theorem dX11_serves_74 : decode cX11_serves 74 = .ok (.iload_n 2, 1) := by decide +kernel
theorem dX11_serves_75 : decode cX11_serves 75 = .ok (.bipush 6, 2) := by decide +kernel
theorem dX11_serves_77 : decode cX11_serves 77 = .ok (.if_icmp .ne 35, 3) := by decide +kernel
theorem dX11_serves_80 : decode cX11_serves 80 = .ok (.aload_n 0, 1) := by decide +kernel
theorem dX11_serves_81 : decode cX11_serves 81 = .ok (.getfield 7, 3) := by decide +kernel
theorem dX11_serves_84 : decode cX11_serves 84 = .ok (.sipush 482, 3) := by decide +kernel
theorem dX11_serves_87 : decode cX11_serves 87 = .ok (.iaload, 1) := by decide +kernel
theorem dX11_serves_88 : decode cX11_serves 88 = .ok (.ifCond .ne 24, 3) := by decide +kernel
theorem dX11_serves_91 : decode cX11_serves 91 = .ok (.aload_n 0, 1) := by decide +kernel
theorem dX11_serves_92 : decode cX11_serves 92 = .ok (.getfield 7, 3) := by decide +kernel
theorem dX11_serves_95 : decode cX11_serves 95 = .ok (.bipush 30, 2) := by decide +kernel
theorem dX11_serves_97 : decode cX11_serves 97 = .ok (.iload_n 1, 1) := by decide +kernel
theorem dX11_serves_98 : decode cX11_serves 98 = .ok (.imul, 1) := by decide +kernel
theorem dX11_serves_99 : decode cX11_serves 99 = .ok (.bipush 9, 2) := by decide +kernel
theorem dX11_serves_101 : decode cX11_serves 101 = .ok (.iadd, 1) := by decide +kernel
theorem dX11_serves_102 : decode cX11_serves 102 = .ok (.dup2, 1) := by decide +kernel
theorem dX11_serves_103 : decode cX11_serves 103 = .ok (.iaload, 1) := by decide +kernel
theorem dX11_serves_104 : decode cX11_serves 104 = .ok (.iconst 1, 1) := by decide +kernel
theorem dX11_serves_105 : decode cX11_serves 105 = .ok (.iload_n 2, 1) := by decide +kernel
theorem dX11_serves_106 : decode cX11_serves 106 = .ok (.ishl, 1) := by decide +kernel
theorem dX11_serves_107 : decode cX11_serves 107 = .ok (.ior, 1) := by decide +kernel
theorem dX11_serves_108 : decode cX11_serves 108 = .ok (.iastore, 1) := by decide +kernel
theorem dX11_serves_109 : decode cX11_serves 109 = .ok (.goto 93, 3) := by decide +kernel
theorem dX11_serves_112 : decode cX11_serves 112 = .ok (.iload_n 3, 1) := by decide +kernel
theorem dX11_serves_113 : decode cX11_serves 113 = .ok (.ifCond .eq 63, 3) := by decide +kernel
theorem dX11_serves_116 : decode cX11_serves 116 = .ok (.aload_n 0, 1) := by decide +kernel
theorem dX11_serves_117 : decode cX11_serves 117 = .ok (.iload_n 1, 1) := by decide +kernel
theorem dX11_serves_118 : decode cX11_serves 118 = .ok (.iload_n 2, 1) := by decide +kernel
theorem dX11_serves_119 : decode cX11_serves 119 = .ok (.invokevirtual 227, 3) := by decide +kernel
theorem dX11_serves_122 : decode cX11_serves 122 = .ok (.istore 4, 2) := by decide +kernel
theorem dX11_serves_124 : decode cX11_serves 124 = .ok (.iload 4, 2) := by decide +kernel
theorem dX11_serves_126 : decode cX11_serves 126 = .ok (.iconst (-1), 1) := by decide +kernel
theorem dX11_serves_127 : decode cX11_serves 127 = .ok (.if_icmp .ne 9, 3) := by decide +kernel
theorem dX11_serves_130 : decode cX11_serves 130 = .ok (.aload_n 0, 1) := by decide +kernel
theorem dX11_serves_131 : decode cX11_serves 131 = .ok (.iload_n 1, 1) := by decide +kernel
theorem dX11_serves_132 : decode cX11_serves 132 = .ok (.iload_n 2, 1) := by decide +kernel
theorem dX11_serves_133 : decode cX11_serves 133 = .ok (.invokevirtual 230, 3) := by decide +kernel
theorem dX11_serves_136 : decode cX11_serves 136 = .ok (.aload_n 0, 1) := by decide +kernel
theorem dX11_serves_137 : decode cX11_serves 137 = .ok (.getfield 86, 3) := by decide +kernel
theorem dX11_serves_140 : decode cX11_serves 140 = .ok (.iload_n 1, 1) := by decide +kernel
theorem dX11_serves_141 : decode cX11_serves 141 = .ok (.aload_n 0, 1) := by decide +kernel
theorem dX11_serves_142 : decode cX11_serves 142 = .ok (.getfield 86, 3) := by decide +kernel
theorem dX11_serves_145 : decode cX11_serves 145 = .ok (.iload_n 1, 1) := by decide +kernel
theorem dX11_serves_146 : decode cX11_serves 146 = .ok (.iaload, 1) := by decide +kernel
theorem dX11_serves_147 : decode cX11_serves 147 = .ok (.iconst (-1), 1) := by decide +kernel
theorem dX11_serves_148 : decode cX11_serves 148 = .ok (.if_icmp .ne 18, 3) := by decide +kernel
theorem dX11_serves_151 : decode cX11_serves 151 = .ok (.iload 4, 2) := by decide +kernel
theorem dX11_serves_153 : decode cX11_serves 153 = .ok (.iconst (-1), 1) := by decide +kernel
theorem dX11_serves_154 : decode cX11_serves 154 = .ok (.if_icmp .ne 7, 3) := by decide +kernel
theorem dX11_serves_157 : decode cX11_serves 157 = .ok (.iconst 2, 1) := by decide +kernel
theorem dX11_serves_158 : decode cX11_serves 158 = .ok (.goto 14, 3) := by decide +kernel
theorem dX11_serves_161 : decode cX11_serves 161 = .ok (.iload 4, 2) := by decide +kernel
theorem dX11_serves_163 : decode cX11_serves 163 = .ok (.goto 9, 3) := by decide +kernel
theorem dX11_serves_166 : decode cX11_serves 166 = .ok (.aload_n 0, 1) := by decide +kernel
theorem dX11_serves_167 : decode cX11_serves 167 = .ok (.getfield 86, 3) := by decide +kernel
theorem dX11_serves_170 : decode cX11_serves 170 = .ok (.iload_n 1, 1) := by decide +kernel
theorem dX11_serves_171 : decode cX11_serves 171 = .ok (.iaload, 1) := by decide +kernel
theorem dX11_serves_172 : decode cX11_serves 172 = .ok (.iastore, 1) := by decide +kernel
theorem dX11_serves_173 : decode cX11_serves 173 = .ok (.goto 29, 3) := by decide +kernel
theorem dX11_serves_176 : decode cX11_serves 176 = .ok (.aload_n 0, 1) := by decide +kernel
theorem dX11_serves_177 : decode cX11_serves 177 = .ok (.iload_n 1, 1) := by decide +kernel
theorem dX11_serves_178 : decode cX11_serves 178 = .ok (.iload_n 2, 1) := by decide +kernel
theorem dX11_serves_179 : decode cX11_serves 179 = .ok (.invokevirtual 214, 3) := by decide +kernel
theorem dX11_serves_182 : decode cX11_serves 182 = .ok (.ifCond .ne 20, 3) := by decide +kernel
theorem dX11_serves_185 : decode cX11_serves 185 = .ok (.aload_n 0, 1) := by decide +kernel
theorem dX11_serves_186 : decode cX11_serves 186 = .ok (.getfield 86, 3) := by decide +kernel
theorem dX11_serves_189 : decode cX11_serves 189 = .ok (.iload_n 1, 1) := by decide +kernel
theorem dX11_serves_190 : decode cX11_serves 190 = .ok (.iaload, 1) := by decide +kernel
theorem dX11_serves_191 : decode cX11_serves 191 = .ok (.iconst (-1), 1) := by decide +kernel
theorem dX11_serves_192 : decode cX11_serves 192 = .ok (.if_icmp .ne 10, 3) := by decide +kernel
theorem dX11_serves_195 : decode cX11_serves 195 = .ok (.aload_n 0, 1) := by decide +kernel
theorem dX11_serves_196 : decode cX11_serves 196 = .ok (.getfield 86, 3) := by decide +kernel
theorem dX11_serves_199 : decode cX11_serves 199 = .ok (.iload_n 1, 1) := by decide +kernel
theorem dX11_serves_200 : decode cX11_serves 200 = .ok (.iconst 2, 1) := by decide +kernel
theorem dX11_serves_201 : decode cX11_serves 201 = .ok (.iastore, 1) := by decide +kernel
theorem dX11_serves_202 : decode cX11_serves 202 = .ok (.iinc 2 1, 3) := by decide +kernel
theorem dX11_serves_205 : decode cX11_serves 205 = .ok (.goto (-196), 3) := by decide +kernel
theorem dX11_serves_208 : decode cX11_serves 208 = .ok (.return_, 1) := by decide +kernel
theorem dX11_needsIce_0 : decode cX11_needsIce 0 = .ok (.aload_n 0, 1) := by decide +kernel
theorem dX11_needsIce_1 : decode cX11_needsIce 1 = .ok (.getfield 7, 3) := by decide +kernel
theorem dX11_needsIce_4 : decode cX11_needsIce 4 = .ok (.sipush 482, 3) := by decide +kernel
theorem dX11_needsIce_7 : decode cX11_needsIce 7 = .ok (.iaload, 1) := by decide +kernel
theorem dX11_needsIce_8 : decode cX11_needsIce 8 = .ok (.iconst 1, 1) := by decide +kernel
theorem dX11_needsIce_9 : decode cX11_needsIce 9 = .ok (.if_icmp .ne 28, 3) := by decide +kernel
theorem dX11_needsIce_12 : decode cX11_needsIce 12 = .ok (.aload_n 0, 1) := by decide +kernel
theorem dX11_needsIce_13 : decode cX11_needsIce 13 = .ok (.getfield 7, 3) := by decide +kernel
theorem dX11_needsIce_16 : decode cX11_needsIce 16 = .ok (.sipush 480, 3) := by decide +kernel
theorem dX11_needsIce_19 : decode cX11_needsIce 19 = .ok (.iaload, 1) := by decide +kernel
theorem dX11_needsIce_20 : decode cX11_needsIce 20 = .ok (.aload_n 0, 1) := by decide +kernel
theorem dX11_needsIce_21 : decode cX11_needsIce 21 = .ok (.iload_n 1, 1) := by decide +kernel
theorem dX11_needsIce_22 : decode cX11_needsIce 22 = .ok (.bipush 10, 2) := by decide +kernel
theorem dX11_needsIce_24 : decode cX11_needsIce 24 = .ok (.invokevirtual 106, 3) := by decide +kernel
theorem dX11_needsIce_27 : decode cX11_needsIce 27 = .ok (.isub, 1) := by decide +kernel
theorem dX11_needsIce_28 : decode cX11_needsIce 28 = .ok (.bipush 40, 2) := by decide +kernel
theorem dX11_needsIce_30 : decode cX11_needsIce 30 = .ok (.if_icmp .le 7, 3) := by decide +kernel
theorem dX11_needsIce_33 : decode cX11_needsIce 33 = .ok (.iconst 1, 1) := by decide +kernel
theorem dX11_needsIce_34 : decode cX11_needsIce 34 = .ok (.goto 4, 3) := by decide +kernel
theorem dX11_needsIce_37 : decode cX11_needsIce 37 = .ok (.iconst 0, 1) := by decide +kernel
theorem dX11_needsIce_38 : decode cX11_needsIce 38 = .ok (.ireturn, 1) := by decide +kernel
theorem dX11_standFor_0 : decode cX11_standFor 0 = .ok (.aload_n 0, 1) := by decide +kernel
theorem dX11_standFor_1 : decode cX11_standFor 1 = .ok (.iload_n 1, 1) := by decide +kernel
theorem dX11_standFor_2 : decode cX11_standFor 2 = .ok (.iconst 4, 1) := by decide +kernel
theorem dX11_standFor_3 : decode cX11_standFor 3 = .ok (.invokevirtual 106, 3) := by decide +kernel
theorem dX11_standFor_6 : decode cX11_standFor 6 = .ok (.istore_n 2, 1) := by decide +kernel
theorem dX11_standFor_7 : decode cX11_standFor 7 = .ok (.iload_n 2, 1) := by decide +kernel
theorem dX11_standFor_8 : decode cX11_standFor 8 = .ok (.iconst (-1), 1) := by decide +kernel
theorem dX11_standFor_9 : decode cX11_standFor 9 = .ok (.if_icmp .eq 19, 3) := by decide +kernel
theorem dX11_standFor_12 : decode cX11_standFor 12 = .ok (.aload_n 0, 1) := by decide +kernel
theorem dX11_standFor_13 : decode cX11_standFor 13 = .ok (.getfield 7, 3) := by decide +kernel
theorem dX11_standFor_16 : decode cX11_standFor 16 = .ok (.sipush 496, 3) := by decide +kernel
theorem dX11_standFor_19 : decode cX11_standFor 19 = .ok (.iload_n 2, 1) := by decide +kernel
theorem dX11_standFor_20 : decode cX11_standFor 20 = .ok (.iadd, 1) := by decide +kernel
theorem dX11_standFor_21 : decode cX11_standFor 21 = .ok (.iaload, 1) := by decide +kernel
theorem dX11_standFor_22 : decode cX11_standFor 22 = .ok (.iconst (-1), 1) := by decide +kernel
theorem dX11_standFor_23 : decode cX11_standFor 23 = .ok (.if_icmp .ne 5, 3) := by decide +kernel
theorem dX11_standFor_26 : decode cX11_standFor 26 = .ok (.iload_n 2, 1) := by decide +kernel
theorem dX11_standFor_27 : decode cX11_standFor 27 = .ok (.ireturn, 1) := by decide +kernel
theorem dX11_standFor_28 : decode cX11_standFor 28 = .ok (.iconst (-1), 1) := by decide +kernel
theorem dX11_standFor_29 : decode cX11_standFor 29 = .ok (.istore_n 3, 1) := by decide +kernel
theorem dX11_standFor_30 : decode cX11_standFor 30 = .ok (.iconst 0, 1) := by decide +kernel
theorem dX11_standFor_31 : decode cX11_standFor 31 = .ok (.istore 4, 2) := by decide +kernel
theorem dX11_standFor_33 : decode cX11_standFor 33 = .ok (.iload 4, 2) := by decide +kernel
theorem dX11_standFor_35 : decode cX11_standFor 35 = .ok (.aload_n 0, 1) := by decide +kernel
theorem dX11_standFor_36 : decode cX11_standFor 36 = .ok (.getfield 103, 3) := by decide +kernel
theorem dX11_standFor_39 : decode cX11_standFor 39 = .ok (.if_icmp .ge 97, 3) := by decide +kernel
theorem dX11_standFor_42 : decode cX11_standFor 42 = .ok (.aload_n 0, 1) := by decide +kernel
theorem dX11_standFor_43 : decode cX11_standFor 43 = .ok (.getfield 7, 3) := by decide +kernel
theorem dX11_standFor_46 : decode cX11_standFor 46 = .ok (.sipush 496, 3) := by decide +kernel
theorem dX11_standFor_49 : decode cX11_standFor 49 = .ok (.iload 4, 2) := by decide +kernel
theorem dX11_standFor_51 : decode cX11_standFor 51 = .ok (.iadd, 1) := by decide +kernel
theorem dX11_standFor_52 : decode cX11_standFor 52 = .ok (.iaload, 1) := by decide +kernel
theorem dX11_standFor_53 : decode cX11_standFor 53 = .ok (.iconst (-1), 1) := by decide +kernel
theorem dX11_standFor_54 : decode cX11_standFor 54 = .ok (.if_icmp .ne 32, 3) := by decide +kernel
theorem dX11_standFor_57 : decode cX11_standFor 57 = .ok (.aload_n 0, 1) := by decide +kernel
theorem dX11_standFor_58 : decode cX11_standFor 58 = .ok (.getfield 7, 3) := by decide +kernel
theorem dX11_standFor_61 : decode cX11_standFor 61 = .ok (.sipush 490, 3) := by decide +kernel
theorem dX11_standFor_64 : decode cX11_standFor 64 = .ok (.iload 4, 2) := by decide +kernel
theorem dX11_standFor_66 : decode cX11_standFor 66 = .ok (.iadd, 1) := by decide +kernel
theorem dX11_standFor_67 : decode cX11_standFor 67 = .ok (.iaload, 1) := by decide +kernel
theorem dX11_standFor_68 : decode cX11_standFor 68 = .ok (.aload_n 0, 1) := by decide +kernel
theorem dX11_standFor_69 : decode cX11_standFor 69 = .ok (.getfield 53, 3) := by decide +kernel
theorem dX11_standFor_72 : decode cX11_standFor 72 = .ok (.aload_n 0, 1) := by decide +kernel
theorem dX11_standFor_73 : decode cX11_standFor 73 = .ok (.iload_n 1, 1) := by decide +kernel
theorem dX11_standFor_74 : decode cX11_standFor 74 = .ok (.iconst 0, 1) := by decide +kernel
theorem dX11_standFor_75 : decode cX11_standFor 75 = .ok (.invokevirtual 106, 3) := by decide +kernel
theorem dX11_standFor_78 : decode cX11_standFor 78 = .ok (.iaload, 1) := by decide +kernel
theorem dX11_standFor_79 : decode cX11_standFor 79 = .ok (.if_icmp .lt 7, 3) := by decide +kernel
theorem dX11_standFor_82 : decode cX11_standFor 82 = .ok (.iconst 1, 1) := by decide +kernel
theorem dX11_standFor_83 : decode cX11_standFor 83 = .ok (.goto 4, 3) := by decide +kernel
theorem dX11_standFor_86 : decode cX11_standFor 86 = .ok (.iconst 0, 1) := by decide +kernel
theorem dX11_standFor_87 : decode cX11_standFor 87 = .ok (.istore 5, 2) := by decide +kernel
theorem dX11_standFor_89 : decode cX11_standFor 89 = .ok (.iload 5, 2) := by decide +kernel
theorem dX11_standFor_91 : decode cX11_standFor 91 = .ok (.ifCond .eq 37, 3) := by decide +kernel
theorem dX11_standFor_94 : decode cX11_standFor 94 = .ok (.iload_n 3, 1) := by decide +kernel
theorem dX11_standFor_95 : decode cX11_standFor 95 = .ok (.iconst (-1), 1) := by decide +kernel
theorem dX11_standFor_96 : decode cX11_standFor 96 = .ok (.if_icmp .eq 27, 3) := by decide +kernel
theorem dX11_standFor_99 : decode cX11_standFor 99 = .ok (.aload_n 0, 1) := by decide +kernel
theorem dX11_standFor_100 : decode cX11_standFor 100 = .ok (.getfield 7, 3) := by decide +kernel
theorem dX11_standFor_103 : decode cX11_standFor 103 = .ok (.sipush 490, 3) := by decide +kernel
theorem dX11_standFor_106 : decode cX11_standFor 106 = .ok (.iload 4, 2) := by decide +kernel
theorem dX11_standFor_108 : decode cX11_standFor 108 = .ok (.iadd, 1) := by decide +kernel
theorem dX11_standFor_109 : decode cX11_standFor 109 = .ok (.iaload, 1) := by decide +kernel
theorem dX11_standFor_110 : decode cX11_standFor 110 = .ok (.aload_n 0, 1) := by decide +kernel
theorem dX11_standFor_111 : decode cX11_standFor 111 = .ok (.getfield 7, 3) := by decide +kernel
theorem dX11_standFor_114 : decode cX11_standFor 114 = .ok (.sipush 490, 3) := by decide +kernel
theorem dX11_standFor_117 : decode cX11_standFor 117 = .ok (.iload_n 3, 1) := by decide +kernel
theorem dX11_standFor_118 : decode cX11_standFor 118 = .ok (.iadd, 1) := by decide +kernel
theorem dX11_standFor_119 : decode cX11_standFor 119 = .ok (.iaload, 1) := by decide +kernel
theorem dX11_standFor_120 : decode cX11_standFor 120 = .ok (.if_icmp .ge 8, 3) := by decide +kernel
theorem dX11_standFor_123 : decode cX11_standFor 123 = .ok (.iload 4, 2) := by decide +kernel
theorem dX11_standFor_125 : decode cX11_standFor 125 = .ok (.goto 4, 3) := by decide +kernel
theorem dX11_standFor_128 : decode cX11_standFor 128 = .ok (.iload_n 3, 1) := by decide +kernel
theorem dX11_standFor_129 : decode cX11_standFor 129 = .ok (.istore_n 3, 1) := by decide +kernel
theorem dX11_standFor_130 : decode cX11_standFor 130 = .ok (.iinc 4 1, 3) := by decide +kernel
theorem dX11_standFor_133 : decode cX11_standFor 133 = .ok (.goto (-100), 3) := by decide +kernel
theorem dX11_standFor_136 : decode cX11_standFor 136 = .ok (.iload_n 3, 1) := by decide +kernel
theorem dX11_standFor_137 : decode cX11_standFor 137 = .ok (.ireturn, 1) := by decide +kernel
theorem dX11_isReady_0 : decode cX11_isReady 0 = .ok (.aload_n 0, 1) := by decide +kernel
theorem dX11_isReady_1 : decode cX11_isReady 1 = .ok (.iload_n 1, 1) := by decide +kernel
theorem dX11_isReady_2 : decode cX11_isReady 2 = .ok (.bipush 6, 2) := by decide +kernel
theorem dX11_isReady_4 : decode cX11_isReady 4 = .ok (.invokevirtual 106, 3) := by decide +kernel
theorem dX11_isReady_7 : decode cX11_isReady 7 = .ok (.iconst 1, 1) := by decide +kernel
theorem dX11_isReady_8 : decode cX11_isReady 8 = .ok (.if_icmp .ne 16, 3) := by decide +kernel
theorem dX11_isReady_11 : decode cX11_isReady 11 = .ok (.aload_n 0, 1) := by decide +kernel
theorem dX11_isReady_12 : decode cX11_isReady 12 = .ok (.iload_n 1, 1) := by decide +kernel
theorem dX11_isReady_13 : decode cX11_isReady 13 = .ok (.invokevirtual 233, 3) := by decide +kernel
theorem dX11_isReady_16 : decode cX11_isReady 16 = .ok (.iconst (-1), 1) := by decide +kernel
theorem dX11_isReady_17 : decode cX11_isReady 17 = .ok (.if_icmp .eq 7, 3) := by decide +kernel
theorem dX11_isReady_20 : decode cX11_isReady 20 = .ok (.iconst 1, 1) := by decide +kernel
theorem dX11_isReady_21 : decode cX11_isReady 21 = .ok (.goto 4, 3) := by decide +kernel
theorem dX11_isReady_24 : decode cX11_isReady 24 = .ok (.iconst 0, 1) := by decide +kernel
theorem dX11_isReady_25 : decode cX11_isReady 25 = .ok (.istore_n 3, 1) := by decide +kernel
theorem dX11_isReady_26 : decode cX11_isReady 26 = .ok (.aload_n 0, 1) := by decide +kernel
theorem dX11_isReady_27 : decode cX11_isReady 27 = .ok (.iload_n 1, 1) := by decide +kernel
theorem dX11_isReady_28 : decode cX11_isReady 28 = .ok (.bipush 6, 2) := by decide +kernel
theorem dX11_isReady_30 : decode cX11_isReady 30 = .ok (.invokevirtual 106, 3) := by decide +kernel
theorem dX11_isReady_33 : decode cX11_isReady 33 = .ok (.iconst 5, 1) := by decide +kernel
theorem dX11_isReady_34 : decode cX11_isReady 34 = .ok (.if_icmp .ne 45, 3) := by decide +kernel
theorem dX11_isReady_37 : decode cX11_isReady 37 = .ok (.aload_n 0, 1) := by decide +kernel
theorem dX11_isReady_38 : decode cX11_isReady 38 = .ok (.getfield 7, 3) := by decide +kernel
theorem dX11_isReady_41 : decode cX11_isReady 41 = .ok (.sipush 480, 3) := by decide +kernel
theorem dX11_isReady_44 : decode cX11_isReady 44 = .ok (.iaload, 1) := by decide +kernel
theorem dX11_isReady_45 : decode cX11_isReady 45 = .ok (.aload_n 0, 1) := by decide +kernel
theorem dX11_isReady_46 : decode cX11_isReady 46 = .ok (.iload_n 1, 1) := by decide +kernel
theorem dX11_isReady_47 : decode cX11_isReady 47 = .ok (.bipush 7, 2) := by decide +kernel
theorem dX11_isReady_49 : decode cX11_isReady 49 = .ok (.invokevirtual 106, 3) := by decide +kernel
theorem dX11_isReady_52 : decode cX11_isReady 52 = .ok (.isub, 1) := by decide +kernel
theorem dX11_isReady_53 : decode cX11_isReady 53 = .ok (.iconst 4, 1) := by decide +kernel
theorem dX11_isReady_54 : decode cX11_isReady 54 = .ok (.if_icmp .lt 25, 3) := by decide +kernel
theorem dX11_isReady_57 : decode cX11_isReady 57 = .ok (.aload_n 0, 1) := by decide +kernel
theorem dX11_isReady_58 : decode cX11_isReady 58 = .ok (.iload_n 1, 1) := by decide +kernel
theorem dX11_isReady_59 : decode cX11_isReady 59 = .ok (.bipush 17, 2) := by decide +kernel
theorem dX11_isReady_61 : decode cX11_isReady 61 = .ok (.invokevirtual 106, 3) := by decide +kernel
theorem dX11_isReady_64 : decode cX11_isReady 64 = .ok (.ifCond .ne 15, 3) := by decide +kernel
theorem dX11_isReady_67 : decode cX11_isReady 67 = .ok (.aload_n 0, 1) := by decide +kernel
theorem dX11_isReady_68 : decode cX11_isReady 68 = .ok (.iload_n 1, 1) := by decide +kernel
theorem dX11_isReady_69 : decode cX11_isReady 69 = .ok (.invokevirtual 236, 3) := by decide +kernel
theorem dX11_isReady_72 : decode cX11_isReady 72 = .ok (.ifCond .ne 7, 3) := by decide +kernel
theorem dX11_isReady_75 : decode cX11_isReady 75 = .ok (.iconst 1, 1) := by decide +kernel
theorem dX11_isReady_76 : decode cX11_isReady 76 = .ok (.goto 4, 3) := by decide +kernel
theorem dX11_isReady_79 : decode cX11_isReady 79 = .ok (.iconst 0, 1) := by decide +kernel
theorem dX11_isReady_80 : decode cX11_isReady 80 = .ok (.istore 4, 2) := by decide +kernel
theorem dX11_isReady_82 : decode cX11_isReady 82 = .ok (.iload_n 3, 1) := by decide +kernel
theorem dX11_isReady_83 : decode cX11_isReady 83 = .ok (.ifCond .ne 10, 3) := by decide +kernel
theorem dX11_isReady_86 : decode cX11_isReady 86 = .ok (.iload 4, 2) := by decide +kernel
theorem dX11_isReady_88 : decode cX11_isReady 88 = .ok (.ifCond .ne 5, 3) := by decide +kernel
theorem dX11_isReady_91 : decode cX11_isReady 91 = .ok (.iconst 0, 1) := by decide +kernel
theorem dX11_isReady_92 : decode cX11_isReady 92 = .ok (.ireturn, 1) := by decide +kernel
theorem dX11_isReady_93 : decode cX11_isReady 93 = .ok (.aload_n 0, 1) := by decide +kernel
theorem dX11_isReady_94 : decode cX11_isReady 94 = .ok (.getfield 7, 3) := by decide +kernel
theorem dX11_isReady_97 : decode cX11_isReady 97 = .ok (.sipush 460, 3) := by decide +kernel
theorem dX11_isReady_100 : decode cX11_isReady 100 = .ok (.iload_n 2, 1) := by decide +kernel
theorem dX11_isReady_101 : decode cX11_isReady 101 = .ok (.iadd, 1) := by decide +kernel
theorem dX11_isReady_102 : decode cX11_isReady 102 = .ok (.iaload, 1) := by decide +kernel
theorem dX11_isReady_103 : decode cX11_isReady 103 = .ok (.i2l, 1) := by decide +kernel
theorem dX11_isReady_104 : decode cX11_isReady 104 = .ok (.lstore 5, 2) := by decide +kernel
theorem dX11_isReady_106 : decode cX11_isReady 106 = .ok (.lload 5, 2) := by decide +kernel
theorem dX11_isReady_108 : decode cX11_isReady 108 = .ok (.aload_n 0, 1) := by decide +kernel
theorem dX11_isReady_109 : decode cX11_isReady 109 = .ok (.getfield 7, 3) := by decide +kernel
theorem dX11_isReady_112 : decode cX11_isReady 112 = .ok (.sipush 462, 3) := by decide +kernel
theorem dX11_isReady_115 : decode cX11_isReady 115 = .ok (.iload_n 2, 1) := by decide +kernel
theorem dX11_isReady_116 : decode cX11_isReady 116 = .ok (.iadd, 1) := by decide +kernel
theorem dX11_isReady_117 : decode cX11_isReady 117 = .ok (.iaload, 1) := by decide +kernel
theorem dX11_isReady_118 : decode cX11_isReady 118 = .ok (.iconst (-1), 1) := by decide +kernel
theorem dX11_isReady_119 : decode cX11_isReady 119 = .ok (.if_icmp .ne 7, 3) := by decide +kernel
theorem dX11_isReady_122 : decode cX11_isReady 122 = .ok (.lconst 0, 1) := by decide +kernel
theorem dX11_isReady_123 : decode cX11_isReady 123 = .ok (.goto 20, 3) := by decide +kernel
theorem dX11_isReady_126 : decode cX11_isReady 126 = .ok (.aload_n 0, 1) := by decide +kernel
theorem dX11_isReady_127 : decode cX11_isReady 127 = .ok (.iconst 1, 1) := by decide +kernel
theorem dX11_isReady_128 : decode cX11_isReady 128 = .ok (.iload_n 1, 1) := by decide +kernel
theorem dX11_isReady_129 : decode cX11_isReady 129 = .ok (.aload_n 0, 1) := by decide +kernel
theorem dX11_isReady_130 : decode cX11_isReady 130 = .ok (.getfield 7, 3) := by decide +kernel
theorem dX11_isReady_133 : decode cX11_isReady 133 = .ok (.sipush 462, 3) := by decide +kernel
theorem dX11_isReady_136 : decode cX11_isReady 136 = .ok (.iload_n 2, 1) := by decide +kernel
theorem dX11_isReady_137 : decode cX11_isReady 137 = .ok (.iadd, 1) := by decide +kernel
theorem dX11_isReady_138 : decode cX11_isReady 138 = .ok (.iaload, 1) := by decide +kernel
theorem dX11_isReady_139 : decode cX11_isReady 139 = .ok (.invokevirtual 218, 3) := by decide +kernel
theorem dX11_isReady_142 : decode cX11_isReady 142 = .ok (.i2l, 1) := by decide +kernel
theorem dX11_isReady_143 : decode cX11_isReady 143 = .ok (.ladd, 1) := by decide +kernel
theorem dX11_isReady_144 : decode cX11_isReady 144 = .ok (.lstore 5, 2) := by decide +kernel
theorem dX11_isReady_146 : decode cX11_isReady 146 = .ok (.aload_n 0, 1) := by decide +kernel
theorem dX11_isReady_147 : decode cX11_isReady 147 = .ok (.getfield 7, 3) := by decide +kernel
theorem dX11_isReady_150 : decode cX11_isReady 150 = .ok (.sipush 480, 3) := by decide +kernel
theorem dX11_isReady_153 : decode cX11_isReady 153 = .ok (.iaload, 1) := by decide +kernel
theorem dX11_isReady_154 : decode cX11_isReady 154 = .ok (.i2l, 1) := by decide +kernel
theorem dX11_isReady_155 : decode cX11_isReady 155 = .ok (.lload 5, 2) := by decide +kernel
theorem dX11_isReady_157 : decode cX11_isReady 157 = .ok (.lcmp, 1) := by decide +kernel
theorem dX11_isReady_158 : decode cX11_isReady 158 = .ok (.ifCond .lt 7, 3) := by decide +kernel
theorem dX11_isReady_161 : decode cX11_isReady 161 = .ok (.iconst 1, 1) := by decide +kernel
theorem dX11_isReady_162 : decode cX11_isReady 162 = .ok (.goto 4, 3) := by decide +kernel
theorem dX11_isReady_165 : decode cX11_isReady 165 = .ok (.iconst 0, 1) := by decide +kernel
theorem dX11_isReady_166 : decode cX11_isReady 166 = .ok (.ireturn, 1) := by decide +kernel
theorem dX11_uses_0 : decode cX11_uses 0 = .ok (.iconst (-1), 1) := by decide +kernel
theorem dX11_uses_1 : decode cX11_uses 1 = .ok (.istore_n 2, 1) := by decide +kernel
theorem dX11_uses_2 : decode cX11_uses 2 = .ok (.iconst 0, 1) := by decide +kernel
theorem dX11_uses_3 : decode cX11_uses 3 = .ok (.istore_n 3, 1) := by decide +kernel
theorem dX11_uses_4 : decode cX11_uses 4 = .ok (.iconst 0, 1) := by decide +kernel
theorem dX11_uses_5 : decode cX11_uses 5 = .ok (.istore 4, 2) := by decide +kernel
theorem dX11_uses_7 : decode cX11_uses 7 = .ok (.iload 4, 2) := by decide +kernel
theorem dX11_uses_9 : decode cX11_uses 9 = .ok (.aload_n 0, 1) := by decide +kernel
theorem dX11_uses_10 : decode cX11_uses 10 = .ok (.getfield 96, 3) := by decide +kernel
theorem dX11_uses_13 : decode cX11_uses 13 = .ok (.if_icmp .ge 55, 3) := by decide +kernel
theorem dX11_uses_16 : decode cX11_uses 16 = .ok (.aload_n 0, 1) := by decide +kernel
theorem dX11_uses_17 : decode cX11_uses 17 = .ok (.iload 4, 2) := by decide +kernel
theorem dX11_uses_19 : decode cX11_uses 19 = .ok (.iload_n 1, 1) := by decide +kernel
theorem dX11_uses_20 : decode cX11_uses 20 = .ok (.invokevirtual 239, 3) := by decide +kernel
theorem dX11_uses_23 : decode cX11_uses 23 = .ok (.ifCond .eq 39, 3) := by decide +kernel
theorem dX11_uses_26 : decode cX11_uses 26 = .ok (.aload_n 0, 1) := by decide +kernel
theorem dX11_uses_27 : decode cX11_uses 27 = .ok (.iconst 0, 1) := by decide +kernel
theorem dX11_uses_28 : decode cX11_uses 28 = .ok (.iload 4, 2) := by decide +kernel
theorem dX11_uses_30 : decode cX11_uses 30 = .ok (.aload_n 0, 1) := by decide +kernel
theorem dX11_uses_31 : decode cX11_uses 31 = .ok (.getfield 7, 3) := by decide +kernel
theorem dX11_uses_34 : decode cX11_uses 34 = .ok (.sipush 462, 3) := by decide +kernel
theorem dX11_uses_37 : decode cX11_uses 37 = .ok (.iload_n 1, 1) := by decide +kernel
theorem dX11_uses_38 : decode cX11_uses 38 = .ok (.iadd, 1) := by decide +kernel
theorem dX11_uses_39 : decode cX11_uses 39 = .ok (.iaload, 1) := by decide +kernel
theorem dX11_uses_40 : decode cX11_uses 40 = .ok (.invokevirtual 202, 3) := by decide +kernel
theorem dX11_uses_43 : decode cX11_uses 43 = .ok (.istore 5, 2) := by decide +kernel
theorem dX11_uses_45 : decode cX11_uses 45 = .ok (.iload_n 2, 1) := by decide +kernel
theorem dX11_uses_46 : decode cX11_uses 46 = .ok (.iconst (-1), 1) := by decide +kernel
theorem dX11_uses_47 : decode cX11_uses 47 = .ok (.if_icmp .eq 9, 3) := by decide +kernel
theorem dX11_uses_50 : decode cX11_uses 50 = .ok (.iload 5, 2) := by decide +kernel
theorem dX11_uses_52 : decode cX11_uses 52 = .ok (.iload_n 3, 1) := by decide +kernel
theorem dX11_uses_53 : decode cX11_uses 53 = .ok (.if_icmp .le 9, 3) := by decide +kernel
theorem dX11_uses_56 : decode cX11_uses 56 = .ok (.iload 4, 2) := by decide +kernel
theorem dX11_uses_58 : decode cX11_uses 58 = .ok (.istore_n 2, 1) := by decide +kernel
theorem dX11_uses_59 : decode cX11_uses 59 = .ok (.iload 5, 2) := by decide +kernel
theorem dX11_uses_61 : decode cX11_uses 61 = .ok (.istore_n 3, 1) := by decide +kernel
theorem dX11_uses_62 : decode cX11_uses 62 = .ok (.iinc 4 1, 3) := by decide +kernel
theorem dX11_uses_65 : decode cX11_uses 65 = .ok (.goto (-58), 3) := by decide +kernel
theorem dX11_uses_68 : decode cX11_uses 68 = .ok (.iload_n 2, 1) := by decide +kernel
theorem dX11_uses_69 : decode cX11_uses 69 = .ok (.iconst (-1), 1) := by decide +kernel
theorem dX11_uses_70 : decode cX11_uses 70 = .ok (.if_icmp .ne 4, 3) := by decide +kernel
theorem dX11_uses_73 : decode cX11_uses 73 = .ok (.return_, 1) := by decide +kernel
theorem dX11_uses_74 : decode cX11_uses 74 = .ok (.aload_n 0, 1) := by decide +kernel
theorem dX11_uses_75 : decode cX11_uses 75 = .ok (.iload_n 2, 1) := by decide +kernel
theorem dX11_uses_76 : decode cX11_uses 76 = .ok (.bipush 6, 2) := by decide +kernel
theorem dX11_uses_78 : decode cX11_uses 78 = .ok (.invokevirtual 106, 3) := by decide +kernel
theorem dX11_uses_81 : decode cX11_uses 81 = .ok (.iconst 1, 1) := by decide +kernel
theorem dX11_uses_82 : decode cX11_uses 82 = .ok (.if_icmp .ne 45, 3) := by decide +kernel
theorem dX11_uses_85 : decode cX11_uses 85 = .ok (.aload_n 0, 1) := by decide +kernel
theorem dX11_uses_86 : decode cX11_uses 86 = .ok (.iload_n 2, 1) := by decide +kernel
theorem dX11_uses_87 : decode cX11_uses 87 = .ok (.invokevirtual 233, 3) := by decide +kernel
theorem dX11_uses_90 : decode cX11_uses 90 = .ok (.istore 4, 2) := by decide +kernel
theorem dX11_uses_92 : decode cX11_uses 92 = .ok (.aload_n 0, 1) := by decide +kernel
theorem dX11_uses_93 : decode cX11_uses 93 = .ok (.getfield 7, 3) := by decide +kernel
theorem dX11_uses_96 : decode cX11_uses 96 = .ok (.sipush 496, 3) := by decide +kernel
theorem dX11_uses_99 : decode cX11_uses 99 = .ok (.iload 4, 2) := by decide +kernel
theorem dX11_uses_101 : decode cX11_uses 101 = .ok (.iadd, 1) := by decide +kernel
theorem dX11_uses_102 : decode cX11_uses 102 = .ok (.iload_n 2, 1) := by decide +kernel
theorem dX11_uses_103 : decode cX11_uses 103 = .ok (.iastore, 1) := by decide +kernel
theorem dX11_uses_104 : decode cX11_uses 104 = .ok (.aload_n 0, 1) := by decide +kernel
theorem dX11_uses_105 : decode cX11_uses 105 = .ok (.getfield 7, 3) := by decide +kernel
theorem dX11_uses_108 : decode cX11_uses 108 = .ok (.bipush 30, 2) := by decide +kernel
theorem dX11_uses_110 : decode cX11_uses 110 = .ok (.iload_n 2, 1) := by decide +kernel
theorem dX11_uses_111 : decode cX11_uses 111 = .ok (.imul, 1) := by decide +kernel
theorem dX11_uses_112 : decode cX11_uses 112 = .ok (.bipush 8, 2) := by decide +kernel
theorem dX11_uses_114 : decode cX11_uses 114 = .ok (.iadd, 1) := by decide +kernel
theorem dX11_uses_115 : decode cX11_uses 115 = .ok (.iload 4, 2) := by decide +kernel
theorem dX11_uses_117 : decode cX11_uses 117 = .ok (.iastore, 1) := by decide +kernel
theorem dX11_uses_118 : decode cX11_uses 118 = .ok (.aload_n 0, 1) := by decide +kernel
theorem dX11_uses_119 : decode cX11_uses 119 = .ok (.iload_n 2, 1) := by decide +kernel
theorem dX11_uses_120 : decode cX11_uses 120 = .ok (.iconst 2, 1) := by decide +kernel
theorem dX11_uses_121 : decode cX11_uses 121 = .ok (.invokevirtual 207, 3) := by decide +kernel
theorem dX11_uses_124 : decode cX11_uses 124 = .ok (.goto 10, 3) := by decide +kernel
theorem dX11_uses_127 : decode cX11_uses 127 = .ok (.aload_n 0, 1) := by decide +kernel
theorem dX11_uses_128 : decode cX11_uses 128 = .ok (.iload_n 2, 1) := by decide +kernel
theorem dX11_uses_129 : decode cX11_uses 129 = .ok (.bipush 6, 2) := by decide +kernel
theorem dX11_uses_131 : decode cX11_uses 131 = .ok (.invokevirtual 207, 3) := by decide +kernel
theorem dX11_uses_134 : decode cX11_uses 134 = .ok (.aload_n 0, 1) := by decide +kernel
theorem dX11_uses_135 : decode cX11_uses 135 = .ok (.getfield 7, 3) := by decide +kernel
theorem dX11_uses_138 : decode cX11_uses 138 = .ok (.sipush 460, 3) := by decide +kernel
theorem dX11_uses_141 : decode cX11_uses 141 = .ok (.iload_n 1, 1) := by decide +kernel
theorem dX11_uses_142 : decode cX11_uses 142 = .ok (.iadd, 1) := by decide +kernel
theorem dX11_uses_143 : decode cX11_uses 143 = .ok (.aload_n 0, 1) := by decide +kernel
theorem dX11_uses_144 : decode cX11_uses 144 = .ok (.getfield 7, 3) := by decide +kernel
theorem dX11_uses_147 : decode cX11_uses 147 = .ok (.sipush 480, 3) := by decide +kernel
theorem dX11_uses_150 : decode cX11_uses 150 = .ok (.iaload, 1) := by decide +kernel
theorem dX11_uses_151 : decode cX11_uses 151 = .ok (.aload_n 0, 1) := by decide +kernel
theorem dX11_uses_152 : decode cX11_uses 152 = .ok (.getfield 56, 3) := by decide +kernel
theorem dX11_uses_155 : decode cX11_uses 155 = .ok (.aload_n 0, 1) := by decide +kernel
theorem dX11_uses_156 : decode cX11_uses 156 = .ok (.iload_n 2, 1) := by decide +kernel
theorem dX11_uses_157 : decode cX11_uses 157 = .ok (.iconst 0, 1) := by decide +kernel
theorem dX11_uses_158 : decode cX11_uses 158 = .ok (.invokevirtual 106, 3) := by decide +kernel
theorem dX11_uses_161 : decode cX11_uses 161 = .ok (.iaload, 1) := by decide +kernel
theorem dX11_uses_162 : decode cX11_uses 162 = .ok (.iadd, 1) := by decide +kernel
theorem dX11_uses_163 : decode cX11_uses 163 = .ok (.iastore, 1) := by decide +kernel
theorem dX11_uses_164 : decode cX11_uses 164 = .ok (.aload_n 0, 1) := by decide +kernel
theorem dX11_uses_165 : decode cX11_uses 165 = .ok (.getfield 7, 3) := by decide +kernel
theorem dX11_uses_168 : decode cX11_uses 168 = .ok (.sipush 462, 3) := by decide +kernel
theorem dX11_uses_171 : decode cX11_uses 171 = .ok (.iload_n 1, 1) := by decide +kernel
theorem dX11_uses_172 : decode cX11_uses 172 = .ok (.iadd, 1) := by decide +kernel
theorem dX11_uses_173 : decode cX11_uses 173 = .ok (.aload_n 0, 1) := by decide +kernel
theorem dX11_uses_174 : decode cX11_uses 174 = .ok (.iload_n 2, 1) := by decide +kernel
theorem dX11_uses_175 : decode cX11_uses 175 = .ok (.iconst 0, 1) := by decide +kernel
theorem dX11_uses_176 : decode cX11_uses 176 = .ok (.invokevirtual 106, 3) := by decide +kernel
theorem dX11_uses_179 : decode cX11_uses 179 = .ok (.iastore, 1) := by decide +kernel
theorem dX11_uses_180 : decode cX11_uses 180 = .ok (.return_, 1) := by decide +kernel
theorem dX11_causeOf_0 : decode cX11_causeOf 0 = .ok (.aload_n 0, 1) := by decide +kernel
theorem dX11_causeOf_1 : decode cX11_causeOf 1 = .ok (.getfield 7, 3) := by decide +kernel
theorem dX11_causeOf_4 : decode cX11_causeOf 4 = .ok (.sipush 481, 3) := by decide +kernel
theorem dX11_causeOf_7 : decode cX11_causeOf 7 = .ok (.iaload, 1) := by decide +kernel
theorem dX11_causeOf_8 : decode cX11_causeOf 8 = .ok (.iconst 1, 1) := by decide +kernel
theorem dX11_causeOf_9 : decode cX11_causeOf 9 = .ok (.if_icmp .ne 20, 3) := by decide +kernel
theorem dX11_causeOf_12 : decode cX11_causeOf 12 = .ok (.aload_n 0, 1) := by decide +kernel
theorem dX11_causeOf_13 : decode cX11_causeOf 13 = .ok (.getfield 7, 3) := by decide +kernel
theorem dX11_causeOf_16 : decode cX11_causeOf 16 = .ok (.sipush 484, 3) := by decide +kernel
theorem dX11_causeOf_19 : decode cX11_causeOf 19 = .ok (.iaload, 1) := by decide +kernel
theorem dX11_causeOf_20 : decode cX11_causeOf 20 = .ok (.iconst 2, 1) := by decide +kernel
theorem dX11_causeOf_21 : decode cX11_causeOf 21 = .ok (.if_icmp .ne 8, 3) := by decide +kernel
theorem dX11_causeOf_24 : decode cX11_causeOf 24 = .ok (.bipush 6, 2) := by decide +kernel
theorem dX11_causeOf_26 : decode cX11_causeOf 26 = .ok (.goto 4, 3) := by decide +kernel
theorem dX11_causeOf_29 : decode cX11_causeOf 29 = .ok (.iconst 5, 1) := by decide +kernel
theorem dX11_causeOf_30 : decode cX11_causeOf 30 = .ok (.istore_n 2, 1) := by decide +kernel
theorem dX11_causeOf_31 : decode cX11_causeOf 31 = .ok (.aload_n 0, 1) := by decide +kernel
theorem dX11_causeOf_32 : decode cX11_causeOf 32 = .ok (.iload_n 1, 1) := by decide +kernel
theorem dX11_causeOf_33 : decode cX11_causeOf 33 = .ok (.bipush 6, 2) := by decide +kernel
theorem dX11_causeOf_35 : decode cX11_causeOf 35 = .ok (.invokevirtual 106, 3) := by decide +kernel
theorem dX11_causeOf_38 : decode cX11_causeOf 38 = .ok (.tableswitch 105 1 5 #[34, 105, 105, 49, 56], 34) := by decide +kernel
theorem dX11_causeOf_72 : decode cX11_causeOf 72 = .ok (.aload_n 0, 1) := by decide +kernel
theorem dX11_causeOf_73 : decode cX11_causeOf 73 = .ok (.iload_n 1, 1) := by decide +kernel
theorem dX11_causeOf_74 : decode cX11_causeOf 74 = .ok (.invokevirtual 233, 3) := by decide +kernel
theorem dX11_causeOf_77 : decode cX11_causeOf 77 = .ok (.iconst (-1), 1) := by decide +kernel
theorem dX11_causeOf_78 : decode cX11_causeOf 78 = .ok (.if_icmp .ne 7, 3) := by decide +kernel
theorem dX11_causeOf_81 : decode cX11_causeOf 81 = .ok (.iconst 1, 1) := by decide +kernel
theorem dX11_causeOf_82 : decode cX11_causeOf 82 = .ok (.goto 4, 3) := by decide +kernel
theorem dX11_causeOf_85 : decode cX11_causeOf 85 = .ok (.iload_n 2, 1) := by decide +kernel
theorem dX11_causeOf_86 : decode cX11_causeOf 86 = .ok (.ireturn, 1) := by decide +kernel
theorem dX11_causeOf_87 : decode cX11_causeOf 87 = .ok (.aload_n 0, 1) := by decide +kernel
theorem dX11_causeOf_88 : decode cX11_causeOf 88 = .ok (.getfield 86, 3) := by decide +kernel
theorem dX11_causeOf_91 : decode cX11_causeOf 91 = .ok (.iload_n 1, 1) := by decide +kernel
theorem dX11_causeOf_92 : decode cX11_causeOf 92 = .ok (.iaload, 1) := by decide +kernel
theorem dX11_causeOf_93 : decode cX11_causeOf 93 = .ok (.ireturn, 1) := by decide +kernel
theorem dX11_causeOf_94 : decode cX11_causeOf 94 = .ok (.aload_n 0, 1) := by decide +kernel
theorem dX11_causeOf_95 : decode cX11_causeOf 95 = .ok (.iload_n 1, 1) := by decide +kernel
theorem dX11_causeOf_96 : decode cX11_causeOf 96 = .ok (.bipush 17, 2) := by decide +kernel
theorem dX11_causeOf_98 : decode cX11_causeOf 98 = .ok (.invokevirtual 106, 3) := by decide +kernel
theorem dX11_causeOf_101 : decode cX11_causeOf 101 = .ok (.ifCond .gt 11, 3) := by decide +kernel
theorem dX11_causeOf_104 : decode cX11_causeOf 104 = .ok (.aload_n 0, 1) := by decide +kernel
theorem dX11_causeOf_105 : decode cX11_causeOf 105 = .ok (.iload_n 1, 1) := by decide +kernel
theorem dX11_causeOf_106 : decode cX11_causeOf 106 = .ok (.invokevirtual 236, 3) := by decide +kernel
theorem dX11_causeOf_109 : decode cX11_causeOf 109 = .ok (.ifCond .eq 8, 3) := by decide +kernel
theorem dX11_causeOf_112 : decode cX11_causeOf 112 = .ok (.bipush 8, 2) := by decide +kernel
theorem dX11_causeOf_114 : decode cX11_causeOf 114 = .ok (.goto 28, 3) := by decide +kernel
theorem dX11_causeOf_117 : decode cX11_causeOf 117 = .ok (.aload_n 0, 1) := by decide +kernel
theorem dX11_causeOf_118 : decode cX11_causeOf 118 = .ok (.getfield 7, 3) := by decide +kernel
theorem dX11_causeOf_121 : decode cX11_causeOf 121 = .ok (.sipush 480, 3) := by decide +kernel
theorem dX11_causeOf_124 : decode cX11_causeOf 124 = .ok (.iaload, 1) := by decide +kernel
theorem dX11_causeOf_125 : decode cX11_causeOf 125 = .ok (.aload_n 0, 1) := by decide +kernel
theorem dX11_causeOf_126 : decode cX11_causeOf 126 = .ok (.iload_n 1, 1) := by decide +kernel
theorem dX11_causeOf_127 : decode cX11_causeOf 127 = .ok (.bipush 7, 2) := by decide +kernel
theorem dX11_causeOf_129 : decode cX11_causeOf 129 = .ok (.invokevirtual 106, 3) := by decide +kernel
theorem dX11_causeOf_132 : decode cX11_causeOf 132 = .ok (.isub, 1) := by decide +kernel
theorem dX11_causeOf_133 : decode cX11_causeOf 133 = .ok (.iconst 4, 1) := by decide +kernel
theorem dX11_causeOf_134 : decode cX11_causeOf 134 = .ok (.if_icmp .ge 7, 3) := by decide +kernel
theorem dX11_causeOf_137 : decode cX11_causeOf 137 = .ok (.iconst 2, 1) := by decide +kernel
theorem dX11_causeOf_138 : decode cX11_causeOf 138 = .ok (.goto 4, 3) := by decide +kernel
theorem dX11_causeOf_141 : decode cX11_causeOf 141 = .ok (.iload_n 2, 1) := by decide +kernel
theorem dX11_causeOf_142 : decode cX11_causeOf 142 = .ok (.ireturn, 1) := by decide +kernel
theorem dX11_causeOf_143 : decode cX11_causeOf 143 = .ok (.iconst 0, 1) := by decide +kernel
theorem dX11_causeOf_144 : decode cX11_causeOf 144 = .ok (.ireturn, 1) := by decide +kernel
theorem dX11_ticks_0 : decode cX11_ticks 0 = .ok (.iconst 0, 1) := by decide +kernel
theorem dX11_ticks_1 : decode cX11_ticks 1 = .ok (.istore_n 1, 1) := by decide +kernel
theorem dX11_ticks_2 : decode cX11_ticks 2 = .ok (.iload_n 1, 1) := by decide +kernel
theorem dX11_ticks_3 : decode cX11_ticks 3 = .ok (.aload_n 0, 1) := by decide +kernel
theorem dX11_ticks_4 : decode cX11_ticks 4 = .ok (.getfield 96, 3) := by decide +kernel
theorem dX11_ticks_7 : decode cX11_ticks 7 = .ok (.if_icmp .ge 14, 3) := by decide +kernel
theorem dX11_ticks_10 : decode cX11_ticks 10 = .ok (.aload_n 0, 1) := by decide +kernel
theorem dX11_ticks_11 : decode cX11_ticks 11 = .ok (.iload_n 1, 1) := by decide +kernel
theorem dX11_ticks_12 : decode cX11_ticks 12 = .ok (.invokevirtual 242, 3) := by decide +kernel
theorem dX11_ticks_15 : decode cX11_ticks 15 = .ok (.iinc 1 1, 3) := by decide +kernel
theorem dX11_ticks_18 : decode cX11_ticks 18 = .ok (.goto (-16), 3) := by decide +kernel
theorem dX11_ticks_21 : decode cX11_ticks 21 = .ok (.iconst 0, 1) := by decide +kernel
theorem dX11_ticks_22 : decode cX11_ticks 22 = .ok (.istore_n 1, 1) := by decide +kernel
theorem dX11_ticks_23 : decode cX11_ticks 23 = .ok (.iload_n 1, 1) := by decide +kernel
theorem dX11_ticks_24 : decode cX11_ticks 24 = .ok (.aload_n 0, 1) := by decide +kernel
theorem dX11_ticks_25 : decode cX11_ticks 25 = .ok (.getfield 96, 3) := by decide +kernel
theorem dX11_ticks_28 : decode cX11_ticks 28 = .ok (.if_icmp .ge 14, 3) := by decide +kernel
theorem dX11_ticks_31 : decode cX11_ticks 31 = .ok (.aload_n 0, 1) := by decide +kernel
theorem dX11_ticks_32 : decode cX11_ticks 32 = .ok (.iload_n 1, 1) := by decide +kernel
theorem dX11_ticks_33 : decode cX11_ticks 33 = .ok (.invokevirtual 245, 3) := by decide +kernel
theorem dX11_ticks_36 : decode cX11_ticks 36 = .ok (.iinc 1 1, 3) := by decide +kernel
theorem dX11_ticks_39 : decode cX11_ticks 39 = .ok (.goto (-16), 3) := by decide +kernel
theorem dX11_ticks_42 : decode cX11_ticks 42 = .ok (.iconst 0, 1) := by decide +kernel
theorem dX11_ticks_43 : decode cX11_ticks 43 = .ok (.istore_n 1, 1) := by decide +kernel
theorem dX11_ticks_44 : decode cX11_ticks 44 = .ok (.iload_n 1, 1) := by decide +kernel
theorem dX11_ticks_45 : decode cX11_ticks 45 = .ok (.aload_n 0, 1) := by decide +kernel
theorem dX11_ticks_46 : decode cX11_ticks 46 = .ok (.getfield 124, 3) := by decide +kernel
theorem dX11_ticks_49 : decode cX11_ticks 49 = .ok (.if_icmp .ge 21, 3) := by decide +kernel
theorem dX11_ticks_52 : decode cX11_ticks 52 = .ok (.aload_n 0, 1) := by decide +kernel
theorem dX11_ticks_53 : decode cX11_ticks 53 = .ok (.sipush 360, 3) := by decide +kernel
theorem dX11_ticks_56 : decode cX11_ticks 56 = .ok (.bipush 6, 2) := by decide +kernel
theorem dX11_ticks_58 : decode cX11_ticks 58 = .ok (.iload_n 1, 1) := by decide +kernel
theorem dX11_ticks_59 : decode cX11_ticks 59 = .ok (.imul, 1) := by decide +kernel
theorem dX11_ticks_60 : decode cX11_ticks 60 = .ok (.iadd, 1) := by decide +kernel
theorem dX11_ticks_61 : decode cX11_ticks 61 = .ok (.invokevirtual 248, 3) := by decide +kernel
theorem dX11_ticks_64 : decode cX11_ticks 64 = .ok (.iinc 1 1, 3) := by decide +kernel
theorem dX11_ticks_67 : decode cX11_ticks 67 = .ok (.goto (-23), 3) := by decide +kernel
theorem dX11_ticks_70 : decode cX11_ticks 70 = .ok (.iconst 0, 1) := by decide +kernel
theorem dX11_ticks_71 : decode cX11_ticks 71 = .ok (.istore_n 1, 1) := by decide +kernel
theorem dX11_ticks_72 : decode cX11_ticks 72 = .ok (.iload_n 1, 1) := by decide +kernel
theorem dX11_ticks_73 : decode cX11_ticks 73 = .ok (.aload_n 0, 1) := by decide +kernel
theorem dX11_ticks_74 : decode cX11_ticks 74 = .ok (.getfield 96, 3) := by decide +kernel
theorem dX11_ticks_77 : decode cX11_ticks 77 = .ok (.if_icmp .ge 25, 3) := by decide +kernel
theorem dX11_ticks_80 : decode cX11_ticks 80 = .ok (.aload_n 0, 1) := by decide +kernel
theorem dX11_ticks_81 : decode cX11_ticks 81 = .ok (.iload_n 1, 1) := by decide +kernel
theorem dX11_ticks_82 : decode cX11_ticks 82 = .ok (.bipush 6, 2) := by decide +kernel
theorem dX11_ticks_84 : decode cX11_ticks 84 = .ok (.invokevirtual 106, 3) := by decide +kernel
theorem dX11_ticks_87 : decode cX11_ticks 87 = .ok (.iconst 4, 1) := by decide +kernel
theorem dX11_ticks_88 : decode cX11_ticks 88 = .ok (.if_icmp .ne 8, 3) := by decide +kernel
theorem dX11_ticks_91 : decode cX11_ticks 91 = .ok (.aload_n 0, 1) := by decide +kernel
theorem dX11_ticks_92 : decode cX11_ticks 92 = .ok (.iload_n 1, 1) := by decide +kernel
theorem dX11_ticks_93 : decode cX11_ticks 93 = .ok (.invokevirtual 251, 3) := by decide +kernel
theorem dX11_ticks_96 : decode cX11_ticks 96 = .ok (.iinc 1 1, 3) := by decide +kernel
theorem dX11_ticks_99 : decode cX11_ticks 99 = .ok (.goto (-27), 3) := by decide +kernel
theorem dX11_ticks_102 : decode cX11_ticks 102 = .ok (.iconst 0, 1) := by decide +kernel
theorem dX11_ticks_103 : decode cX11_ticks 103 = .ok (.istore_n 1, 1) := by decide +kernel
theorem dX11_ticks_104 : decode cX11_ticks 104 = .ok (.iload_n 1, 1) := by decide +kernel
theorem dX11_ticks_105 : decode cX11_ticks 105 = .ok (.aload_n 0, 1) := by decide +kernel
theorem dX11_ticks_106 : decode cX11_ticks 106 = .ok (.getfield 96, 3) := by decide +kernel
theorem dX11_ticks_109 : decode cX11_ticks 109 = .ok (.if_icmp .ge 53, 3) := by decide +kernel
theorem dX11_ticks_112 : decode cX11_ticks 112 = .ok (.aload_n 0, 1) := by decide +kernel
theorem dX11_ticks_113 : decode cX11_ticks 113 = .ok (.iload_n 1, 1) := by decide +kernel
theorem dX11_ticks_114 : decode cX11_ticks 114 = .ok (.bipush 6, 2) := by decide +kernel
theorem dX11_ticks_116 : decode cX11_ticks 116 = .ok (.invokevirtual 106, 3) := by decide +kernel
theorem dX11_ticks_119 : decode cX11_ticks 119 = .ok (.iconst 5, 1) := by decide +kernel
theorem dX11_ticks_120 : decode cX11_ticks 120 = .ok (.if_icmp .ne 36, 3) := by decide +kernel
theorem dX11_ticks_123 : decode cX11_ticks 123 = .ok (.aload_n 0, 1) := by decide +kernel
theorem dX11_ticks_124 : decode cX11_ticks 124 = .ok (.iload_n 1, 1) := by decide +kernel
theorem dX11_ticks_125 : decode cX11_ticks 125 = .ok (.invokevirtual 236, 3) := by decide +kernel
theorem dX11_ticks_128 : decode cX11_ticks 128 = .ok (.ifCond .eq 28, 3) := by decide +kernel
theorem dX11_ticks_131 : decode cX11_ticks 131 = .ok (.aload_n 0, 1) := by decide +kernel
theorem dX11_ticks_132 : decode cX11_ticks 132 = .ok (.iload_n 1, 1) := by decide +kernel
theorem dX11_ticks_133 : decode cX11_ticks 133 = .ok (.bipush 17, 2) := by decide +kernel
theorem dX11_ticks_135 : decode cX11_ticks 135 = .ok (.invokevirtual 106, 3) := by decide +kernel
theorem dX11_ticks_138 : decode cX11_ticks 138 = .ok (.ifCond .ne 18, 3) := by decide +kernel
theorem dX11_ticks_141 : decode cX11_ticks 141 = .ok (.aload_n 0, 1) := by decide +kernel
theorem dX11_ticks_142 : decode cX11_ticks 142 = .ok (.iconst 4, 1) := by decide +kernel
theorem dX11_ticks_143 : decode cX11_ticks 143 = .ok (.invokevirtual 224, 3) := by decide +kernel
theorem dX11_ticks_146 : decode cX11_ticks 146 = .ok (.ifCond .eq 10, 3) := by decide +kernel
theorem dX11_ticks_149 : decode cX11_ticks 149 = .ok (.aload_n 0, 1) := by decide +kernel
theorem dX11_ticks_150 : decode cX11_ticks 150 = .ok (.iload_n 1, 1) := by decide +kernel
theorem dX11_ticks_151 : decode cX11_ticks 151 = .ok (.bipush 6, 2) := by decide +kernel
theorem dX11_ticks_153 : decode cX11_ticks 153 = .ok (.invokevirtual 230, 3) := by decide +kernel
theorem dX11_ticks_156 : decode cX11_ticks 156 = .ok (.iinc 1 1, 3) := by decide +kernel
theorem dX11_ticks_159 : decode cX11_ticks 159 = .ok (.goto (-55), 3) := by decide +kernel
theorem dX11_ticks_162 : decode cX11_ticks 162 = .ok (.iconst 0, 1) := by decide +kernel
theorem dX11_ticks_163 : decode cX11_ticks 163 = .ok (.istore_n 1, 1) := by decide +kernel
theorem dX11_ticks_164 : decode cX11_ticks 164 = .ok (.iload_n 1, 1) := by decide +kernel
theorem dX11_ticks_165 : decode cX11_ticks 165 = .ok (.aload_n 0, 1) := by decide +kernel
theorem dX11_ticks_166 : decode cX11_ticks 166 = .ok (.getfield 7, 3) := by decide +kernel
theorem dX11_ticks_169 : decode cX11_ticks 169 = .ok (.sipush 481, 3) := by decide +kernel
theorem dX11_ticks_172 : decode cX11_ticks 172 = .ok (.iaload, 1) := by decide +kernel
theorem dX11_ticks_173 : decode cX11_ticks 173 = .ok (.iconst 1, 1) := by decide +kernel
theorem dX11_ticks_174 : decode cX11_ticks 174 = .ok (.if_icmp .ne 7, 3) := by decide +kernel
theorem dX11_ticks_177 : decode cX11_ticks 177 = .ok (.iconst 1, 1) := by decide +kernel
theorem dX11_ticks_178 : decode cX11_ticks 178 = .ok (.goto 11, 3) := by decide +kernel
theorem dX11_ticks_181 : decode cX11_ticks 181 = .ok (.aload_n 0, 1) := by decide +kernel
theorem dX11_ticks_182 : decode cX11_ticks 182 = .ok (.getfield 7, 3) := by decide +kernel
theorem dX11_ticks_185 : decode cX11_ticks 185 = .ok (.sipush 484, 3) := by decide +kernel
theorem dX11_ticks_188 : decode cX11_ticks 188 = .ok (.iaload, 1) := by decide +kernel
theorem dX11_ticks_189 : decode cX11_ticks 189 = .ok (.if_icmp .ge 14, 3) := by decide +kernel
theorem dX11_ticks_192 : decode cX11_ticks 192 = .ok (.aload_n 0, 1) := by decide +kernel
theorem dX11_ticks_193 : decode cX11_ticks 193 = .ok (.iload_n 1, 1) := by decide +kernel
theorem dX11_ticks_194 : decode cX11_ticks 194 = .ok (.invokevirtual 254, 3) := by decide +kernel
theorem dX11_ticks_197 : decode cX11_ticks 197 = .ok (.iinc 1 1, 3) := by decide +kernel
theorem dX11_ticks_200 : decode cX11_ticks 200 = .ok (.goto (-36), 3) := by decide +kernel
theorem dX11_ticks_203 : decode cX11_ticks 203 = .ok (.iconst 0, 1) := by decide +kernel
theorem dX11_ticks_204 : decode cX11_ticks 204 = .ok (.istore_n 1, 1) := by decide +kernel
theorem dX11_ticks_205 : decode cX11_ticks 205 = .ok (.iload_n 1, 1) := by decide +kernel
theorem dX11_ticks_206 : decode cX11_ticks 206 = .ok (.aload_n 0, 1) := by decide +kernel
theorem dX11_ticks_207 : decode cX11_ticks 207 = .ok (.getfield 96, 3) := by decide +kernel
theorem dX11_ticks_210 : decode cX11_ticks 210 = .ok (.if_icmp .ge 59, 3) := by decide +kernel
theorem dX11_ticks_213 : decode cX11_ticks 213 = .ok (.aload_n 0, 1) := by decide +kernel
theorem dX11_ticks_214 : decode cX11_ticks 214 = .ok (.iload_n 1, 1) := by decide +kernel
theorem dX11_ticks_215 : decode cX11_ticks 215 = .ok (.bipush 6, 2) := by decide +kernel
theorem dX11_ticks_217 : decode cX11_ticks 217 = .ok (.invokevirtual 106, 3) := by decide +kernel
theorem dX11_ticks_220 : decode cX11_ticks 220 = .ok (.iconst 5, 1) := by decide +kernel
theorem dX11_ticks_221 : decode cX11_ticks 221 = .ok (.if_icmp .gt 42, 3) := by decide +kernel
theorem dX11_ticks_224 : decode cX11_ticks 224 = .ok (.aload_n 0, 1) := by decide +kernel
theorem dX11_ticks_225 : decode cX11_ticks 225 = .ok (.getfield 7, 3) := by decide +kernel
theorem dX11_ticks_228 : decode cX11_ticks 228 = .ok (.sipush 480, 3) := by decide +kernel
theorem dX11_ticks_231 : decode cX11_ticks 231 = .ok (.iaload, 1) := by decide +kernel
theorem dX11_ticks_232 : decode cX11_ticks 232 = .ok (.aload_n 0, 1) := by decide +kernel
theorem dX11_ticks_233 : decode cX11_ticks 233 = .ok (.iload_n 1, 1) := by decide +kernel
theorem dX11_ticks_234 : decode cX11_ticks 234 = .ok (.iconst 2, 1) := by decide +kernel
theorem dX11_ticks_235 : decode cX11_ticks 235 = .ok (.invokevirtual 106, 3) := by decide +kernel
theorem dX11_ticks_238 : decode cX11_ticks 238 = .ok (.if_icmp .lt 25, 3) := by decide +kernel
theorem dX11_ticks_241 : decode cX11_ticks 241 = .ok (.aload_n 0, 1) := by decide +kernel
theorem dX11_ticks_242 : decode cX11_ticks 242 = .ok (.getfield 7, 3) := by decide +kernel
theorem dX11_ticks_245 : decode cX11_ticks 245 = .ok (.bipush 30, 2) := by decide +kernel
theorem dX11_ticks_247 : decode cX11_ticks 247 = .ok (.iload_n 1, 1) := by decide +kernel
theorem dX11_ticks_248 : decode cX11_ticks 248 = .ok (.imul, 1) := by decide +kernel
theorem dX11_ticks_249 : decode cX11_ticks 249 = .ok (.bipush 19, 2) := by decide +kernel
theorem dX11_ticks_251 : decode cX11_ticks 251 = .ok (.iadd, 1) := by decide +kernel
theorem dX11_ticks_252 : decode cX11_ticks 252 = .ok (.aload_n 0, 1) := by decide +kernel
theorem dX11_ticks_253 : decode cX11_ticks 253 = .ok (.iload_n 1, 1) := by decide +kernel
theorem dX11_ticks_254 : decode cX11_ticks 254 = .ok (.invokevirtual 257, 3) := by decide +kernel
theorem dX11_ticks_257 : decode cX11_ticks 257 = .ok (.iadd, 1) := by decide +kernel
theorem dX11_ticks_258 : decode cX11_ticks 258 = .ok (.dup2, 1) := by decide +kernel
theorem dX11_ticks_259 : decode cX11_ticks 259 = .ok (.iaload, 1) := by decide +kernel
theorem dX11_ticks_260 : decode cX11_ticks 260 = .ok (.iconst 1, 1) := by decide +kernel
theorem dX11_ticks_261 : decode cX11_ticks 261 = .ok (.iadd, 1) := by decide +kernel
theorem dX11_ticks_262 : decode cX11_ticks 262 = .ok (.iastore, 1) := by decide +kernel
theorem dX11_ticks_263 : decode cX11_ticks 263 = .ok (.iinc 1 1, 3) := by decide +kernel
theorem dX11_ticks_266 : decode cX11_ticks 266 = .ok (.goto (-61), 3) := by decide +kernel
theorem dX11_ticks_269 : decode cX11_ticks 269 = .ok (.aload_n 0, 1) := by decide +kernel
theorem dX11_ticks_270 : decode cX11_ticks 270 = .ok (.getfield 7, 3) := by decide +kernel
theorem dX11_ticks_273 : decode cX11_ticks 273 = .ok (.sipush 480, 3) := by decide +kernel
theorem dX11_ticks_276 : decode cX11_ticks 276 = .ok (.dup2, 1) := by decide +kernel
theorem dX11_ticks_277 : decode cX11_ticks 277 = .ok (.iaload, 1) := by decide +kernel
theorem dX11_ticks_278 : decode cX11_ticks 278 = .ok (.iconst 1, 1) := by decide +kernel
theorem dX11_ticks_279 : decode cX11_ticks 279 = .ok (.iadd, 1) := by decide +kernel
theorem dX11_ticks_280 : decode cX11_ticks 280 = .ok (.iastore, 1) := by decide +kernel
theorem dX11_ticks_281 : decode cX11_ticks 281 = .ok (.return_, 1) := by decide +kernel
theorem dX11_run_0 : decode cX11_run 0 = .ok (.iload_n 1, 1) := by decide +kernel
theorem dX11_run_1 : decode cX11_run 1 = .ok (.iconst 1, 1) := by decide +kernel
theorem dX11_run_2 : decode cX11_run 2 = .ok (.sipush 200, 3) := by decide +kernel
theorem dX11_run_5 : decode cX11_run 5 = .ok (.invokestatic 99, 3) := by decide +kernel
theorem dX11_run_8 : decode cX11_run 8 = .ok (.ifCond .ne 6, 3) := by decide +kernel
theorem dX11_run_11 : decode cX11_run 11 = .ok (.bipush (-2), 2) := by decide +kernel
theorem dX11_run_13 : decode cX11_run 13 = .ok (.ireturn, 1) := by decide +kernel
theorem dX11_run_14 : decode cX11_run 14 = .ok (.aload_n 0, 1) := by decide +kernel
theorem dX11_run_15 : decode cX11_run 15 = .ok (.getfield 7, 3) := by decide +kernel
theorem dX11_run_18 : decode cX11_run 18 = .ok (.sipush 480, 3) := by decide +kernel
theorem dX11_run_21 : decode cX11_run 21 = .ok (.iaload, 1) := by decide +kernel
theorem dX11_run_22 : decode cX11_run 22 = .ok (.iload_n 1, 1) := by decide +kernel
theorem dX11_run_23 : decode cX11_run 23 = .ok (.iadd, 1) := by decide +kernel
theorem dX11_run_24 : decode cX11_run 24 = .ok (.sipush 9999, 3) := by decide +kernel
theorem dX11_run_27 : decode cX11_run 27 = .ok (.if_icmp .le 6, 3) := by decide +kernel
theorem dX11_run_30 : decode cX11_run 30 = .ok (.bipush (-4), 2) := by decide +kernel
theorem dX11_run_32 : decode cX11_run 32 = .ok (.ireturn, 1) := by decide +kernel
theorem dX11_run_33 : decode cX11_run 33 = .ok (.iconst 0, 1) := by decide +kernel
theorem dX11_run_34 : decode cX11_run 34 = .ok (.istore_n 2, 1) := by decide +kernel
theorem dX11_run_35 : decode cX11_run 35 = .ok (.iload_n 2, 1) := by decide +kernel
theorem dX11_run_36 : decode cX11_run 36 = .ok (.iload_n 1, 1) := by decide +kernel
theorem dX11_run_37 : decode cX11_run 37 = .ok (.if_icmp .ge 13, 3) := by decide +kernel
theorem dX11_run_40 : decode cX11_run 40 = .ok (.aload_n 0, 1) := by decide +kernel
theorem dX11_run_41 : decode cX11_run 41 = .ok (.invokevirtual 260, 3) := by decide +kernel
theorem dX11_run_44 : decode cX11_run 44 = .ok (.iinc 2 1, 3) := by decide +kernel
theorem dX11_run_47 : decode cX11_run 47 = .ok (.goto (-12), 3) := by decide +kernel
theorem dX11_run_50 : decode cX11_run 50 = .ok (.aload_n 0, 1) := by decide +kernel
theorem dX11_run_51 : decode cX11_run 51 = .ok (.getfield 7, 3) := by decide +kernel
theorem dX11_run_54 : decode cX11_run 54 = .ok (.sipush 480, 3) := by decide +kernel
theorem dX11_run_57 : decode cX11_run 57 = .ok (.iaload, 1) := by decide +kernel
theorem dX11_run_58 : decode cX11_run 58 = .ok (.ireturn, 1) := by decide +kernel
theorem dX11_lateOf_0 : decode cX11_lateOf 0 = .ok (.iconst 0, 1) := by decide +kernel
theorem dX11_lateOf_1 : decode cX11_lateOf 1 = .ok (.istore_n 2, 1) := by decide +kernel
theorem dX11_lateOf_2 : decode cX11_lateOf 2 = .ok (.iconst 0, 1) := by decide +kernel
theorem dX11_lateOf_3 : decode cX11_lateOf 3 = .ok (.istore_n 3, 1) := by decide +kernel
theorem dX11_lateOf_4 : decode cX11_lateOf 4 = .ok (.iload_n 3, 1) := by decide +kernel
theorem dX11_lateOf_5 : decode cX11_lateOf 5 = .ok (.bipush 9, 2) := by decide +kernel
theorem dX11_lateOf_7 : decode cX11_lateOf 7 = .ok (.if_icmp .ge 21, 3) := by decide +kernel
theorem dX11_lateOf_10 : decode cX11_lateOf 10 = .ok (.iload_n 2, 1) := by decide +kernel
theorem dX11_lateOf_11 : decode cX11_lateOf 11 = .ok (.aload_n 0, 1) := by decide +kernel
theorem dX11_lateOf_12 : decode cX11_lateOf 12 = .ok (.iload_n 1, 1) := by decide +kernel
theorem dX11_lateOf_13 : decode cX11_lateOf 13 = .ok (.bipush 19, 2) := by decide +kernel
theorem dX11_lateOf_15 : decode cX11_lateOf 15 = .ok (.iload_n 3, 1) := by decide +kernel
theorem dX11_lateOf_16 : decode cX11_lateOf 16 = .ok (.iadd, 1) := by decide +kernel
theorem dX11_lateOf_17 : decode cX11_lateOf 17 = .ok (.invokevirtual 106, 3) := by decide +kernel
theorem dX11_lateOf_20 : decode cX11_lateOf 20 = .ok (.iadd, 1) := by decide +kernel
theorem dX11_lateOf_21 : decode cX11_lateOf 21 = .ok (.istore_n 2, 1) := by decide +kernel
theorem dX11_lateOf_22 : decode cX11_lateOf 22 = .ok (.iinc 3 1, 3) := by decide +kernel
theorem dX11_lateOf_25 : decode cX11_lateOf 25 = .ok (.goto (-21), 3) := by decide +kernel
theorem dX11_lateOf_28 : decode cX11_lateOf 28 = .ok (.iload_n 2, 1) := by decide +kernel
theorem dX11_lateOf_29 : decode cX11_lateOf 29 = .ok (.ireturn, 1) := by decide +kernel
theorem dX11_lateOfAll_0 : decode cX11_lateOfAll 0 = .ok (.iconst 0, 1) := by decide +kernel
theorem dX11_lateOfAll_1 : decode cX11_lateOfAll 1 = .ok (.istore_n 1, 1) := by decide +kernel
theorem dX11_lateOfAll_2 : decode cX11_lateOfAll 2 = .ok (.iconst 0, 1) := by decide +kernel
theorem dX11_lateOfAll_3 : decode cX11_lateOfAll 3 = .ok (.istore_n 2, 1) := by decide +kernel
theorem dX11_lateOfAll_4 : decode cX11_lateOfAll 4 = .ok (.iload_n 2, 1) := by decide +kernel
theorem dX11_lateOfAll_5 : decode cX11_lateOfAll 5 = .ok (.aload_n 0, 1) := by decide +kernel
theorem dX11_lateOfAll_6 : decode cX11_lateOfAll 6 = .ok (.getfield 96, 3) := by decide +kernel
theorem dX11_lateOfAll_9 : decode cX11_lateOfAll 9 = .ok (.if_icmp .ge 17, 3) := by decide +kernel
theorem dX11_lateOfAll_12 : decode cX11_lateOfAll 12 = .ok (.iload_n 1, 1) := by decide +kernel
theorem dX11_lateOfAll_13 : decode cX11_lateOfAll 13 = .ok (.aload_n 0, 1) := by decide +kernel
theorem dX11_lateOfAll_14 : decode cX11_lateOfAll 14 = .ok (.iload_n 2, 1) := by decide +kernel
theorem dX11_lateOfAll_15 : decode cX11_lateOfAll 15 = .ok (.invokevirtual 263, 3) := by decide +kernel
theorem dX11_lateOfAll_18 : decode cX11_lateOfAll 18 = .ok (.iadd, 1) := by decide +kernel
theorem dX11_lateOfAll_19 : decode cX11_lateOfAll 19 = .ok (.istore_n 1, 1) := by decide +kernel
theorem dX11_lateOfAll_20 : decode cX11_lateOfAll 20 = .ok (.iinc 2 1, 3) := by decide +kernel
theorem dX11_lateOfAll_23 : decode cX11_lateOfAll 23 = .ok (.goto (-19), 3) := by decide +kernel
theorem dX11_lateOfAll_26 : decode cX11_lateOfAll 26 = .ok (.iload_n 1, 1) := by decide +kernel
theorem dX11_lateOfAll_27 : decode cX11_lateOfAll 27 = .ok (.ireturn, 1) := by decide +kernel
theorem dX11_missed_0 : decode cX11_missed 0 = .ok (.iconst 0, 1) := by decide +kernel
theorem dX11_missed_1 : decode cX11_missed 1 = .ok (.istore_n 1, 1) := by decide +kernel
theorem dX11_missed_2 : decode cX11_missed 2 = .ok (.sipush 360, 3) := by decide +kernel
theorem dX11_missed_5 : decode cX11_missed 5 = .ok (.istore_n 2, 1) := by decide +kernel
theorem dX11_missed_6 : decode cX11_missed 6 = .ok (.iload_n 2, 1) := by decide +kernel
theorem dX11_missed_7 : decode cX11_missed 7 = .ok (.sipush 360, 3) := by decide +kernel
theorem dX11_missed_10 : decode cX11_missed 10 = .ok (.bipush 6, 2) := by decide +kernel
theorem dX11_missed_12 : decode cX11_missed 12 = .ok (.aload_n 0, 1) := by decide +kernel
theorem dX11_missed_13 : decode cX11_missed 13 = .ok (.getfield 124, 3) := by decide +kernel
theorem dX11_missed_16 : decode cX11_missed 16 = .ok (.imul, 1) := by decide +kernel
theorem dX11_missed_17 : decode cX11_missed 17 = .ok (.iadd, 1) := by decide +kernel
theorem dX11_missed_18 : decode cX11_missed 18 = .ok (.if_icmp .ge 36, 3) := by decide +kernel
theorem dX11_missed_21 : decode cX11_missed 21 = .ok (.iload_n 1, 1) := by decide +kernel
theorem dX11_missed_22 : decode cX11_missed 22 = .ok (.aload_n 0, 1) := by decide +kernel
theorem dX11_missed_23 : decode cX11_missed 23 = .ok (.getfield 7, 3) := by decide +kernel
theorem dX11_missed_26 : decode cX11_missed 26 = .ok (.iload_n 2, 1) := by decide +kernel
theorem dX11_missed_27 : decode cX11_missed 27 = .ok (.iconst 4, 1) := by decide +kernel
theorem dX11_missed_28 : decode cX11_missed 28 = .ok (.iadd, 1) := by decide +kernel
theorem dX11_missed_29 : decode cX11_missed 29 = .ok (.iaload, 1) := by decide +kernel
theorem dX11_missed_30 : decode cX11_missed 30 = .ok (.iconst 3, 1) := by decide +kernel
theorem dX11_missed_31 : decode cX11_missed 31 = .ok (.if_icmp .ne 14, 3) := by decide +kernel
theorem dX11_missed_34 : decode cX11_missed 34 = .ok (.aload_n 0, 1) := by decide +kernel
theorem dX11_missed_35 : decode cX11_missed 35 = .ok (.getfield 7, 3) := by decide +kernel
theorem dX11_missed_38 : decode cX11_missed 38 = .ok (.iload_n 2, 1) := by decide +kernel
theorem dX11_missed_39 : decode cX11_missed 39 = .ok (.iconst 2, 1) := by decide +kernel
theorem dX11_missed_40 : decode cX11_missed 40 = .ok (.iadd, 1) := by decide +kernel
theorem dX11_missed_41 : decode cX11_missed 41 = .ok (.iaload, 1) := by decide +kernel
theorem dX11_missed_42 : decode cX11_missed 42 = .ok (.goto 4, 3) := by decide +kernel
theorem dX11_missed_45 : decode cX11_missed 45 = .ok (.iconst 0, 1) := by decide +kernel
theorem dX11_missed_46 : decode cX11_missed 46 = .ok (.iadd, 1) := by decide +kernel
theorem dX11_missed_47 : decode cX11_missed 47 = .ok (.istore_n 1, 1) := by decide +kernel
theorem dX11_missed_48 : decode cX11_missed 48 = .ok (.iinc 2 6, 3) := by decide +kernel
theorem dX11_missed_51 : decode cX11_missed 51 = .ok (.goto (-45), 3) := by decide +kernel
theorem dX11_missed_54 : decode cX11_missed 54 = .ok (.iload_n 1, 1) := by decide +kernel
theorem dX11_missed_55 : decode cX11_missed 55 = .ok (.ireturn, 1) := by decide +kernel
theorem dX11_visitTold_0 : decode cX11_visitTold 0 = .ok (.aload_n 0, 1) := by decide +kernel
theorem dX11_visitTold_1 : decode cX11_visitTold 1 = .ok (.iload_n 1, 1) := by decide +kernel
theorem dX11_visitTold_2 : decode cX11_visitTold 2 = .ok (.invokevirtual 114, 3) := by decide +kernel
theorem dX11_visitTold_5 : decode cX11_visitTold 5 = .ok (.ifCond .ne 5, 3) := by decide +kernel
theorem dX11_visitTold_8 : decode cX11_visitTold 8 = .ok (.iconst (-1), 1) := by decide +kernel
theorem dX11_visitTold_9 : decode cX11_visitTold 9 = .ok (.ireturn, 1) := by decide +kernel
theorem dX11_visitTold_10 : decode cX11_visitTold 10 = .ok (.iconst 0, 1) := by decide +kernel
theorem dX11_visitTold_11 : decode cX11_visitTold 11 = .ok (.istore_n 3, 1) := by decide +kernel
theorem dX11_visitTold_12 : decode cX11_visitTold 12 = .ok (.iload_n 2, 1) := by decide +kernel
theorem dX11_visitTold_13 : decode cX11_visitTold 13 = .ok (.tableswitch 172 0 10 #[59, 66, 74, 82, 90, 96, 103, 111, 117, 159, 166], 59) := by decide +kernel
theorem dX11_visitTold_72 : decode cX11_visitTold 72 = .ok (.aload_n 0, 1) := by decide +kernel
theorem dX11_visitTold_73 : decode cX11_visitTold 73 = .ok (.iload_n 1, 1) := by decide +kernel
theorem dX11_visitTold_74 : decode cX11_visitTold 74 = .ok (.iconst 0, 1) := by decide +kernel
theorem dX11_visitTold_75 : decode cX11_visitTold 75 = .ok (.invokevirtual 106, 3) := by decide +kernel
theorem dX11_visitTold_78 : decode cX11_visitTold 78 = .ok (.ireturn, 1) := by decide +kernel
theorem dX11_visitTold_79 : decode cX11_visitTold 79 = .ok (.aload_n 0, 1) := by decide +kernel
theorem dX11_visitTold_80 : decode cX11_visitTold 80 = .ok (.iload_n 1, 1) := by decide +kernel
theorem dX11_visitTold_81 : decode cX11_visitTold 81 = .ok (.bipush 6, 2) := by decide +kernel
theorem dX11_visitTold_83 : decode cX11_visitTold 83 = .ok (.invokevirtual 106, 3) := by decide +kernel
theorem dX11_visitTold_86 : decode cX11_visitTold 86 = .ok (.ireturn, 1) := by decide +kernel
theorem dX11_visitTold_87 : decode cX11_visitTold 87 = .ok (.aload_n 0, 1) := by decide +kernel
theorem dX11_visitTold_88 : decode cX11_visitTold 88 = .ok (.iload_n 1, 1) := by decide +kernel
theorem dX11_visitTold_89 : decode cX11_visitTold 89 = .ok (.bipush 7, 2) := by decide +kernel
theorem dX11_visitTold_91 : decode cX11_visitTold 91 = .ok (.invokevirtual 106, 3) := by decide +kernel
theorem dX11_visitTold_94 : decode cX11_visitTold 94 = .ok (.ireturn, 1) := by decide +kernel
theorem dX11_visitTold_95 : decode cX11_visitTold 95 = .ok (.aload_n 0, 1) := by decide +kernel
theorem dX11_visitTold_96 : decode cX11_visitTold 96 = .ok (.iload_n 1, 1) := by decide +kernel
theorem dX11_visitTold_97 : decode cX11_visitTold 97 = .ok (.bipush 8, 2) := by decide +kernel
theorem dX11_visitTold_99 : decode cX11_visitTold 99 = .ok (.invokevirtual 106, 3) := by decide +kernel
theorem dX11_visitTold_102 : decode cX11_visitTold 102 = .ok (.ireturn, 1) := by decide +kernel
theorem dX11_visitTold_103 : decode cX11_visitTold 103 = .ok (.aload_n 0, 1) := by decide +kernel
theorem dX11_visitTold_104 : decode cX11_visitTold 104 = .ok (.iload_n 1, 1) := by decide +kernel
theorem dX11_visitTold_105 : decode cX11_visitTold 105 = .ok (.invokevirtual 110, 3) := by decide +kernel
theorem dX11_visitTold_108 : decode cX11_visitTold 108 = .ok (.ireturn, 1) := by decide +kernel
theorem dX11_visitTold_109 : decode cX11_visitTold 109 = .ok (.aload_n 0, 1) := by decide +kernel
theorem dX11_visitTold_110 : decode cX11_visitTold 110 = .ok (.iload_n 1, 1) := by decide +kernel
theorem dX11_visitTold_111 : decode cX11_visitTold 111 = .ok (.iconst 2, 1) := by decide +kernel
theorem dX11_visitTold_112 : decode cX11_visitTold 112 = .ok (.invokevirtual 106, 3) := by decide +kernel
theorem dX11_visitTold_115 : decode cX11_visitTold 115 = .ok (.ireturn, 1) := by decide +kernel
theorem dX11_visitTold_116 : decode cX11_visitTold 116 = .ok (.aload_n 0, 1) := by decide +kernel
theorem dX11_visitTold_117 : decode cX11_visitTold 117 = .ok (.iload_n 1, 1) := by decide +kernel
theorem dX11_visitTold_118 : decode cX11_visitTold 118 = .ok (.bipush 9, 2) := by decide +kernel
theorem dX11_visitTold_120 : decode cX11_visitTold 120 = .ok (.invokevirtual 106, 3) := by decide +kernel
theorem dX11_visitTold_123 : decode cX11_visitTold 123 = .ok (.ireturn, 1) := by decide +kernel
theorem dX11_visitTold_124 : decode cX11_visitTold 124 = .ok (.aload_n 0, 1) := by decide +kernel
theorem dX11_visitTold_125 : decode cX11_visitTold 125 = .ok (.iload_n 1, 1) := by decide +kernel
theorem dX11_visitTold_126 : decode cX11_visitTold 126 = .ok (.invokevirtual 263, 3) := by decide +kernel
theorem dX11_visitTold_129 : decode cX11_visitTold 129 = .ok (.ireturn, 1) := by decide +kernel
theorem dX11_visitTold_130 : decode cX11_visitTold 130 = .ok (.iconst 0, 1) := by decide +kernel
theorem dX11_visitTold_131 : decode cX11_visitTold 131 = .ok (.istore 4, 2) := by decide +kernel
theorem dX11_visitTold_133 : decode cX11_visitTold 133 = .ok (.iload 4, 2) := by decide +kernel
theorem dX11_visitTold_135 : decode cX11_visitTold 135 = .ok (.bipush 8, 2) := by decide +kernel
theorem dX11_visitTold_137 : decode cX11_visitTold 137 = .ok (.if_icmp .ge 33, 3) := by decide +kernel
theorem dX11_visitTold_140 : decode cX11_visitTold 140 = .ok (.iload_n 3, 1) := by decide +kernel
theorem dX11_visitTold_141 : decode cX11_visitTold 141 = .ok (.aload_n 0, 1) := by decide +kernel
theorem dX11_visitTold_142 : decode cX11_visitTold 142 = .ok (.iload_n 1, 1) := by decide +kernel
theorem dX11_visitTold_143 : decode cX11_visitTold 143 = .ok (.bipush 11, 2) := by decide +kernel
theorem dX11_visitTold_145 : decode cX11_visitTold 145 = .ok (.iload 4, 2) := by decide +kernel
theorem dX11_visitTold_147 : decode cX11_visitTold 147 = .ok (.iadd, 1) := by decide +kernel
theorem dX11_visitTold_148 : decode cX11_visitTold 148 = .ok (.invokevirtual 106, 3) := by decide +kernel
theorem dX11_visitTold_151 : decode cX11_visitTold 151 = .ok (.ifCond .le 10, 3) := by decide +kernel
theorem dX11_visitTold_154 : decode cX11_visitTold 154 = .ok (.iconst 1, 1) := by decide +kernel
theorem dX11_visitTold_155 : decode cX11_visitTold 155 = .ok (.iload 4, 2) := by decide +kernel
theorem dX11_visitTold_157 : decode cX11_visitTold 157 = .ok (.ishl, 1) := by decide +kernel
theorem dX11_visitTold_158 : decode cX11_visitTold 158 = .ok (.goto 4, 3) := by decide +kernel
theorem dX11_visitTold_161 : decode cX11_visitTold 161 = .ok (.iconst 0, 1) := by decide +kernel
theorem dX11_visitTold_162 : decode cX11_visitTold 162 = .ok (.ior, 1) := by decide +kernel
theorem dX11_visitTold_163 : decode cX11_visitTold 163 = .ok (.istore_n 3, 1) := by decide +kernel
theorem dX11_visitTold_164 : decode cX11_visitTold 164 = .ok (.iinc 4 1, 3) := by decide +kernel
theorem dX11_visitTold_167 : decode cX11_visitTold 167 = .ok (.goto (-34), 3) := by decide +kernel
theorem dX11_visitTold_170 : decode cX11_visitTold 170 = .ok (.iload_n 3, 1) := by decide +kernel
theorem dX11_visitTold_171 : decode cX11_visitTold 171 = .ok (.ireturn, 1) := by decide +kernel
theorem dX11_visitTold_172 : decode cX11_visitTold 172 = .ok (.aload_n 0, 1) := by decide +kernel
theorem dX11_visitTold_173 : decode cX11_visitTold 173 = .ok (.iload_n 1, 1) := by decide +kernel
theorem dX11_visitTold_174 : decode cX11_visitTold 174 = .ok (.iconst 4, 1) := by decide +kernel
theorem dX11_visitTold_175 : decode cX11_visitTold 175 = .ok (.invokevirtual 106, 3) := by decide +kernel
theorem dX11_visitTold_178 : decode cX11_visitTold 178 = .ok (.ireturn, 1) := by decide +kernel
theorem dX11_visitTold_179 : decode cX11_visitTold 179 = .ok (.aload_n 0, 1) := by decide +kernel
theorem dX11_visitTold_180 : decode cX11_visitTold 180 = .ok (.iload_n 1, 1) := by decide +kernel
theorem dX11_visitTold_181 : decode cX11_visitTold 181 = .ok (.invokevirtual 192, 3) := by decide +kernel
theorem dX11_visitTold_184 : decode cX11_visitTold 184 = .ok (.ireturn, 1) := by decide +kernel
theorem dX11_visitTold_185 : decode cX11_visitTold 185 = .ok (.bipush (-2), 2) := by decide +kernel
theorem dX11_visitTold_187 : decode cX11_visitTold 187 = .ok (.ireturn, 1) := by decide +kernel
theorem dX11_cause_0 : decode cX11_cause 0 = .ok (.aload_n 0, 1) := by decide +kernel
theorem dX11_cause_1 : decode cX11_cause 1 = .ok (.iload_n 1, 1) := by decide +kernel
theorem dX11_cause_2 : decode cX11_cause 2 = .ok (.invokevirtual 114, 3) := by decide +kernel
theorem dX11_cause_5 : decode cX11_cause 5 = .ok (.ifCond .ne 7, 3) := by decide +kernel
theorem dX11_cause_8 : decode cX11_cause 8 = .ok (.iconst (-1), 1) := by decide +kernel
theorem dX11_cause_9 : decode cX11_cause 9 = .ok (.goto 27, 3) := by decide +kernel
theorem dX11_cause_12 : decode cX11_cause 12 = .ok (.iload_n 2, 1) := by decide +kernel
theorem dX11_cause_13 : decode cX11_cause 13 = .ok (.iconst 0, 1) := by decide +kernel
theorem dX11_cause_14 : decode cX11_cause 14 = .ok (.bipush 8, 2) := by decide +kernel
theorem dX11_cause_16 : decode cX11_cause 16 = .ok (.invokestatic 99, 3) := by decide +kernel
theorem dX11_cause_19 : decode cX11_cause 19 = .ok (.ifCond .eq 15, 3) := by decide +kernel
theorem dX11_cause_22 : decode cX11_cause 22 = .ok (.aload_n 0, 1) := by decide +kernel
theorem dX11_cause_23 : decode cX11_cause 23 = .ok (.iload_n 1, 1) := by decide +kernel
theorem dX11_cause_24 : decode cX11_cause 24 = .ok (.bipush 19, 2) := by decide +kernel
theorem dX11_cause_26 : decode cX11_cause 26 = .ok (.iload_n 2, 1) := by decide +kernel
theorem dX11_cause_27 : decode cX11_cause 27 = .ok (.iadd, 1) := by decide +kernel
theorem dX11_cause_28 : decode cX11_cause 28 = .ok (.invokevirtual 106, 3) := by decide +kernel
theorem dX11_cause_31 : decode cX11_cause 31 = .ok (.goto 5, 3) := by decide +kernel
theorem dX11_cause_34 : decode cX11_cause 34 = .ok (.bipush (-2), 2) := by decide +kernel
theorem dX11_cause_36 : decode cX11_cause 36 = .ok (.ireturn, 1) := by decide +kernel
theorem dX11_feedTold_0 : decode cX11_feedTold 0 = .ok (.iload_n 1, 1) := by decide +kernel
theorem dX11_feedTold_1 : decode cX11_feedTold 1 = .ok (.iconst 0, 1) := by decide +kernel
theorem dX11_feedTold_2 : decode cX11_feedTold 2 = .ok (.aload_n 0, 1) := by decide +kernel
theorem dX11_feedTold_3 : decode cX11_feedTold 3 = .ok (.getfield 124, 3) := by decide +kernel
theorem dX11_feedTold_6 : decode cX11_feedTold 6 = .ok (.iconst 1, 1) := by decide +kernel
theorem dX11_feedTold_7 : decode cX11_feedTold 7 = .ok (.isub, 1) := by decide +kernel
theorem dX11_feedTold_8 : decode cX11_feedTold 8 = .ok (.invokestatic 99, 3) := by decide +kernel
theorem dX11_feedTold_11 : decode cX11_feedTold 11 = .ok (.ifCond .ne 5, 3) := by decide +kernel
theorem dX11_feedTold_14 : decode cX11_feedTold 14 = .ok (.iconst (-1), 1) := by decide +kernel
theorem dX11_feedTold_15 : decode cX11_feedTold 15 = .ok (.ireturn, 1) := by decide +kernel
theorem dX11_feedTold_16 : decode cX11_feedTold 16 = .ok (.sipush 360, 3) := by decide +kernel
theorem dX11_feedTold_19 : decode cX11_feedTold 19 = .ok (.bipush 6, 2) := by decide +kernel
theorem dX11_feedTold_21 : decode cX11_feedTold 21 = .ok (.iload_n 1, 1) := by decide +kernel
theorem dX11_feedTold_22 : decode cX11_feedTold 22 = .ok (.imul, 1) := by decide +kernel
theorem dX11_feedTold_23 : decode cX11_feedTold 23 = .ok (.iadd, 1) := by decide +kernel
theorem dX11_feedTold_24 : decode cX11_feedTold 24 = .ok (.istore_n 3, 1) := by decide +kernel
theorem dX11_feedTold_25 : decode cX11_feedTold 25 = .ok (.iload_n 2, 1) := by decide +kernel
theorem dX11_feedTold_26 : decode cX11_feedTold 26 = .ok (.tableswitch 61 0 4 #[34, 34, 34, 43, 52], 34) := by decide +kernel
theorem dX11_feedTold_60 : decode cX11_feedTold 60 = .ok (.aload_n 0, 1) := by decide +kernel
theorem dX11_feedTold_61 : decode cX11_feedTold 61 = .ok (.getfield 7, 3) := by decide +kernel
theorem dX11_feedTold_64 : decode cX11_feedTold 64 = .ok (.iload_n 3, 1) := by decide +kernel
theorem dX11_feedTold_65 : decode cX11_feedTold 65 = .ok (.iload_n 2, 1) := by decide +kernel
theorem dX11_feedTold_66 : decode cX11_feedTold 66 = .ok (.iadd, 1) := by decide +kernel
theorem dX11_feedTold_67 : decode cX11_feedTold 67 = .ok (.iaload, 1) := by decide +kernel
theorem dX11_feedTold_68 : decode cX11_feedTold 68 = .ok (.ireturn, 1) := by decide +kernel
theorem dX11_feedTold_69 : decode cX11_feedTold 69 = .ok (.aload_n 0, 1) := by decide +kernel
theorem dX11_feedTold_70 : decode cX11_feedTold 70 = .ok (.getfield 7, 3) := by decide +kernel
theorem dX11_feedTold_73 : decode cX11_feedTold 73 = .ok (.iload_n 3, 1) := by decide +kernel
theorem dX11_feedTold_74 : decode cX11_feedTold 74 = .ok (.iconst 4, 1) := by decide +kernel
theorem dX11_feedTold_75 : decode cX11_feedTold 75 = .ok (.iadd, 1) := by decide +kernel
theorem dX11_feedTold_76 : decode cX11_feedTold 76 = .ok (.iaload, 1) := by decide +kernel
theorem dX11_feedTold_77 : decode cX11_feedTold 77 = .ok (.ireturn, 1) := by decide +kernel
theorem dX11_feedTold_78 : decode cX11_feedTold 78 = .ok (.aload_n 0, 1) := by decide +kernel
theorem dX11_feedTold_79 : decode cX11_feedTold 79 = .ok (.getfield 7, 3) := by decide +kernel
theorem dX11_feedTold_82 : decode cX11_feedTold 82 = .ok (.iload_n 3, 1) := by decide +kernel
theorem dX11_feedTold_83 : decode cX11_feedTold 83 = .ok (.iconst 5, 1) := by decide +kernel
theorem dX11_feedTold_84 : decode cX11_feedTold 84 = .ok (.iadd, 1) := by decide +kernel
theorem dX11_feedTold_85 : decode cX11_feedTold 85 = .ok (.iaload, 1) := by decide +kernel
theorem dX11_feedTold_86 : decode cX11_feedTold 86 = .ok (.ireturn, 1) := by decide +kernel
theorem dX11_feedTold_87 : decode cX11_feedTold 87 = .ok (.bipush (-2), 2) := by decide +kernel
theorem dX11_feedTold_89 : decode cX11_feedTold 89 = .ok (.ireturn, 1) := by decide +kernel
section WK
variable {p : Program} {l : Launch} {e : Env} {s : State} {m : MethodId} {args : Array Value} {below : List Frame} {meth : Method} {c : Code}
set_option maxHeartbeats 4000000 in
set_option maxRecDepth 20000 in
theorem kX11_two (l : Launch) {k : En} {S : Nat → Prop} (hS : ∀ t, S t) {g0 : Mm} {a0 : Int32} {a1 : Int32} {a2 : Int32} {res : Int32} (hf : fX11_two g0 a0 a1 a2 = some res) : Mt l yX11_two cX11_two 3 (some .int) (RmN 0 0) YR S k [.int a0, .int a1, .int a2] g0 (some (.int res)) g0 := by
  refine Mt.of (by decide) (Nat.le_of_ble_eq_true rfl) ?_
  intro p e s m args below meth c ls X _ h hl
  have X : Cx YR S k p s m args meth c cX11_two 3 (some .int) RX11 := X
  have hl : lv_has ls 3 [(0, .int a0), (1, .int a1), (2, .int a2)] := hl
  have JR : res = res := rfl
  unfold fX11_two at hf
  refine lv_iload_n X.x X.b dX11_two_0 rfl (lv_at hl 0 rfl) ?_
  by_cases c1 : a0 = (11 : Int32)
  · have hf := wT c1 hf
    refine lv_tableIn (off := 43) (tgt := 44) X.x X.b dX11_two_1 (by rw [c1]; decide) (by rw [c1]; decide) (by rw [c1]; rfl) (by decide) ?_
    refine lv_iload_n X.x X.b dX11_two_44 rfl (lv_at hl 1 rfl) ?_
    refine lv_if_ne (tgt := 52) X.x X.b dX11_two_45 (by decide) (fun c2 => ?_) (fun c2 => ?_)
    · have hf := wF c2 hf
      refine lv_iconst (v := 1) X.x X.b dX11_two_52 (by decide) ?_
      refine lv_goto (tgt := 57) X.x X.b dX11_two_53 (by decide) ?_
      cases (Option.some.inj hf).trans JR
      exact ro_iret X h dX11_two_57
    · have hf := wT c2 hf
      refine lv_iload_n X.x X.b dX11_two_48 rfl (lv_at hl 2 rfl) ?_
      refine lv_if_eq (tgt := 56) X.x X.b dX11_two_49 (by decide) (fun c3 => ?_) (fun c3 => ?_)
      · have hf := wT c3 hf
        refine lv_iconst (v := 0) X.x X.b dX11_two_56 (by decide) ?_
        cases (Option.some.inj hf).trans JR
        exact ro_iret X h dX11_two_57
      · have hf := wF c3 hf
        refine lv_iconst (v := 1) X.x X.b dX11_two_52 (by decide) ?_
        refine lv_goto (tgt := 57) X.x X.b dX11_two_53 (by decide) ?_
        cases (Option.some.inj hf).trans JR
        exact ro_iret X h dX11_two_57
  · have hf := wF c1 hf
    by_cases c4 : a0 = (12 : Int32)
    · have hf := wT c4 hf
      refine lv_tableIn (off := 57) (tgt := 58) X.x X.b dX11_two_1 (by rw [c4]; decide) (by rw [c4]; decide) (by rw [c4]; rfl) (by decide) ?_
      refine lv_iload_n X.x X.b dX11_two_58 rfl (lv_at hl 1 rfl) ?_
      refine lv_if_eq (tgt := 70) X.x X.b dX11_two_59 (by decide) (fun c5 => ?_) (fun c5 => ?_)
      · have hf := wT c5 hf
        refine lv_iconst (v := 0) X.x X.b dX11_two_70 (by decide) ?_
        cases (Option.some.inj hf).trans JR
        exact ro_iret X h dX11_two_71
      · have hf := wF c5 hf
        refine lv_iload_n X.x X.b dX11_two_62 rfl (lv_at hl 2 rfl) ?_
        refine lv_if_eq (tgt := 70) X.x X.b dX11_two_63 (by decide) (fun c6 => ?_) (fun c6 => ?_)
        · have hf := wT c6 hf
          refine lv_iconst (v := 0) X.x X.b dX11_two_70 (by decide) ?_
          cases (Option.some.inj hf).trans JR
          exact ro_iret X h dX11_two_71
        · have hf := wF c6 hf
          refine lv_iconst (v := 1) X.x X.b dX11_two_66 (by decide) ?_
          refine lv_goto (tgt := 71) X.x X.b dX11_two_67 (by decide) ?_
          cases (Option.some.inj hf).trans JR
          exact ro_iret X h dX11_two_71
    · have hf := wF c4 hf
      by_cases c7 : a0 = (13 : Int32)
      · have hf := wT c7 hf
        refine lv_tableIn (off := 101) (tgt := 102) X.x X.b dX11_two_1 (by rw [c7]; decide) (by rw [c7]; decide) (by rw [c7]; rfl) (by decide) ?_
        refine lv_iload_n X.x X.b dX11_two_102 rfl (lv_at hl 1 rfl) ?_
        refine lv_iload_n X.x X.b dX11_two_103 rfl (lv_at hl 2 rfl) ?_
        refine lv_imul X.x X.b dX11_two_104 ?_
        cases (Option.some.inj hf).trans JR
        exact ro_iret X h dX11_two_105
      · have hf := wF c7 hf
        by_cases c8 : a0 = (14 : Int32)
        · have hf := wT c8 hf
          refine lv_tableIn (off := 71) (tgt := 72) X.x X.b dX11_two_1 (by rw [c8]; decide) (by rw [c8]; decide) (by rw [c8]; rfl) (by decide) ?_
          refine lv_iload_n X.x X.b dX11_two_72 rfl (lv_at hl 1 rfl) ?_
          refine lv_iload_n X.x X.b dX11_two_73 rfl (lv_at hl 2 rfl) ?_
          refine lv_icmp_ge (tgt := 81) X.x X.b dX11_two_74 (by decide) (fun c9 => ?_) (fun c9 => ?_)
          · have hf := wT c9 hf
            refine lv_iconst (v := 0) X.x X.b dX11_two_81 (by decide) ?_
            cases (Option.some.inj hf).trans JR
            exact ro_iret X h dX11_two_82
          · have hf := wF c9 hf
            refine lv_iconst (v := 1) X.x X.b dX11_two_77 (by decide) ?_
            refine lv_goto (tgt := 82) X.x X.b dX11_two_78 (by decide) ?_
            cases (Option.some.inj hf).trans JR
            exact ro_iret X h dX11_two_82
        · have hf := wF c8 hf
          by_cases c10 : a0 = (15 : Int32)
          · have hf := wT c10 hf
            refine lv_tableIn (off := 82) (tgt := 83) X.x X.b dX11_two_1 (by rw [c10]; decide) (by rw [c10]; decide) (by rw [c10]; rfl) (by decide) ?_
            refine lv_iload_n X.x X.b dX11_two_83 rfl (lv_at hl 1 rfl) ?_
            refine lv_iload_n X.x X.b dX11_two_84 rfl (lv_at hl 2 rfl) ?_
            refine lv_icmp_ne (tgt := 92) X.x X.b dX11_two_85 (by decide) (fun c11 => ?_) (fun c11 => ?_)
            · have hf := wF c11 hf
              refine lv_iconst (v := 0) X.x X.b dX11_two_92 (by decide) ?_
              cases (Option.some.inj hf).trans JR
              exact ro_iret X h dX11_two_93
            · have hf := wT c11 hf
              refine lv_iconst (v := 1) X.x X.b dX11_two_88 (by decide) ?_
              refine lv_goto (tgt := 93) X.x X.b dX11_two_89 (by decide) ?_
              cases (Option.some.inj hf).trans JR
              exact ro_iret X h dX11_two_93
          · have hf := wF c10 hf
            by_cases c12 : a0 = (16 : Int32)
            · have hf := wT c12 hf
              refine lv_tableIn (off := 93) (tgt := 94) X.x X.b dX11_two_1 (by rw [c12]; decide) (by rw [c12]; decide) (by rw [c12]; rfl) (by decide) ?_
              refine lv_iload_n X.x X.b dX11_two_94 rfl (lv_at hl 1 rfl) ?_
              refine lv_iload_n X.x X.b dX11_two_95 rfl (lv_at hl 2 rfl) ?_
              refine lv_iadd X.x X.b dX11_two_96 ?_
              cases (Option.some.inj hf).trans JR
              exact ro_iret X h dX11_two_97
            · have hf := wF c12 hf
              by_cases c13 : a0 = (17 : Int32)
              · have hf := wT c13 hf
                refine lv_tableIn (off := 97) (tgt := 98) X.x X.b dX11_two_1 (by rw [c13]; decide) (by rw [c13]; decide) (by rw [c13]; rfl) (by decide) ?_
                refine lv_iload_n X.x X.b dX11_two_98 rfl (lv_at hl 1 rfl) ?_
                refine lv_iload_n X.x X.b dX11_two_99 rfl (lv_at hl 2 rfl) ?_
                refine lv_isub X.x X.b dX11_two_100 ?_
                cases (Option.some.inj hf).trans JR
                exact ro_iret X h dX11_two_101
              · have hf := wF c13 hf
                refine lv_tableOut (tgt := 102) X.x X.b dX11_two_1 (by have q0 := lv_neT c1 (a := 11) rfl; have q1 := lv_neT c4 (a := 12) rfl; have q2 := lv_neT c7 (a := 13) rfl; have q3 := lv_neT c8 (a := 14) rfl; have q4 := lv_neT c10 (a := 15) rfl; have q5 := lv_neT c12 (a := 16) rfl; have q6 := lv_neT c13 (a := 17) rfl; omega) (by decide) ?_
                refine lv_iload_n X.x X.b dX11_two_102 rfl (lv_at hl 1 rfl) ?_
                refine lv_iload_n X.x X.b dX11_two_103 rfl (lv_at hl 2 rfl) ?_
                refine lv_imul X.x X.b dX11_two_104 ?_
                cases (Option.some.inj hf).trans JR
                exact ro_iret X h dX11_two_105
set_option maxHeartbeats 4000000 in
set_option maxRecDepth 20000 in
theorem wX11_worth_b204 {k : En} {S : Nat → Prop} (hS : ∀ t, S t) {a1 : Int32} {a2 : Int32} {a3 : Int32} {res : Mm × Int32} (X : Cx YR S k p s m args meth c cX11_worth 7 (some .int) RX11) {g : Mm} {x4 : Int32} {x5 : Int32} {H : Heap} {locs : List Loc} {ls : Array Slot} (h : Hx YR S k s g H locs) (hl : lv_has ls 7 [(0, .ref (k.1 + adR 0 0 0)), (1, .int a1), (2, .int a2), (3, .int a3), (4, .int x4), (5, .int x5)]) {r : (Mm × Int32 × Int32) ⊕ (Mm × Int32)} (hf : fX11_worth_b204 g a1 a2 a3 x4 x5 = some r) (J1 : ∀ (g : Mm) (x4 : Int32) (x5 : Int32), r = .inl (g, x4, x5) → ∀ (H : Heap) (locs : List Loc) (ls : Array Slot), Hx YR S k s g H locs → lv_has ls 7 [(0, .ref (k.1 + adR 0 0 0)), (1, .int a1), (2, .int a2), (3, .int a3), (4, .int x4), (5, .int x5)] → W p l e (RmN 4 87) s m args below meth c H locs 0 0 (Fin YR S k args s below (some (.int res.2)) res.1) (F0 m 18 ls [])) (JR : ∀ t1, r = .inr t1 → t1 = res) :
    W p l e (RmN 4 87) s m args below meth c H locs 0 0 (Fin YR S k args s below (some (.int res.2)) res.1) (F0 m 204 ls []) := by
  unfold fX11_worth_b204 at hf
  obtain ⟨y21, e22, hf⟩ := wLe_s hf
  refine lv_iinc (v := y21) (lv' := [(5, .int y21), (0, .ref (k.1 + adR 0 0 0)), (1, .int a1), (2, .int a2), (3, .int a3), (4, .int x4)]) X.x X.b dX11_worth_204 hl (k := 5) rfl (by rw [e22]; rfl) (by decide) rfl (fun ls hl => ?_)
  refine lv_goto (tgt := 18) X.x X.b dX11_worth_207 (by decide) ?_
  exact J1 _ _ _ (Option.some.inj hf).symm _ _ _ h (lv_sub hl [1, 2, 3, 4, 5, 0] rfl)
set_option maxHeartbeats 4000000 in
set_option maxRecDepth 20000 in
theorem wX11_worth_b99 {k : En} {S : Nat → Prop} (hS : ∀ t, S t) {a1 : Int32} {a2 : Int32} {a3 : Int32} {res : Mm × Int32} (X : Cx YR S k p s m args meth c cX11_worth 7 (some .int) RX11) {g : Mm} {x4 : Int32} {x5 : Int32} {z1 : Int32} {z2 : Int32} {H : Heap} {locs : List Loc} {ls : Array Slot} (h : Hx YR S k s g H locs) (hl : lv_has ls 7 [(0, .ref (k.1 + adR 0 0 0)), (1, .int a1), (2, .int a2), (3, .int a3), (4, .int x4), (5, .int x5)]) {r : (Mm × Int32 × Int32) ⊕ (Mm × Int32)} (hf : fX11_worth_b99 g a1 a2 a3 x4 x5 z1 z2 = some r) (J1 : ∀ (g : Mm) (x4 : Int32) (x5 : Int32), r = .inl (g, x4, x5) → ∀ (H : Heap) (locs : List Loc) (ls : Array Slot), Hx YR S k s g H locs → lv_has ls 7 [(0, .ref (k.1 + adR 0 0 0)), (1, .int a1), (2, .int a2), (3, .int a3), (4, .int x4), (5, .int x5)] → W p l e (RmN 4 87) s m args below meth c H locs 0 0 (Fin YR S k args s below (some (.int res.2)) res.1) (F0 m 18 ls [])) (JR : ∀ t1, r = .inr t1 → t1 = res) :
    W p l e (RmN 4 87) s m args below meth c H locs 0 0 (Fin YR S k args s below (some (.int res.2)) res.1) (F0 m 99 ls [.int z2, .int z1, .ref (k.1 + adR 20 0 0)]) := by
  unfold fX11_worth_b99 at hf
  obtain ⟨b16, hf⟩ := wGi_s hf
  obtain ⟨g17, e18, hf⟩ := wLe_s hf
  refine bR_20 X h (hS 20) Nat.one_pos Nat.one_pos e18 b16 dX11_worth_99 (fun H locs h => ?_)
  obtain ⟨y19, e20, hf⟩ := wLe_s hf
  refine lv_iinc (v := y19) (lv' := [(4, .int y19), (0, .ref (k.1 + adR 0 0 0)), (1, .int a1), (2, .int a2), (3, .int a3), (5, .int x5)]) X.x X.b dX11_worth_100 hl (k := 4) rfl (by rw [e20]; rfl) (by decide) rfl (fun ls hl => ?_)
  refine lv_goto (tgt := 204) X.x X.b dX11_worth_103 (by decide) ?_
  exact wX11_worth_b204 hS X h (lv_sub hl [1, 2, 3, 4, 0, 5] rfl) hf J1 JR
set_option maxHeartbeats 4000000 in
set_option maxRecDepth 20000 in
theorem wX11_worth_b70 {k : En} {S : Nat → Prop} (hS : ∀ t, S t) {a1 : Int32} {a2 : Int32} {a3 : Int32} {res : Mm × Int32} (X : Cx YR S k p s m args meth c cX11_worth 7 (some .int) RX11) {g : Mm} {x4 : Int32} {x5 : Int32} {x6 : Int32} {H : Heap} {locs : List Loc} {ls : Array Slot} (h : Hx YR S k s g H locs) (hl : lv_has ls 7 [(0, .ref (k.1 + adR 0 0 0)), (1, .int a1), (2, .int a2), (3, .int a3), (4, .int x4), (5, .int x5), (6, .int x6)]) {r : (Mm × Int32 × Int32) ⊕ (Mm × Int32)} (hf : fX11_worth_b70 g a1 a2 a3 x4 x5 x6 = some r) (J1 : ∀ (g : Mm) (x4 : Int32) (x5 : Int32), r = .inl (g, x4, x5) → ∀ (H : Heap) (locs : List Loc) (ls : Array Slot), Hx YR S k s g H locs → lv_has ls 7 [(0, .ref (k.1 + adR 0 0 0)), (1, .int a1), (2, .int a2), (3, .int a3), (4, .int x4), (5, .int x5)] → W p l e (RmN 4 87) s m args below meth c H locs 0 0 (Fin YR S k args s below (some (.int res.2)) res.1) (F0 m 18 ls [])) (JR : ∀ t1, r = .inr t1 → t1 = res) :
    W p l e (RmN 4 87) s m args below meth c H locs 0 0 (Fin YR S k args s below (some (.int res.2)) res.1) (F0 m 70 ls []) := by
  unfold fX11_worth_b70 at hf
  refine lv_aload_n X.x X.b dX11_worth_70 rfl (lv_at hl 0 rfl) ?_
  refine gR_0_34 X h (hS 0) Nat.one_pos Nat.one_pos lk_X11_83 dX11_worth_71 ?_
  refine lv_iload X.x X.b dX11_worth_74 (lv_at hl 4 rfl) ?_
  refine lv_iload X.x X.b dX11_worth_76 (lv_at hl 6 rfl) ?_
  refine lv_bipush (v := 7) X.x X.b dX11_worth_78 (by decide) ?_
  refine lv_icmp_gt (tgt := 94) X.x X.b dX11_worth_80 (by decide) (fun c15 => ?_) (fun c15 => ?_)
  · have hf := wT c15 hf
    refine lv_iload X.x X.b dX11_worth_94 (lv_at hl 6 rfl) ?_
    refine ro_ldc X lc_X11_37 dX11_worth_96 ?_
    refine lv_isub X.x X.b dX11_worth_98 ?_
    exact wX11_worth_b99 hS X h (lv_sub hl [0, 1, 2, 3, 4, 5] rfl) hf J1 JR
  · have hf := wF c15 hf
    refine lv_aload_n X.x X.b dX11_worth_83 rfl (lv_at hl 0 rfl) ?_
    refine lv_iload X.x X.b dX11_worth_84 (lv_at hl 6 rfl) ?_
    refine lv_iload_n X.x X.b dX11_worth_86 rfl (lv_at hl 2 rfl) ?_
    refine lv_iload_n X.x X.b dX11_worth_87 rfl (lv_at hl 3 rfl) ?_
    obtain ⟨y24, e23, hf⟩ := wBd_s hf
    refine ro_callvI (As := [.int x6, .int a2, .int a3]) (g1 := g) (x := y24) X h (kX11_named l hS e23) mv_X11_named lk_X11_195 ⟨rfl, rfl⟩ ⟨(Nat.le_of_ble_eq_true rfl), (Nat.le_of_ble_eq_true rfl)⟩ (rR_0 X h (hS 0) Nat.one_pos Nat.one_pos) rfl hl rfl (Nat.le_of_ble_eq_true rfl) ⟨Nat.zero_le _, Nat.zero_le _⟩ dX11_worth_88 (fun H locs h => ?_)
    refine lv_goto (tgt := 99) X.x X.b dX11_worth_91 (by decide) ?_
    exact wX11_worth_b99 hS X h (lv_sub hl [0, 1, 2, 3, 4, 5] rfl) hf J1 JR
set_option maxHeartbeats 4000000 in
set_option maxRecDepth 20000 in
theorem wX11_worth_b138 {k : En} {S : Nat → Prop} (hS : ∀ t, S t) {a1 : Int32} {a2 : Int32} {a3 : Int32} {res : Mm × Int32} (X : Cx YR S k p s m args meth c cX11_worth 7 (some .int) RX11) {g : Mm} {x4 : Int32} {x5 : Int32} {z1 : Int32} {z2 : Int32} {H : Heap} {locs : List Loc} {ls : Array Slot} (h : Hx YR S k s g H locs) (hl : lv_has ls 7 [(0, .ref (k.1 + adR 0 0 0)), (1, .int a1), (2, .int a2), (3, .int a3), (4, .int x4), (5, .int x5)]) {r : (Mm × Int32 × Int32) ⊕ (Mm × Int32)} (hf : fX11_worth_b138 g a1 a2 a3 x4 x5 z1 z2 = some r) (J1 : ∀ (g : Mm) (x4 : Int32) (x5 : Int32), r = .inl (g, x4, x5) → ∀ (H : Heap) (locs : List Loc) (ls : Array Slot), Hx YR S k s g H locs → lv_has ls 7 [(0, .ref (k.1 + adR 0 0 0)), (1, .int a1), (2, .int a2), (3, .int a3), (4, .int x4), (5, .int x5)] → W p l e (RmN 4 87) s m args below meth c H locs 0 0 (Fin YR S k args s below (some (.int res.2)) res.1) (F0 m 18 ls [])) (JR : ∀ t1, r = .inr t1 → t1 = res) :
    W p l e (RmN 4 87) s m args below meth c H locs 0 0 (Fin YR S k args s below (some (.int res.2)) res.1) (F0 m 138 ls [.int z2, .int z1, .ref (k.1 + adR 20 0 0)]) := by
  unfold fX11_worth_b138 at hf
  obtain ⟨b43, hf⟩ := wGi_s hf
  obtain ⟨g44, e45, hf⟩ := wLe_s hf
  refine bR_20 X h (hS 20) Nat.one_pos Nat.one_pos e45 b43 dX11_worth_138 (fun H locs h => ?_)
  refine lv_goto (tgt := 204) X.x X.b dX11_worth_139 (by decide) ?_
  exact wX11_worth_b204 hS X h (lv_sub hl [0, 1, 2, 3, 4, 5] rfl) hf J1 JR
set_option maxHeartbeats 4000000 in
set_option maxRecDepth 20000 in
theorem wX11_worth_L18 {k : En} {S : Nat → Prop} (hS : ∀ t, S t) {a1 : Int32} {a2 : Int32} {a3 : Int32} {res : Mm × Int32} (X : Cx YR S k p s m args meth c cX11_worth 7 (some .int) RX11) {r : Mm × Int32} (JR : r = res) :
    ∀ (fu : Nat) (g : Mm) (x4 : Int32) (x5 : Int32) (H : Heap) (locs : List Loc) (ls : Array Slot), Hx YR S k s g H locs → lv_has ls 7 [(0, .ref (k.1 + adR 0 0 0)), (1, .int a1), (2, .int a2), (3, .int a3), (4, .int x4), (5, .int x5)] → wLp (fun q => fX11_worth_B18 q.1 a1 a2 a3 q.2.1 q.2.2) fu (g, x4, x5) = some r → W p l e (RmN 4 87) s m args below meth c H locs 0 0 (Fin YR S k args s below (some (.int res.2)) res.1) (F0 m 18 ls []) := by
  intro fu
  induction fu with
  | zero => intro g x4 x5 H locs ls h hl hf; exact (wLp_0 hf).elim
  | succ fu ih1 =>
    intro g x4 x5 H locs ls h hl hf
    obtain ⟨r1, hf, hr⟩ := wLp_s hf
    have J1n : ∀ (g : Mm) (x4 : Int32) (x5 : Int32), r1 = .inl (g, x4, x5) → ∀ (H : Heap) (locs : List Loc) (ls : Array Slot), Hx YR S k s g H locs → lv_has ls 7 [(0, .ref (k.1 + adR 0 0 0)), (1, .int a1), (2, .int a2), (3, .int a3), (4, .int x4), (5, .int x5)] → W p l e (RmN 4 87) s m args below meth c H locs 0 0 (Fin YR S k args s below (some (.int res.2)) res.1) (F0 m 18 ls []) := fun g x4 x5 q H locs ls h hl => by subst q; exact ih1 _ _ _ _ _ _ h hl hr
    have JRn : ∀ t1, r1 = .inr t1 → t1 = res := fun t1 q => by subst q; obtain rfl := Option.some.inj hr; exact JR
    have J1 := J1n
    have JR := JRn
    clear J1n JRn
    have hf : fX11_worth_B18 g a1 a2 a3 x4 x5 = some r1 := hf
    unfold fX11_worth_B18 at hf
    refine lv_iload X.x X.b dX11_worth_18 (lv_at hl 5 rfl) ?_
    refine lv_aload_n X.x X.b dX11_worth_20 rfl (lv_at hl 0 rfl) ?_
    refine gR_0_15 X h (hS 0) Nat.one_pos Nat.one_pos lk_X11_31 dX11_worth_21 ?_
    refine lv_iconst (v := 4) X.x X.b dX11_worth_24 (by decide) ?_
    refine lv_aload_n X.x X.b dX11_worth_25 rfl (lv_at hl 0 rfl) ?_
    refine gR_0_13 X h (hS 0) Nat.one_pos Nat.one_pos lk_X11_186 dX11_worth_26 ?_
    refine lv_imul X.x X.b dX11_worth_29 ?_
    refine lv_iload_n X.x X.b dX11_worth_30 rfl (lv_at hl 1 rfl) ?_
    refine lv_iadd X.x X.b dX11_worth_31 ?_
    refine lv_iconst (v := 1) X.x X.b dX11_worth_32 (by decide) ?_
    refine lv_iadd X.x X.b dX11_worth_33 ?_
    obtain ⟨b6, hf⟩ := wGi_s hf
    refine aR_8 X h (hS 8) Nat.one_pos Nat.one_pos b6 dX11_worth_34 ?_
    refine lv_icmp_ge (tgt := 210) X.x X.b dX11_worth_35 (by decide) (fun c7 => ?_) (fun c7 => ?_)
    · have hf := wT c7 hf
      obtain ⟨t8, hf, e9⟩ := wEx_s hf
      have JR := JR t8 e9
      refine lv_aload_n X.x X.b dX11_worth_210 rfl (lv_at hl 0 rfl) ?_
      refine gR_0_34 X h (hS 0) Nat.one_pos Nat.one_pos lk_X11_83 dX11_worth_211 ?_
      refine lv_iconst (v := 0) X.x X.b dX11_worth_214 (by decide) ?_
      obtain ⟨b10, hf⟩ := wGi_s hf
      refine aR_20 X h (hS 20) Nat.one_pos Nat.one_pos b10 dX11_worth_215 ?_
      cases (Option.some.inj hf).trans JR
      exact ro_iret X h dX11_worth_216
    · have hf := wF c7 hf
      refine lv_aload_n X.x X.b dX11_worth_38 rfl (lv_at hl 0 rfl) ?_
      refine gR_0_14 X h (hS 0) Nat.one_pos Nat.one_pos lk_X11_28 dX11_worth_39 ?_
      refine lv_sipush (v := 200) X.x X.b dX11_worth_42 (by decide) ?_
      refine lv_aload_n X.x X.b dX11_worth_45 rfl (lv_at hl 0 rfl) ?_
      refine gR_0_13 X h (hS 0) Nat.one_pos Nat.one_pos lk_X11_186 dX11_worth_46 ?_
      refine lv_imul X.x X.b dX11_worth_49 ?_
      refine lv_iload X.x X.b dX11_worth_50 (lv_at hl 5 rfl) ?_
      refine lv_iadd X.x X.b dX11_worth_52 ?_
      obtain ⟨b11, hf⟩ := wGi_s hf
      refine aR_7 X h (hS 7) Nat.one_pos Nat.one_pos b11 dX11_worth_53 ?_
      obtain ⟨y12, e13, hf⟩ := wLe_s hf
      refine lv_nmi e13 ?_
      refine lv_istore (lv' := [(6, .int y12), (0, .ref (k.1 + adR 0 0 0)), (1, .int a1), (2, .int a2), (3, .int a3), (4, .int x4), (5, .int x5)]) X.x X.b dX11_worth_54 hl (by decide) rfl (fun ls hl => ?_)
      refine lv_iload X.x X.b dX11_worth_56 (lv_at hl 0 rfl) ?_
      refine ro_ldc X lc_X11_37 dX11_worth_58 ?_
      refine lv_icmp_ge (tgt := 70) X.x X.b dX11_worth_60 (by decide) (fun c14 => ?_) (fun c14 => ?_)
      · have hf := wT c14 hf
        exact wX11_worth_b70 hS X h (lv_sub hl [1, 2, 3, 4, 5, 6, 0] rfl) hf J1 JR
      · have hf := wF c14 hf
        refine lv_iload X.x X.b dX11_worth_63 (lv_at hl 0 rfl) ?_
        refine lv_bipush (v := 7) X.x X.b dX11_worth_65 (by decide) ?_
        refine lv_icmp_gt (tgt := 106) X.x X.b dX11_worth_67 (by decide) (fun c25 => ?_) (fun c25 => ?_)
        · have hf := wT c25 hf
          refine lv_iload X.x X.b dX11_worth_106 (lv_at hl 0 rfl) ?_
          refine lv_bipush (v := 13) X.x X.b dX11_worth_108 (by decide) ?_
          refine lv_icmp_ne (tgt := 142) X.x X.b dX11_worth_110 (by decide) (fun c26 => ?_) (fun c26 => ?_)
          · have hf := wF c26 hf
            refine lv_iload X.x X.b dX11_worth_142 (lv_at hl 0 rfl) ?_
            refine lv_bipush (v := 19) X.x X.b dX11_worth_144 (by decide) ?_
            refine lv_icmp_ne (tgt := 171) X.x X.b dX11_worth_146 (by decide) (fun c27 => ?_) (fun c27 => ?_)
            · have hf := wF c27 hf
              obtain ⟨y28, e29, hf⟩ := wLe_s hf
              refine lv_iinc (v := y28) (lv' := [(4, .int y28), (6, .int y12), (0, .ref (k.1 + adR 0 0 0)), (1, .int a1), (2, .int a2), (3, .int a3), (5, .int x5)]) X.x X.b dX11_worth_171 hl (k := 5) rfl (by rw [e29]; rfl) (by decide) rfl (fun ls hl => ?_)
              refine lv_aload_n X.x X.b dX11_worth_174 rfl (lv_at hl 2 rfl) ?_
              refine gR_0_34 X h (hS 0) Nat.one_pos Nat.one_pos lk_X11_83 dX11_worth_175 ?_
              refine lv_iload X.x X.b dX11_worth_178 (lv_at hl 0 rfl) ?_
              refine lv_iconst (v := 1) X.x X.b dX11_worth_180 (by decide) ?_
              refine lv_isub X.x X.b dX11_worth_181 ?_
              refine lv_iload X.x X.b dX11_worth_182 (lv_at hl 1 rfl) ?_
              refine lv_aload_n X.x X.b dX11_worth_184 rfl (lv_at hl 2 rfl) ?_
              refine gR_0_34 X h (hS 0) Nat.one_pos Nat.one_pos lk_X11_83 dX11_worth_185 ?_
              refine lv_iload X.x X.b dX11_worth_188 (lv_at hl 0 rfl) ?_
              refine lv_iconst (v := 1) X.x X.b dX11_worth_190 (by decide) ?_
              refine lv_isub X.x X.b dX11_worth_191 ?_
              obtain ⟨b30, hf⟩ := wGi_s hf
              refine aR_20 X h (hS 20) Nat.one_pos Nat.one_pos b30 dX11_worth_192 ?_
              refine lv_aload_n X.x X.b dX11_worth_193 rfl (lv_at hl 2 rfl) ?_
              refine gR_0_34 X h (hS 0) Nat.one_pos Nat.one_pos lk_X11_83 dX11_worth_194 ?_
              refine lv_iload X.x X.b dX11_worth_197 (lv_at hl 0 rfl) ?_
              obtain ⟨b31, hf⟩ := wGi_s hf
              refine aR_20 X h (hS 20) Nat.one_pos Nat.one_pos b31 dX11_worth_199 ?_
              obtain ⟨y33, e32, hf⟩ := wBd_s hf
              refine ro_callsI (As := [.int y12, .int (g 20 0 0 (y28 - (1 : Int32)).toNatClampNeg), .int (g 20 0 0 (y28).toNatClampNeg)]) (g1 := g) (x := y33) X h (kX11_two l hS e32) mv_X11_two lk_X11_199 ⟨rfl, rfl⟩ ⟨(Nat.le_of_ble_eq_true rfl), (Nat.le_of_ble_eq_true rfl)⟩ rfl hl rfl (Nat.le_of_ble_eq_true rfl) ⟨Nat.zero_le _, Nat.zero_le _⟩ dX11_worth_200 (fun H locs h => ?_)
              obtain ⟨b34, hf⟩ := wGi_s hf
              obtain ⟨g35, e36, hf⟩ := wLe_s hf
              refine bR_20 X h (hS 20) Nat.one_pos Nat.one_pos e36 b34 dX11_worth_203 (fun H locs h => ?_)
              exact wX11_worth_b204 hS X h (lv_sub hl [2, 3, 4, 5, 0, 6] rfl) hf J1 JR
            · have hf := wT c27 hf
              refine lv_aload_n X.x X.b dX11_worth_149 rfl (lv_at hl 1 rfl) ?_
              refine gR_0_34 X h (hS 0) Nat.one_pos Nat.one_pos lk_X11_83 dX11_worth_150 ?_
              refine lv_iload X.x X.b dX11_worth_153 (lv_at hl 5 rfl) ?_
              refine lv_iconst (v := 1) X.x X.b dX11_worth_155 (by decide) ?_
              refine lv_isub X.x X.b dX11_worth_156 ?_
              refine lv_aload_n X.x X.b dX11_worth_157 rfl (lv_at hl 1 rfl) ?_
              refine gR_0_34 X h (hS 0) Nat.one_pos Nat.one_pos lk_X11_83 dX11_worth_158 ?_
              refine lv_iload X.x X.b dX11_worth_161 (lv_at hl 5 rfl) ?_
              refine lv_iconst (v := 1) X.x X.b dX11_worth_163 (by decide) ?_
              refine lv_isub X.x X.b dX11_worth_164 ?_
              obtain ⟨b37, hf⟩ := wGi_s hf
              refine aR_20 X h (hS 20) Nat.one_pos Nat.one_pos b37 dX11_worth_165 ?_
              refine lv_ineg X.x X.b dX11_worth_166 ?_
              obtain ⟨b38, hf⟩ := wGi_s hf
              obtain ⟨g39, e40, hf⟩ := wLe_s hf
              refine bR_20 X h (hS 20) Nat.one_pos Nat.one_pos e40 b38 dX11_worth_167 (fun H locs h => ?_)
              refine lv_goto (tgt := 204) X.x X.b dX11_worth_168 (by decide) ?_
              exact wX11_worth_b204 hS X h (lv_sub hl [1, 2, 3, 4, 5, 6] rfl) hf J1 JR
          · have hf := wT c26 hf
            refine lv_aload_n X.x X.b dX11_worth_113 rfl (lv_at hl 1 rfl) ?_
            refine gR_0_34 X h (hS 0) Nat.one_pos Nat.one_pos lk_X11_83 dX11_worth_114 ?_
            refine lv_iload X.x X.b dX11_worth_117 (lv_at hl 5 rfl) ?_
            refine lv_iconst (v := 1) X.x X.b dX11_worth_119 (by decide) ?_
            refine lv_isub X.x X.b dX11_worth_120 ?_
            refine lv_aload_n X.x X.b dX11_worth_121 rfl (lv_at hl 1 rfl) ?_
            refine gR_0_34 X h (hS 0) Nat.one_pos Nat.one_pos lk_X11_83 dX11_worth_122 ?_
            refine lv_iload X.x X.b dX11_worth_125 (lv_at hl 5 rfl) ?_
            refine lv_iconst (v := 1) X.x X.b dX11_worth_127 (by decide) ?_
            refine lv_isub X.x X.b dX11_worth_128 ?_
            obtain ⟨b41, hf⟩ := wGi_s hf
            refine aR_20 X h (hS 20) Nat.one_pos Nat.one_pos b41 dX11_worth_129 ?_
            refine lv_if_ne (tgt := 137) X.x X.b dX11_worth_130 (by decide) (fun c42 => ?_) (fun c42 => ?_)
            · have hf := wF c42 hf
              refine lv_iconst (v := 0) X.x X.b dX11_worth_137 (by decide) ?_
              exact wX11_worth_b138 hS X h (lv_sub hl [1, 2, 3, 4, 5, 6] rfl) hf J1 JR
            · have hf := wT c42 hf
              refine lv_iconst (v := 1) X.x X.b dX11_worth_133 (by decide) ?_
              refine lv_goto (tgt := 138) X.x X.b dX11_worth_134 (by decide) ?_
              exact wX11_worth_b138 hS X h (lv_sub hl [1, 2, 3, 4, 5, 6] rfl) hf J1 JR
        · have hf := wF c25 hf
          exact wX11_worth_b70 hS X h (lv_sub hl [1, 2, 3, 4, 5, 6, 0] rfl) hf J1 JR
set_option maxHeartbeats 4000000 in
set_option maxRecDepth 20000 in
theorem kX11_worth (l : Launch) {k : En} {S : Nat → Prop} (hS : ∀ t, S t) {a1 : Int32} {a2 : Int32} {a3 : Int32} {res : Mm × Int32} {g : Mm} (hf : fX11_worth g a1 a2 a3 = some res) : Mt l yX11_worth cX11_worth 7 (some .int) (RmN 4 87) YR S k [.ref (k.1 + adR 0 0 0), .int a1, .int a2, .int a3] g (some (.int res.2)) res.1 := by
  refine Mt.of (by decide) (Nat.le_of_ble_eq_true rfl) ?_
  intro p e s m args below meth c ls X _ h hl
  have X : Cx YR S k p s m args meth c cX11_worth 7 (some .int) RX11 := X
  have hl : lv_has ls 7 [(0, .ref (k.1 + adR 0 0 0)), (1, .int a1), (2, .int a2), (3, .int a3)] := hl
  have JR : res = res := rfl
  unfold fX11_worth at hf
  refine lv_iconst (v := 0) X.x X.b dX11_worth_0 (by decide) ?_
  obtain ⟨y1, e2, hf⟩ := wLe_s hf
  refine lv_nmi e2 ?_
  refine lv_istore (lv' := [(4, .int y1), (0, .ref (k.1 + adR 0 0 0)), (1, .int a1), (2, .int a2), (3, .int a3)]) X.x X.b dX11_worth_1 hl (by decide) rfl (fun ls hl => ?_)
  refine lv_aload_n X.x X.b dX11_worth_3 rfl (lv_at hl 1 rfl) ?_
  refine gR_0_15 X h (hS 0) Nat.one_pos Nat.one_pos lk_X11_31 dX11_worth_4 ?_
  refine lv_iconst (v := 4) X.x X.b dX11_worth_7 (by decide) ?_
  refine lv_aload_n X.x X.b dX11_worth_8 rfl (lv_at hl 1 rfl) ?_
  refine gR_0_13 X h (hS 0) Nat.one_pos Nat.one_pos lk_X11_186 dX11_worth_9 ?_
  refine lv_imul X.x X.b dX11_worth_12 ?_
  refine lv_iload_n X.x X.b dX11_worth_13 rfl (lv_at hl 2 rfl) ?_
  refine lv_iadd X.x X.b dX11_worth_14 ?_
  obtain ⟨b3, hf⟩ := wGi_s hf
  refine aR_8 X h (hS 8) Nat.one_pos Nat.one_pos b3 dX11_worth_15 ?_
  obtain ⟨y4, e5, hf⟩ := wLe_s hf
  refine lv_nmi e5 ?_
  refine lv_istore (lv' := [(5, .int y4), (4, .int y1), (0, .ref (k.1 + adR 0 0 0)), (1, .int a1), (2, .int a2), (3, .int a3)]) X.x X.b dX11_worth_16 hl (by decide) rfl (fun ls hl => ?_)
  exact wX11_worth_L18 hS X JR _ _ _ _ _ _ _ h (lv_sub hl [2, 3, 4, 5, 1, 0] rfl) hf
set_option maxHeartbeats 4000000 in
set_option maxRecDepth 20000 in
theorem kX11_atLeast0 (l : Launch) {k : En} {S : Nat → Prop} (hS : ∀ t, S t) {a1 : Int32} {a2 : Int32} {a3 : Int32} {res : Mm × Int32} {g : Mm} (hf : fX11_atLeast0 g a1 a2 a3 = some res) : Mt l yX11_atLeast0 cX11_atLeast0 5 (some .int) (RmN 5 113) YR S k [.ref (k.1 + adR 0 0 0), .int a1, .int a2, .int a3] g (some (.int res.2)) res.1 := by
  refine Mt.of (by decide) (Nat.le_of_ble_eq_true rfl) ?_
  intro p e s m args below meth c ls X _ h hl
  have X : Cx YR S k p s m args meth c cX11_atLeast0 5 (some .int) RX11 := X
  have hl : lv_has ls 5 [(0, .ref (k.1 + adR 0 0 0)), (1, .int a1), (2, .int a2), (3, .int a3)] := hl
  have JR : res = res := rfl
  unfold fX11_atLeast0 at hf
  refine lv_aload_n X.x X.b dX11_atLeast0_0 rfl (lv_at hl 0 rfl) ?_
  refine lv_iload_n X.x X.b dX11_atLeast0_1 rfl (lv_at hl 1 rfl) ?_
  refine lv_iload_n X.x X.b dX11_atLeast0_2 rfl (lv_at hl 2 rfl) ?_
  refine lv_iload_n X.x X.b dX11_atLeast0_3 rfl (lv_at hl 3 rfl) ?_
  obtain ⟨g3, y2, e1, hf⟩ := wB2_s hf
  refine ro_callvI (As := [.int a1, .int a2, .int a3]) (g1 := g3) (x := y2) X h (kX11_worth l hS e1) mv_X11_worth lk_X11_202 ⟨rfl, rfl⟩ ⟨(Nat.le_of_ble_eq_true rfl), (Nat.le_of_ble_eq_true rfl)⟩ (rR_0 X h (hS 0) Nat.one_pos Nat.one_pos) rfl hl rfl (Nat.le_of_ble_eq_true rfl) ⟨Nat.zero_le _, Nat.zero_le _⟩ dX11_atLeast0_4 (fun H locs h => ?_)
  refine lv_istore (lv' := [(4, .int y2), (0, .ref (k.1 + adR 0 0 0)), (1, .int a1), (2, .int a2), (3, .int a3)]) X.x X.b dX11_atLeast0_7 hl (by decide) rfl (fun ls hl => ?_)
  refine lv_iload X.x X.b dX11_atLeast0_9 (lv_at hl 0 rfl) ?_
  refine lv_if_ge (tgt := 18) X.x X.b dX11_atLeast0_11 (by decide) (fun c4 => ?_) (fun c4 => ?_)
  · have hf := wT c4 hf
    refine lv_iload X.x X.b dX11_atLeast0_18 (lv_at hl 0 rfl) ?_
    cases (Option.some.inj hf).trans JR
    exact ro_iret X h dX11_atLeast0_20
  · have hf := wF c4 hf
    refine lv_iconst (v := 0) X.x X.b dX11_atLeast0_14 (by decide) ?_
    refine lv_goto (tgt := 20) X.x X.b dX11_atLeast0_15 (by decide) ?_
    cases (Option.some.inj hf).trans JR
    exact ro_iret X h dX11_atLeast0_20
set_option maxHeartbeats 4000000 in
set_option maxRecDepth 20000 in
theorem kX11_tells (l : Launch) {k : En} {S : Nat → Prop} (hS : ∀ t, S t) {a1 : Int32} {a2 : Int32} {res : Mm × Int64} {g : Mm} (hf : fX11_tells g a1 a2 = some res) : Mt l yX11_tells cX11_tells 3 (some .long) (RmN 5 113) YR S k [.ref (k.1 + adR 0 0 0), .int a1, .int a2] g (some (.long res.2)) res.1 := by
  refine Mt.of (by decide) (Nat.le_of_ble_eq_true rfl) ?_
  intro p e s m args below meth c ls X _ h hl
  have X : Cx YR S k p s m args meth c cX11_tells 3 (some .long) RX11 := X
  have hl : lv_has ls 3 [(0, .ref (k.1 + adR 0 0 0)), (1, .int a1), (2, .int a2)] := hl
  have JR : res = res := rfl
  unfold fX11_tells at hf
  refine lv_aload_n X.x X.b dX11_tells_0 rfl (lv_at hl 0 rfl) ?_
  refine lv_iload_n X.x X.b dX11_tells_1 rfl (lv_at hl 1 rfl) ?_
  obtain ⟨y2, e1, hf⟩ := wBd_s hf
  refine ro_callvI (As := [.int a1]) (g1 := g) (x := y2) X h (kX11_isVisit l hS e1) mv_X11_isVisit lk_X11_114 ⟨rfl, rfl⟩ ⟨(Nat.le_of_ble_eq_true rfl), (Nat.le_of_ble_eq_true rfl)⟩ (rR_0 X h (hS 0) Nat.one_pos Nat.one_pos) rfl hl rfl (Nat.le_of_ble_eq_true rfl) ⟨Nat.zero_le _, Nat.zero_le _⟩ dX11_tells_2 (fun H locs h => ?_)
  refine lv_if_eq (tgt := 28) X.x X.b dX11_tells_5 (by decide) (fun c3 => ?_) (fun c3 => ?_)
  · have hf := wT c3 hf
    refine ro_ldc2 X lc_X11_205 dX11_tells_28 ?_
    cases (Option.some.inj hf).trans JR
    exact ro_lret X h dX11_tells_31
  · have hf := wF c3 hf
    refine lv_iload_n X.x X.b dX11_tells_8 rfl (lv_at hl 2 rfl) ?_
    refine lv_iconst (v := 0) X.x X.b dX11_tells_9 (by decide) ?_
    refine lv_iconst (v := 2) X.x X.b dX11_tells_10 (by decide) ?_
    obtain ⟨y5, e4, hf⟩ := wBd_s hf
    refine ro_callsI (As := [.int a2, .int (0 : Int32), .int (2 : Int32)]) (g1 := g) (x := y5) X h (kX11_in l hS e4) mv_X11_in lk_X11_99 ⟨rfl, rfl⟩ ⟨(Nat.le_of_ble_eq_true rfl), (Nat.le_of_ble_eq_true rfl)⟩ rfl hl rfl (Nat.le_of_ble_eq_true rfl) ⟨Nat.zero_le _, Nat.zero_le _⟩ dX11_tells_11 (fun H locs h => ?_)
    refine lv_if_eq (tgt := 28) X.x X.b dX11_tells_14 (by decide) (fun c6 => ?_) (fun c6 => ?_)
    · have hf := wT c6 hf
      refine ro_ldc2 X lc_X11_205 dX11_tells_28 ?_
      cases (Option.some.inj hf).trans JR
      exact ro_lret X h dX11_tells_31
    · have hf := wF c6 hf
      refine lv_aload_n X.x X.b dX11_tells_17 rfl (lv_at hl 0 rfl) ?_
      refine lv_iload_n X.x X.b dX11_tells_18 rfl (lv_at hl 2 rfl) ?_
      refine lv_iload_n X.x X.b dX11_tells_19 rfl (lv_at hl 1 rfl) ?_
      refine lv_iconst (v := (-1)) X.x X.b dX11_tells_20 (by decide) ?_
      obtain ⟨g9, y8, e7, hf⟩ := wB2_s hf
      refine ro_callvI (As := [.int a2, .int a1, .int (-1 : Int32)]) (g1 := g9) (x := y8) X h (kX11_worth l hS e7) mv_X11_worth lk_X11_202 ⟨rfl, rfl⟩ ⟨(Nat.le_of_ble_eq_true rfl), (Nat.le_of_ble_eq_true rfl)⟩ (rR_0 X h (hS 0) Nat.one_pos Nat.one_pos) rfl hl rfl (Nat.le_of_ble_eq_true rfl) ⟨Nat.zero_le _, Nat.zero_le _⟩ dX11_tells_21 (fun H locs h => ?_)
      refine lv_i2l X.x X.b dX11_tells_24 rfl ?_
      refine lv_goto (tgt := 31) X.x X.b dX11_tells_25 (by decide) ?_
      cases (Option.some.inj hf).trans JR
      exact ro_lret X h dX11_tells_31
set_option maxHeartbeats 4000000 in
set_option maxRecDepth 20000 in
theorem kX11_becomes (l : Launch) {k : En} {S : Nat → Prop} (hS : ∀ t, S t) {a1 : Int32} {a2 : Int32} {res : Mm} {g : Mm} (hf : fX11_becomes g a1 a2 = some res) : Mt l yX11_becomes cX11_becomes 3 none (RmN 0 0) YR S k [.ref (k.1 + adR 0 0 0), .int a1, .int a2] g none res := by
  refine Mt.of (by decide) (Nat.le_of_ble_eq_true rfl) ?_
  intro p e s m args below meth c ls X _ h hl
  have X : Cx YR S k p s m args meth c cX11_becomes 3 none RX11 := X
  have hl : lv_has ls 3 [(0, .ref (k.1 + adR 0 0 0)), (1, .int a1), (2, .int a2)] := hl
  have JR : res = res := rfl
  unfold fX11_becomes at hf
  refine lv_aload_n X.x X.b dX11_becomes_0 rfl (lv_at hl 0 rfl) ?_
  refine gR_0_0 X h (hS 0) Nat.one_pos Nat.one_pos lk_X11_7 dX11_becomes_1 ?_
  refine lv_bipush (v := 30) X.x X.b dX11_becomes_4 (by decide) ?_
  refine lv_iload_n X.x X.b dX11_becomes_6 rfl (lv_at hl 1 rfl) ?_
  refine lv_imul X.x X.b dX11_becomes_7 ?_
  refine lv_bipush (v := 6) X.x X.b dX11_becomes_8 (by decide) ?_
  refine lv_iadd X.x X.b dX11_becomes_10 ?_
  refine lv_iload_n X.x X.b dX11_becomes_11 rfl (lv_at hl 2 rfl) ?_
  obtain ⟨b1, hf⟩ := wGi_s hf
  obtain ⟨g2, e3, hf⟩ := wLe_s hf
  refine bR_1 X h (hS 1) Nat.one_pos Nat.one_pos e3 b1 dX11_becomes_12 (fun H locs h => ?_)
  refine lv_aload_n X.x X.b dX11_becomes_13 rfl (lv_at hl 0 rfl) ?_
  refine gR_0_0 X h (hS 0) Nat.one_pos Nat.one_pos lk_X11_7 dX11_becomes_14 ?_
  refine lv_bipush (v := 30) X.x X.b dX11_becomes_17 (by decide) ?_
  refine lv_iload_n X.x X.b dX11_becomes_19 rfl (lv_at hl 1 rfl) ?_
  refine lv_imul X.x X.b dX11_becomes_20 ?_
  refine lv_bipush (v := 7) X.x X.b dX11_becomes_21 (by decide) ?_
  refine lv_iadd X.x X.b dX11_becomes_23 ?_
  refine lv_aload_n X.x X.b dX11_becomes_24 rfl (lv_at hl 0 rfl) ?_
  refine gR_0_0 X h (hS 0) Nat.one_pos Nat.one_pos lk_X11_7 dX11_becomes_25 ?_
  refine lv_sipush (v := 480) X.x X.b dX11_becomes_28 (by decide) ?_
  obtain ⟨b4, hf⟩ := wGi_s hf
  refine aR_1 X h (hS 1) Nat.one_pos Nat.one_pos b4 dX11_becomes_31 ?_
  obtain ⟨b5, hf⟩ := wGi_s hf
  obtain ⟨g6, e7, hf⟩ := wLe_s hf
  refine bR_1 X h (hS 1) Nat.one_pos Nat.one_pos e7 b5 dX11_becomes_32 (fun H locs h => ?_)
  cases (Option.some.inj hf).trans JR
  exact ro_vret X h dX11_becomes_33
set_option maxHeartbeats 4000000 in
set_option maxRecDepth 20000 in
theorem kX11_goesOn (l : Launch) {k : En} {S : Nat → Prop} (hS : ∀ t, S t) {a1 : Int32} {res : Mm} {g : Mm} (hf : fX11_goesOn g a1 = some res) : Mt l yX11_goesOn cX11_goesOn 5 none (RmN 2 43) YR S k [.ref (k.1 + adR 0 0 0), .int a1] g none res := by
  refine Mt.of (by decide) (Nat.le_of_ble_eq_true rfl) ?_
  intro p e s m args below meth c ls X _ h hl
  have X : Cx YR S k p s m args meth c cX11_goesOn 5 none RX11 := X
  have hl : lv_has ls 5 [(0, .ref (k.1 + adR 0 0 0)), (1, .int a1)] := hl
  have JR : res = res := rfl
  unfold fX11_goesOn at hf
  refine lv_aload_n X.x X.b dX11_goesOn_0 rfl (lv_at hl 0 rfl) ?_
  refine gR_0_0 X h (hS 0) Nat.one_pos Nat.one_pos lk_X11_7 dX11_goesOn_1 ?_
  refine lv_sipush (v := 480) X.x X.b dX11_goesOn_4 (by decide) ?_
  obtain ⟨b1, hf⟩ := wGi_s hf
  refine aR_1 X h (hS 1) Nat.one_pos Nat.one_pos b1 dX11_goesOn_7 ?_
  obtain ⟨y2, e3, hf⟩ := wLe_s hf
  refine lv_nmi e3 ?_
  refine lv_istore_n (lv' := [(2, .int y2), (0, .ref (k.1 + adR 0 0 0)), (1, .int a1)]) X.x X.b dX11_goesOn_8 rfl hl (by decide) rfl (fun ls hl => ?_)
  refine lv_iload_n X.x X.b dX11_goesOn_9 rfl (lv_at hl 0 rfl) ?_
  refine lv_aload_n X.x X.b dX11_goesOn_10 rfl (lv_at hl 1 rfl) ?_
  refine lv_iload_n X.x X.b dX11_goesOn_11 rfl (lv_at hl 2 rfl) ?_
  refine lv_bipush (v := 7) X.x X.b dX11_goesOn_12 (by decide) ?_
  obtain ⟨y5, e4, hf⟩ := wBd_s hf
  refine ro_callvI (As := [.int a1, .int (7 : Int32)]) (g1 := g) (x := y5) X h (kX11_of l hS e4) mv_X11_of lk_X11_106 ⟨rfl, rfl⟩ ⟨(Nat.le_of_ble_eq_true rfl), (Nat.le_of_ble_eq_true rfl)⟩ (rR_0 X h (hS 0) Nat.one_pos Nat.one_pos) rfl hl rfl (Nat.le_of_ble_eq_true rfl) ⟨Nat.zero_le _, Nat.zero_le _⟩ dX11_goesOn_14 (fun H locs h => ?_)
  refine lv_isub X.x X.b dX11_goesOn_17 ?_
  obtain ⟨y6, e7, hf⟩ := wLe_s hf
  refine lv_nmi e7 ?_
  refine lv_istore_n (lv' := [(3, .int y6), (2, .int y2), (0, .ref (k.1 + adR 0 0 0)), (1, .int a1)]) X.x X.b dX11_goesOn_18 rfl hl (by decide) rfl (fun ls hl => ?_)
  refine lv_aload_n X.x X.b dX11_goesOn_19 rfl (lv_at hl 2 rfl) ?_
  refine gR_0_22 X h (hS 0) Nat.one_pos Nat.one_pos lk_X11_56 dX11_goesOn_20 ?_
  refine lv_aload_n X.x X.b dX11_goesOn_23 rfl (lv_at hl 2 rfl) ?_
  refine lv_iload_n X.x X.b dX11_goesOn_24 rfl (lv_at hl 3 rfl) ?_
  refine lv_iconst (v := 0) X.x X.b dX11_goesOn_25 (by decide) ?_
  obtain ⟨y9, e8, hf⟩ := wBd_s hf
  refine ro_callvI (As := [.int a1, .int (0 : Int32)]) (g1 := g) (x := y9) X h (kX11_of l hS e8) mv_X11_of lk_X11_106 ⟨rfl, rfl⟩ ⟨(Nat.le_of_ble_eq_true rfl), (Nat.le_of_ble_eq_true rfl)⟩ (rR_0 X h (hS 0) Nat.one_pos Nat.one_pos) rfl hl rfl (Nat.le_of_ble_eq_true rfl) ⟨Nat.zero_le _, Nat.zero_le _⟩ dX11_goesOn_26 (fun H locs h => ?_)
  obtain ⟨b10, hf⟩ := wGi_s hf
  refine aR_15 X h (hS 15) Nat.one_pos Nat.one_pos b10 dX11_goesOn_29 ?_
  obtain ⟨y11, e12, hf⟩ := wLe_s hf
  refine lv_nmi e12 ?_
  refine lv_istore (lv' := [(4, .int y11), (3, .int y6), (2, .int y2), (0, .ref (k.1 + adR 0 0 0)), (1, .int a1)]) X.x X.b dX11_goesOn_30 hl (by decide) rfl (fun ls hl => ?_)
  refine lv_aload_n X.x X.b dX11_goesOn_32 rfl (lv_at hl 3 rfl) ?_
  refine lv_iload_n X.x X.b dX11_goesOn_33 rfl (lv_at hl 4 rfl) ?_
  refine lv_bipush (v := 6) X.x X.b dX11_goesOn_34 (by decide) ?_
  obtain ⟨y14, e13, hf⟩ := wBd_s hf
  refine ro_callvI (As := [.int a1, .int (6 : Int32)]) (g1 := g) (x := y14) X h (kX11_of l hS e13) mv_X11_of lk_X11_106 ⟨rfl, rfl⟩ ⟨(Nat.le_of_ble_eq_true rfl), (Nat.le_of_ble_eq_true rfl)⟩ (rR_0 X h (hS 0) Nat.one_pos Nat.one_pos) rfl hl rfl (Nat.le_of_ble_eq_true rfl) ⟨Nat.zero_le _, Nat.zero_le _⟩ dX11_goesOn_36 (fun H locs h => ?_)
  by_cases c15 : y14 = (0 : Int32)
  · have hf := wT c15 hf
    refine lv_tableIn (off := 41) (tgt := 80) X.x X.b dX11_goesOn_39 (by rw [c15]; decide) (by rw [c15]; decide) (by rw [c15]; rfl) (by decide) ?_
    refine lv_aload_n X.x X.b dX11_goesOn_80 rfl (lv_at hl 3 rfl) ?_
    refine lv_iload_n X.x X.b dX11_goesOn_81 rfl (lv_at hl 4 rfl) ?_
    obtain ⟨y17, e16, hf⟩ := wBd_s hf
    refine ro_callvI (As := [.int a1]) (g1 := g) (x := y17) X h (kX11_come l hS e16) mv_X11_come lk_X11_110 ⟨rfl, rfl⟩ ⟨(Nat.le_of_ble_eq_true rfl), (Nat.le_of_ble_eq_true rfl)⟩ (rR_0 X h (hS 0) Nat.one_pos Nat.one_pos) rfl hl rfl (Nat.le_of_ble_eq_true rfl) ⟨Nat.zero_le _, Nat.zero_le _⟩ dX11_goesOn_82 (fun H locs h => ?_)
    refine lv_iload_n X.x X.b dX11_goesOn_85 rfl (lv_at hl 2 rfl) ?_
    refine lv_icmp_gt (tgt := 159) X.x X.b dX11_goesOn_86 (by decide) (fun c18 => ?_) (fun c18 => ?_)
    · have hf := wT c18 hf
      cases (Option.some.inj hf).trans JR
      exact ro_vret X h dX11_goesOn_159
    · have hf := wF c18 hf
      refine lv_aload_n X.x X.b dX11_goesOn_89 rfl (lv_at hl 3 rfl) ?_
      refine lv_iload_n X.x X.b dX11_goesOn_90 rfl (lv_at hl 4 rfl) ?_
      refine lv_iconst (v := 1) X.x X.b dX11_goesOn_91 (by decide) ?_
      obtain ⟨g21, e19, hf⟩ := wBd_s hf
      refine ro_callvV (As := [.int a1, .int (1 : Int32)]) (g1 := g21) X h (kX11_becomes l hS e19) mv_X11_becomes lk_X11_207 ⟨rfl, rfl⟩ ⟨(Nat.le_of_ble_eq_true rfl), (Nat.le_of_ble_eq_true rfl)⟩ (rR_0 X h (hS 0) Nat.one_pos Nat.one_pos) rfl hl rfl (Nat.le_of_ble_eq_true rfl) ⟨Nat.zero_le _, Nat.zero_le _⟩ dX11_goesOn_92 (fun H locs h => ?_)
      refine lv_goto (tgt := 159) X.x X.b dX11_goesOn_95 (by decide) ?_
      cases (Option.some.inj hf).trans JR
      exact ro_vret X h dX11_goesOn_159
  · have hf := wF c15 hf
    by_cases c22 : y14 = (1 : Int32)
    · have hf := wT c22 hf
      refine lv_tableIn (off := 59) (tgt := 98) X.x X.b dX11_goesOn_39 (by rw [c22]; decide) (by rw [c22]; decide) (by rw [c22]; rfl) (by decide) ?_
      refine lv_iload_n X.x X.b dX11_goesOn_98 rfl (lv_at hl 1 rfl) ?_
      refine lv_bipush (v := 60) X.x X.b dX11_goesOn_99 (by decide) ?_
      refine lv_icmp_lt (tgt := 159) X.x X.b dX11_goesOn_101 (by decide) (fun c23 => ?_) (fun c23 => ?_)
      · have hf := wT c23 hf
        cases (Option.some.inj hf).trans JR
        exact ro_vret X h dX11_goesOn_159
      · have hf := wF c23 hf
        refine lv_aload_n X.x X.b dX11_goesOn_104 rfl (lv_at hl 3 rfl) ?_
        refine lv_iload_n X.x X.b dX11_goesOn_105 rfl (lv_at hl 4 rfl) ?_
        refine lv_bipush (v := 8) X.x X.b dX11_goesOn_106 (by decide) ?_
        obtain ⟨g26, e24, hf⟩ := wBd_s hf
        refine ro_callvV (As := [.int a1, .int (8 : Int32)]) (g1 := g26) X h (kX11_becomes l hS e24) mv_X11_becomes lk_X11_207 ⟨rfl, rfl⟩ ⟨(Nat.le_of_ble_eq_true rfl), (Nat.le_of_ble_eq_true rfl)⟩ (rR_0 X h (hS 0) Nat.one_pos Nat.one_pos) rfl hl rfl (Nat.le_of_ble_eq_true rfl) ⟨Nat.zero_le _, Nat.zero_le _⟩ dX11_goesOn_108 (fun H locs h => ?_)
        refine lv_goto (tgt := 159) X.x X.b dX11_goesOn_111 (by decide) ?_
        cases (Option.some.inj hf).trans JR
        exact ro_vret X h dX11_goesOn_159
    · have hf := wF c22 hf
      by_cases c27 : y14 = (2 : Int32)
      · have hf := wT c27 hf
        refine lv_tableIn (off := 75) (tgt := 114) X.x X.b dX11_goesOn_39 (by rw [c27]; decide) (by rw [c27]; decide) (by rw [c27]; rfl) (by decide) ?_
        refine lv_iload_n X.x X.b dX11_goesOn_114 rfl (lv_at hl 1 rfl) ?_
        refine lv_iload X.x X.b dX11_goesOn_115 (lv_at hl 0 rfl) ?_
        refine lv_icmp_lt (tgt := 159) X.x X.b dX11_goesOn_117 (by decide) (fun c28 => ?_) (fun c28 => ?_)
        · have hf := wT c28 hf
          cases (Option.some.inj hf).trans JR
          exact ro_vret X h dX11_goesOn_159
        · have hf := wF c28 hf
          refine lv_aload_n X.x X.b dX11_goesOn_120 rfl (lv_at hl 3 rfl) ?_
          refine lv_iload_n X.x X.b dX11_goesOn_121 rfl (lv_at hl 4 rfl) ?_
          refine lv_iconst (v := 3) X.x X.b dX11_goesOn_122 (by decide) ?_
          obtain ⟨g31, e29, hf⟩ := wBd_s hf
          refine ro_callvV (As := [.int a1, .int (3 : Int32)]) (g1 := g31) X h (kX11_becomes l hS e29) mv_X11_becomes lk_X11_207 ⟨rfl, rfl⟩ ⟨(Nat.le_of_ble_eq_true rfl), (Nat.le_of_ble_eq_true rfl)⟩ (rR_0 X h (hS 0) Nat.one_pos Nat.one_pos) rfl hl rfl (Nat.le_of_ble_eq_true rfl) ⟨Nat.zero_le _, Nat.zero_le _⟩ dX11_goesOn_123 (fun H locs h => ?_)
          refine lv_goto (tgt := 159) X.x X.b dX11_goesOn_126 (by decide) ?_
          cases (Option.some.inj hf).trans JR
          exact ro_vret X h dX11_goesOn_159
      · have hf := wF c27 hf
        by_cases c32 : y14 = (3 : Int32)
        · have hf := wT c32 hf
          refine lv_tableIn (off := 90) (tgt := 129) X.x X.b dX11_goesOn_39 (by rw [c32]; decide) (by rw [c32]; decide) (by rw [c32]; rfl) (by decide) ?_
          refine lv_iload_n X.x X.b dX11_goesOn_129 rfl (lv_at hl 1 rfl) ?_
          refine lv_iconst (v := 4) X.x X.b dX11_goesOn_130 (by decide) ?_
          refine lv_icmp_lt (tgt := 159) X.x X.b dX11_goesOn_131 (by decide) (fun c33 => ?_) (fun c33 => ?_)
          · have hf := wT c33 hf
            cases (Option.some.inj hf).trans JR
            exact ro_vret X h dX11_goesOn_159
          · have hf := wF c33 hf
            refine lv_aload_n X.x X.b dX11_goesOn_134 rfl (lv_at hl 3 rfl) ?_
            refine lv_iload_n X.x X.b dX11_goesOn_135 rfl (lv_at hl 4 rfl) ?_
            refine lv_iconst (v := 4) X.x X.b dX11_goesOn_136 (by decide) ?_
            obtain ⟨g36, e34, hf⟩ := wBd_s hf
            refine ro_callvV (As := [.int a1, .int (4 : Int32)]) (g1 := g36) X h (kX11_becomes l hS e34) mv_X11_becomes lk_X11_207 ⟨rfl, rfl⟩ ⟨(Nat.le_of_ble_eq_true rfl), (Nat.le_of_ble_eq_true rfl)⟩ (rR_0 X h (hS 0) Nat.one_pos Nat.one_pos) rfl hl rfl (Nat.le_of_ble_eq_true rfl) ⟨Nat.zero_le _, Nat.zero_le _⟩ dX11_goesOn_137 (fun H locs h => ?_)
            refine lv_goto (tgt := 159) X.x X.b dX11_goesOn_140 (by decide) ?_
            cases (Option.some.inj hf).trans JR
            exact ro_vret X h dX11_goesOn_159
        · have hf := wF c32 hf
          by_cases c37 : y14 = (4 : Int32)
          · have hf := wT c37 hf
            refine lv_tableIn (off := 120) (tgt := 159) X.x X.b dX11_goesOn_39 (by rw [c37]; decide) (by rw [c37]; decide) (by rw [c37]; rfl) (by decide) ?_
            cases (Option.some.inj hf).trans JR
            exact ro_vret X h dX11_goesOn_159
          · have hf := wF c37 hf
            by_cases c38 : y14 = (5 : Int32)
            · have hf := wT c38 hf
              refine lv_tableIn (off := 120) (tgt := 159) X.x X.b dX11_goesOn_39 (by rw [c38]; decide) (by rw [c38]; decide) (by rw [c38]; rfl) (by decide) ?_
              cases (Option.some.inj hf).trans JR
              exact ro_vret X h dX11_goesOn_159
            · have hf := wF c38 hf
              by_cases c39 : y14 = (6 : Int32)
              · have hf := wT c39 hf
                refine lv_tableIn (off := 104) (tgt := 143) X.x X.b dX11_goesOn_39 (by rw [c39]; decide) (by rw [c39]; decide) (by rw [c39]; rfl) (by decide) ?_
                refine lv_iload_n X.x X.b dX11_goesOn_143 rfl (lv_at hl 1 rfl) ?_
                refine lv_iload X.x X.b dX11_goesOn_144 (lv_at hl 0 rfl) ?_
                refine lv_icmp_lt (tgt := 159) X.x X.b dX11_goesOn_146 (by decide) (fun c40 => ?_) (fun c40 => ?_)
                · have hf := wT c40 hf
                  cases (Option.some.inj hf).trans JR
                  exact ro_vret X h dX11_goesOn_159
                · have hf := wF c40 hf
                  refine lv_aload_n X.x X.b dX11_goesOn_149 rfl (lv_at hl 3 rfl) ?_
                  refine lv_iload_n X.x X.b dX11_goesOn_150 rfl (lv_at hl 4 rfl) ?_
                  refine lv_bipush (v := 7) X.x X.b dX11_goesOn_151 (by decide) ?_
                  obtain ⟨g43, e41, hf⟩ := wBd_s hf
                  refine ro_callvV (As := [.int a1, .int (7 : Int32)]) (g1 := g43) X h (kX11_becomes l hS e41) mv_X11_becomes lk_X11_207 ⟨rfl, rfl⟩ ⟨(Nat.le_of_ble_eq_true rfl), (Nat.le_of_ble_eq_true rfl)⟩ (rR_0 X h (hS 0) Nat.one_pos Nat.one_pos) rfl hl rfl (Nat.le_of_ble_eq_true rfl) ⟨Nat.zero_le _, Nat.zero_le _⟩ dX11_goesOn_153 (fun H locs h => ?_)
                  refine lv_goto (tgt := 159) X.x X.b dX11_goesOn_156 (by decide) ?_
                  cases (Option.some.inj hf).trans JR
                  exact ro_vret X h dX11_goesOn_159
              · have hf := wF c39 hf
                refine lv_tableOut (tgt := 159) X.x X.b dX11_goesOn_39 (by have q0 := lv_neT c15 (a := 0) rfl; have q1 := lv_neT c22 (a := 1) rfl; have q2 := lv_neT c27 (a := 2) rfl; have q3 := lv_neT c32 (a := 3) rfl; have q4 := lv_neT c37 (a := 4) rfl; have q5 := lv_neT c38 (a := 5) rfl; have q6 := lv_neT c39 (a := 6) rfl; omega) (by decide) ?_
                cases (Option.some.inj hf).trans JR
                exact ro_vret X h dX11_goesOn_159
set_option maxHeartbeats 4000000 in
set_option maxRecDepth 20000 in
theorem wX11_isDoneNow_b135 {k : En} {S : Nat → Prop} (hS : ∀ t, S t) {a1 : Int32} {a2 : Int32} {res : Mm} (X : Cx YR S k p s m args meth c cX11_isDoneNow 5 none RX11) {g : Mm} {x4 : Int32} {H : Heap} {locs : List Loc} {ls : Array Slot} (h : Hx YR S k s g H locs) (hl : lv_has ls 5 [(0, .ref (k.1 + adR 0 0 0)), (1, .int a1), (4, .int x4)]) {r : (Mm × Int32) ⊕ (Mm)} (hf : fX11_isDoneNow_b135 g a1 a2 x4 = some r) (J1 : ∀ (g : Mm) (x4 : Int32), r = .inl (g, x4) → ∀ (H : Heap) (locs : List Loc) (ls : Array Slot), Hx YR S k s g H locs → lv_has ls 5 [(0, .ref (k.1 + adR 0 0 0)), (1, .int a1), (4, .int x4)] → W p l e (RmN 1 22) s m args below meth c H locs 0 0 (Fin YR S k args s below none res) (F0 m 59 ls [])) (JR : ∀ t1, r = .inr t1 → t1 = res) :
    W p l e (RmN 1 22) s m args below meth c H locs 0 0 (Fin YR S k args s below none res) (F0 m 135 ls []) := by
  unfold fX11_isDoneNow_b135 at hf
  obtain ⟨y33, e34, hf⟩ := wLe_s hf
  refine lv_iinc (v := y33) (lv' := [(4, .int y33), (0, .ref (k.1 + adR 0 0 0)), (1, .int a1)]) X.x X.b dX11_isDoneNow_135 hl (k := 2) rfl (by rw [e34]; rfl) (by decide) rfl (fun ls hl => ?_)
  refine lv_goto (tgt := 59) X.x X.b dX11_isDoneNow_138 (by decide) ?_
  exact J1 _ _ (Option.some.inj hf).symm _ _ _ h (lv_sub hl [1, 2, 0] rfl)
set_option maxHeartbeats 4000000 in
set_option maxRecDepth 20000 in
theorem wX11_isDoneNow_L59 {k : En} {S : Nat → Prop} (hS : ∀ t, S t) {a1 : Int32} {a2 : Int32} {res : Mm} (X : Cx YR S k p s m args meth c cX11_isDoneNow 5 none RX11) {r : Mm} (JR : r = res) :
    ∀ (fu : Nat) (g : Mm) (x4 : Int32) (H : Heap) (locs : List Loc) (ls : Array Slot), Hx YR S k s g H locs → lv_has ls 5 [(0, .ref (k.1 + adR 0 0 0)), (1, .int a1), (4, .int x4)] → wLp (fun q => fX11_isDoneNow_B59 q.1 a1 a2 q.2) fu (g, x4) = some r → W p l e (RmN 1 22) s m args below meth c H locs 0 0 (Fin YR S k args s below none res) (F0 m 59 ls []) := by
  intro fu
  induction fu with
  | zero => intro g x4 H locs ls h hl hf; exact (wLp_0 hf).elim
  | succ fu ih1 =>
    intro g x4 H locs ls h hl hf
    obtain ⟨r1, hf, hr⟩ := wLp_s hf
    have J1n : ∀ (g : Mm) (x4 : Int32), r1 = .inl (g, x4) → ∀ (H : Heap) (locs : List Loc) (ls : Array Slot), Hx YR S k s g H locs → lv_has ls 5 [(0, .ref (k.1 + adR 0 0 0)), (1, .int a1), (4, .int x4)] → W p l e (RmN 1 22) s m args below meth c H locs 0 0 (Fin YR S k args s below none res) (F0 m 59 ls []) := fun g x4 q H locs ls h hl => by subst q; exact ih1 _ _ _ _ _ h hl hr
    have JRn : ∀ t1, r1 = .inr t1 → t1 = res := fun t1 q => by subst q; obtain rfl := Option.some.inj hr; exact JR
    have J1 := J1n
    have JR := JRn
    clear J1n JRn
    have hf : fX11_isDoneNow_B59 g a1 a2 x4 = some r1 := hf
    unfold fX11_isDoneNow_B59 at hf
    refine lv_iload X.x X.b dX11_isDoneNow_59 (lv_at hl 2 rfl) ?_
    refine lv_sipush (v := 360) X.x X.b dX11_isDoneNow_61 (by decide) ?_
    refine lv_bipush (v := 6) X.x X.b dX11_isDoneNow_64 (by decide) ?_
    refine lv_aload_n X.x X.b dX11_isDoneNow_66 rfl (lv_at hl 0 rfl) ?_
    refine gR_0_2 X h (hS 0) Nat.one_pos Nat.one_pos lk_X11_124 dX11_isDoneNow_67 ?_
    refine lv_imul X.x X.b dX11_isDoneNow_70 ?_
    refine lv_iadd X.x X.b dX11_isDoneNow_71 ?_
    refine lv_icmp_ge (tgt := 141) X.x X.b dX11_isDoneNow_72 (by decide) (fun c28 => ?_) (fun c28 => ?_)
    · have hf := wT c28 hf
      obtain ⟨t29, hf, e30⟩ := wEx_s hf
      have JR := JR t29 e30
      refine lv_goto (tgt := 211) X.x X.b dX11_isDoneNow_141 (by decide) ?_
      cases (Option.some.inj hf).trans JR
      exact ro_vret X h dX11_isDoneNow_211
    · have hf := wF c28 hf
      refine lv_aload_n X.x X.b dX11_isDoneNow_75 rfl (lv_at hl 0 rfl) ?_
      refine gR_0_0 X h (hS 0) Nat.one_pos Nat.one_pos lk_X11_7 dX11_isDoneNow_76 ?_
      refine lv_iload X.x X.b dX11_isDoneNow_79 (lv_at hl 2 rfl) ?_
      obtain ⟨b31, hf⟩ := wGi_s hf
      refine aR_1 X h (hS 1) Nat.one_pos Nat.one_pos b31 dX11_isDoneNow_81 ?_
      refine lv_iload_n X.x X.b dX11_isDoneNow_82 rfl (lv_at hl 1 rfl) ?_
      refine lv_icmp_ne (tgt := 135) X.x X.b dX11_isDoneNow_83 (by decide) (fun c32 => ?_) (fun c32 => ?_)
      · have hf := wF c32 hf
        exact wX11_isDoneNow_b135 hS X h (lv_sub hl [0, 1, 2] rfl) hf J1 JR
      · have hf := wT c32 hf
        refine lv_aload_n X.x X.b dX11_isDoneNow_86 rfl (lv_at hl 0 rfl) ?_
        refine gR_0_0 X h (hS 0) Nat.one_pos Nat.one_pos lk_X11_7 dX11_isDoneNow_87 ?_
        refine lv_iload X.x X.b dX11_isDoneNow_90 (lv_at hl 2 rfl) ?_
        refine lv_iconst (v := 4) X.x X.b dX11_isDoneNow_92 (by decide) ?_
        refine lv_iadd X.x X.b dX11_isDoneNow_93 ?_
        obtain ⟨b35, hf⟩ := wGi_s hf
        refine aR_1 X h (hS 1) Nat.one_pos Nat.one_pos b35 dX11_isDoneNow_94 ?_
        refine lv_if_ne (tgt := 135) X.x X.b dX11_isDoneNow_95 (by decide) (fun c36 => ?_) (fun c36 => ?_)
        · have hf := wF c36 hf
          exact wX11_isDoneNow_b135 hS X h (lv_sub hl [0, 1, 2] rfl) hf J1 JR
        · have hf := wT c36 hf
          refine lv_aload_n X.x X.b dX11_isDoneNow_98 rfl (lv_at hl 0 rfl) ?_
          refine gR_0_0 X h (hS 0) Nat.one_pos Nat.one_pos lk_X11_7 dX11_isDoneNow_99 ?_
          refine lv_iload X.x X.b dX11_isDoneNow_102 (lv_at hl 2 rfl) ?_
          refine lv_iconst (v := 4) X.x X.b dX11_isDoneNow_104 (by decide) ?_
          refine lv_iadd X.x X.b dX11_isDoneNow_105 ?_
          refine lv_iconst (v := 1) X.x X.b dX11_isDoneNow_106 (by decide) ?_
          obtain ⟨b37, hf⟩ := wGi_s hf
          obtain ⟨g38, e39, hf⟩ := wLe_s hf
          refine bR_1 X h (hS 1) Nat.one_pos Nat.one_pos e39 b37 dX11_isDoneNow_107 (fun H locs h => ?_)
          refine lv_aload_n X.x X.b dX11_isDoneNow_108 rfl (lv_at hl 0 rfl) ?_
          refine gR_0_0 X h (hS 0) Nat.one_pos Nat.one_pos lk_X11_7 dX11_isDoneNow_109 ?_
          refine lv_iload X.x X.b dX11_isDoneNow_112 (lv_at hl 2 rfl) ?_
          refine lv_iconst (v := 5) X.x X.b dX11_isDoneNow_114 (by decide) ?_
          refine lv_iadd X.x X.b dX11_isDoneNow_115 ?_
          refine lv_aload_n X.x X.b dX11_isDoneNow_116 rfl (lv_at hl 0 rfl) ?_
          refine gR_0_0 X h (hS 0) Nat.one_pos Nat.one_pos lk_X11_7 dX11_isDoneNow_117 ?_
          refine lv_sipush (v := 480) X.x X.b dX11_isDoneNow_120 (by decide) ?_
          obtain ⟨b40, hf⟩ := wGi_s hf
          refine aR_1 X h (hS 1) Nat.one_pos Nat.one_pos b40 dX11_isDoneNow_123 ?_
          refine lv_aload_n X.x X.b dX11_isDoneNow_124 rfl (lv_at hl 0 rfl) ?_
          refine gR_0_0 X h (hS 0) Nat.one_pos Nat.one_pos lk_X11_7 dX11_isDoneNow_125 ?_
          refine lv_iload X.x X.b dX11_isDoneNow_128 (lv_at hl 2 rfl) ?_
          refine lv_iconst (v := 3) X.x X.b dX11_isDoneNow_130 (by decide) ?_
          refine lv_iadd X.x X.b dX11_isDoneNow_131 ?_
          obtain ⟨b41, hf⟩ := wGi_s hf
          refine aR_1 X h (hS 1) Nat.one_pos Nat.one_pos b41 dX11_isDoneNow_132 ?_
          refine lv_iadd X.x X.b dX11_isDoneNow_133 ?_
          obtain ⟨b42, hf⟩ := wGi_s hf
          obtain ⟨g43, e44, hf⟩ := wLe_s hf
          refine bR_1 X h (hS 1) Nat.one_pos Nat.one_pos e44 b42 dX11_isDoneNow_134 (fun H locs h => ?_)
          exact wX11_isDoneNow_b135 hS X h (lv_sub hl [0, 1, 2] rfl) hf J1 JR
set_option maxHeartbeats 4000000 in
set_option maxRecDepth 20000 in
theorem wX11_isDoneNow_b49 {k : En} {S : Nat → Prop} (hS : ∀ t, S t) {a1 : Int32} {a2 : Int32} {res : Mm} (X : Cx YR S k p s m args meth c cX11_isDoneNow 5 none RX11) {g : Mm} {x3 : Int32} {H : Heap} {locs : List Loc} {ls : Array Slot} (h : Hx YR S k s g H locs) (hl : lv_has ls 5 [(0, .ref (k.1 + adR 0 0 0)), (1, .int a1), (2, .int a2), (3, .int x3)]) {r : Mm} (hf : fX11_isDoneNow_b49 g a1 a2 x3 = some r) (JR : r = res) :
    W p l e (RmN 1 22) s m args below meth c H locs 0 0 (Fin YR S k args s below none res) (F0 m 49 ls []) := by
  unfold fX11_isDoneNow_b49 at hf
  refine lv_iload_n X.x X.b dX11_isDoneNow_49 rfl (lv_at hl 2 rfl) ?_
  refine lv_iconst (v := 1) X.x X.b dX11_isDoneNow_50 (by decide) ?_
  refine lv_icmp_ne (tgt := 144) X.x X.b dX11_isDoneNow_51 (by decide) (fun c9 => ?_) (fun c9 => ?_)
  · have hf := wF c9 hf
    refine lv_iload_n X.x X.b dX11_isDoneNow_144 rfl (lv_at hl 2 rfl) ?_
    refine lv_bipush (v := 6) X.x X.b dX11_isDoneNow_145 (by decide) ?_
    refine lv_icmp_ne (tgt := 170) X.x X.b dX11_isDoneNow_147 (by decide) (fun c10 => ?_) (fun c10 => ?_)
    · have hf := wF c10 hf
      refine lv_iload_n X.x X.b dX11_isDoneNow_170 rfl (lv_at hl 2 rfl) ?_
      refine lv_bipush (v := 7) X.x X.b dX11_isDoneNow_171 (by decide) ?_
      refine lv_icmp_ne (tgt := 211) X.x X.b dX11_isDoneNow_173 (by decide) (fun c11 => ?_) (fun c11 => ?_)
      · have hf := wF c11 hf
        cases (Option.some.inj hf).trans JR
        exact ro_vret X h dX11_isDoneNow_211
      · have hf := wT c11 hf
        refine lv_aload_n X.x X.b dX11_isDoneNow_176 rfl (lv_at hl 0 rfl) ?_
        refine gR_0_0 X h (hS 0) Nat.one_pos Nat.one_pos lk_X11_7 dX11_isDoneNow_177 ?_
        refine lv_sipush (v := 496) X.x X.b dX11_isDoneNow_180 (by decide) ?_
        refine lv_aload_n X.x X.b dX11_isDoneNow_183 rfl (lv_at hl 0 rfl) ?_
        refine gR_0_0 X h (hS 0) Nat.one_pos Nat.one_pos lk_X11_7 dX11_isDoneNow_184 ?_
        refine lv_iload_n X.x X.b dX11_isDoneNow_187 rfl (lv_at hl 3 rfl) ?_
        refine lv_bipush (v := 8) X.x X.b dX11_isDoneNow_188 (by decide) ?_
        refine lv_iadd X.x X.b dX11_isDoneNow_190 ?_
        obtain ⟨b12, hf⟩ := wGi_s hf
        refine aR_1 X h (hS 1) Nat.one_pos Nat.one_pos b12 dX11_isDoneNow_191 ?_
        refine lv_iadd X.x X.b dX11_isDoneNow_192 ?_
        refine lv_iconst (v := (-1)) X.x X.b dX11_isDoneNow_193 (by decide) ?_
        obtain ⟨b13, hf⟩ := wGi_s hf
        obtain ⟨g14, e15, hf⟩ := wLe_s hf
        refine bR_1 X h (hS 1) Nat.one_pos Nat.one_pos e15 b13 dX11_isDoneNow_194 (fun H locs h => ?_)
        refine lv_aload_n X.x X.b dX11_isDoneNow_195 rfl (lv_at hl 0 rfl) ?_
        refine gR_0_0 X h (hS 0) Nat.one_pos Nat.one_pos lk_X11_7 dX11_isDoneNow_196 ?_
        refine lv_iload_n X.x X.b dX11_isDoneNow_199 rfl (lv_at hl 3 rfl) ?_
        refine lv_bipush (v := 8) X.x X.b dX11_isDoneNow_200 (by decide) ?_
        refine lv_iadd X.x X.b dX11_isDoneNow_202 ?_
        refine lv_iconst (v := (-1)) X.x X.b dX11_isDoneNow_203 (by decide) ?_
        obtain ⟨b16, hf⟩ := wGi_s hf
        obtain ⟨g17, e18, hf⟩ := wLe_s hf
        refine bR_1 X h (hS 1) Nat.one_pos Nat.one_pos e18 b16 dX11_isDoneNow_204 (fun H locs h => ?_)
        refine lv_aload_n X.x X.b dX11_isDoneNow_205 rfl (lv_at hl 0 rfl) ?_
        refine lv_iload_n X.x X.b dX11_isDoneNow_206 rfl (lv_at hl 1 rfl) ?_
        refine lv_iconst (v := 5) X.x X.b dX11_isDoneNow_207 (by decide) ?_
        obtain ⟨g21, e19, hf⟩ := wBd_s hf
        refine ro_callvV (As := [.int a1, .int (5 : Int32)]) (g1 := g21) X h (kX11_becomes l hS e19) mv_X11_becomes lk_X11_207 ⟨rfl, rfl⟩ ⟨(Nat.le_of_ble_eq_true rfl), (Nat.le_of_ble_eq_true rfl)⟩ (rR_0 X h (hS 0) Nat.one_pos Nat.one_pos) rfl hl rfl (Nat.le_of_ble_eq_true rfl) ⟨Nat.zero_le _, Nat.zero_le _⟩ dX11_isDoneNow_208 (fun H locs h => ?_)
        cases (Option.some.inj hf).trans JR
        exact ro_vret X h dX11_isDoneNow_211
    · have hf := wT c10 hf
      refine lv_aload_n X.x X.b dX11_isDoneNow_150 rfl (lv_at hl 0 rfl) ?_
      refine gR_0_0 X h (hS 0) Nat.one_pos Nat.one_pos lk_X11_7 dX11_isDoneNow_151 ?_
      refine lv_iload_n X.x X.b dX11_isDoneNow_154 rfl (lv_at hl 3 rfl) ?_
      refine lv_bipush (v := 10) X.x X.b dX11_isDoneNow_155 (by decide) ?_
      refine lv_iadd X.x X.b dX11_isDoneNow_157 ?_
      refine lv_aload_n X.x X.b dX11_isDoneNow_158 rfl (lv_at hl 0 rfl) ?_
      refine gR_0_0 X h (hS 0) Nat.one_pos Nat.one_pos lk_X11_7 dX11_isDoneNow_159 ?_
      refine lv_sipush (v := 480) X.x X.b dX11_isDoneNow_162 (by decide) ?_
      obtain ⟨b22, hf⟩ := wGi_s hf
      refine aR_1 X h (hS 1) Nat.one_pos Nat.one_pos b22 dX11_isDoneNow_165 ?_
      obtain ⟨b23, hf⟩ := wGi_s hf
      obtain ⟨g24, e25, hf⟩ := wLe_s hf
      refine bR_1 X h (hS 1) Nat.one_pos Nat.one_pos e25 b23 dX11_isDoneNow_166 (fun H locs h => ?_)
      refine lv_goto (tgt := 211) X.x X.b dX11_isDoneNow_167 (by decide) ?_
      cases (Option.some.inj hf).trans JR
      exact ro_vret X h dX11_isDoneNow_211
  · have hf := wT c9 hf
    refine lv_sipush (v := 360) X.x X.b dX11_isDoneNow_54 (by decide) ?_
    obtain ⟨y26, e27, hf⟩ := wLe_s hf
    refine lv_nmi e27 ?_
    refine lv_istore (lv' := [(4, .int y26), (0, .ref (k.1 + adR 0 0 0)), (1, .int a1), (2, .int a2), (3, .int x3)]) X.x X.b dX11_isDoneNow_57 hl (by decide) rfl (fun ls hl => ?_)
    exact wX11_isDoneNow_L59 hS X JR _ _ _ _ _ _ h (lv_sub hl [1, 2, 0] rfl) hf
set_option maxHeartbeats 4000000 in
set_option maxRecDepth 20000 in
theorem kX11_isDoneNow (l : Launch) {k : En} {S : Nat → Prop} (hS : ∀ t, S t) {a1 : Int32} {a2 : Int32} {res : Mm} {g : Mm} (hf : fX11_isDoneNow g a1 a2 = some res) : Mt l yX11_isDoneNow cX11_isDoneNow 5 none (RmN 1 22) YR S k [.ref (k.1 + adR 0 0 0), .int a1, .int a2] g none res := by
  refine Mt.of (by decide) (Nat.le_of_ble_eq_true rfl) ?_
  intro p e s m args below meth c ls X _ h hl
  have X : Cx YR S k p s m args meth c cX11_isDoneNow 5 none RX11 := X
  have hl : lv_has ls 5 [(0, .ref (k.1 + adR 0 0 0)), (1, .int a1), (2, .int a2)] := hl
  have JR : res = res := rfl
  unfold fX11_isDoneNow at hf
  refine lv_bipush (v := 30) X.x X.b dX11_isDoneNow_0 (by decide) ?_
  refine lv_iload_n X.x X.b dX11_isDoneNow_2 rfl (lv_at hl 1 rfl) ?_
  refine lv_imul X.x X.b dX11_isDoneNow_3 ?_
  obtain ⟨y1, e2, hf⟩ := wLe_s hf
  refine lv_nmi e2 ?_
  refine lv_istore_n (lv' := [(3, .int y1), (0, .ref (k.1 + adR 0 0 0)), (1, .int a1), (2, .int a2)]) X.x X.b dX11_isDoneNow_4 rfl hl (by decide) rfl (fun ls hl => ?_)
  refine lv_aload_n X.x X.b dX11_isDoneNow_5 rfl (lv_at hl 1 rfl) ?_
  refine gR_0_0 X h (hS 0) Nat.one_pos Nat.one_pos lk_X11_7 dX11_isDoneNow_6 ?_
  refine lv_iload_n X.x X.b dX11_isDoneNow_9 rfl (lv_at hl 0 rfl) ?_
  refine lv_bipush (v := 9) X.x X.b dX11_isDoneNow_10 (by decide) ?_
  refine lv_iadd X.x X.b dX11_isDoneNow_12 ?_
  refine lv_dup2_11 X.x X.b dX11_isDoneNow_13 rfl rfl ?_
  obtain ⟨b3, hf⟩ := wGi_s hf
  refine aR_1 X h (hS 1) Nat.one_pos Nat.one_pos b3 dX11_isDoneNow_14 ?_
  refine lv_iconst (v := 1) X.x X.b dX11_isDoneNow_15 (by decide) ?_
  refine lv_iload_n X.x X.b dX11_isDoneNow_16 rfl (lv_at hl 3 rfl) ?_
  refine lv_ishl X.x X.b dX11_isDoneNow_17 ?_
  refine lv_ior X.x X.b dX11_isDoneNow_18 ?_
  obtain ⟨b4, hf⟩ := wGi_s hf
  obtain ⟨g5, e6, hf⟩ := wLe_s hf
  refine bR_1 X h (hS 1) Nat.one_pos Nat.one_pos e6 b4 dX11_isDoneNow_19 (fun H locs h => ?_)
  refine lv_aload_n X.x X.b dX11_isDoneNow_20 rfl (lv_at hl 1 rfl) ?_
  refine gR_0_23 X h (hS 0) Nat.one_pos Nat.one_pos lk_X11_59 dX11_isDoneNow_21 ?_
  refine lv_iload_n X.x X.b dX11_isDoneNow_24 rfl (lv_at hl 3 rfl) ?_
  obtain ⟨b7, hf⟩ := wGi_s hf
  refine aR_16 X h (hS 16) Nat.one_pos Nat.one_pos b7 dX11_isDoneNow_25 ?_
  refine lv_iconst (v := (-1)) X.x X.b dX11_isDoneNow_26 (by decide) ?_
  refine lv_icmp_eq (tgt := 49) X.x X.b dX11_isDoneNow_27 (by decide) (fun c8 => ?_) (fun c8 => ?_)
  · have hf := wT c8 hf
    exact wX11_isDoneNow_b49 hS X h (lv_sub hl [1, 2, 3, 0] rfl) hf JR
  · have hf := wF c8 hf
    refine lv_aload_n X.x X.b dX11_isDoneNow_30 rfl (lv_at hl 1 rfl) ?_
    refine gR_0_0 X h (hS 0) Nat.one_pos Nat.one_pos lk_X11_7 dX11_isDoneNow_31 ?_
    refine lv_sipush (v := 475) X.x X.b dX11_isDoneNow_34 (by decide) ?_
    refine lv_aload_n X.x X.b dX11_isDoneNow_37 rfl (lv_at hl 1 rfl) ?_
    refine gR_0_23 X h (hS 0) Nat.one_pos Nat.one_pos lk_X11_59 dX11_isDoneNow_38 ?_
    refine lv_iload_n X.x X.b dX11_isDoneNow_41 rfl (lv_at hl 3 rfl) ?_
    obtain ⟨b45, hf⟩ := wGi_s hf
    refine aR_16 X h (hS 16) Nat.one_pos Nat.one_pos b45 dX11_isDoneNow_42 ?_
    refine lv_iadd X.x X.b dX11_isDoneNow_43 ?_
    refine lv_dup2_11 X.x X.b dX11_isDoneNow_44 rfl rfl ?_
    obtain ⟨b46, hf⟩ := wGi_s hf
    refine aR_1 X h (hS 1) Nat.one_pos Nat.one_pos b46 dX11_isDoneNow_45 ?_
    refine lv_iconst (v := 1) X.x X.b dX11_isDoneNow_46 (by decide) ?_
    refine lv_isub X.x X.b dX11_isDoneNow_47 ?_
    obtain ⟨b47, hf⟩ := wGi_s hf
    obtain ⟨g48, e49, hf⟩ := wLe_s hf
    refine bR_1 X h (hS 1) Nat.one_pos Nat.one_pos e49 b47 dX11_isDoneNow_48 (fun H locs h => ?_)
    exact wX11_isDoneNow_b49 hS X h (lv_sub hl [1, 2, 3, 0] rfl) hf JR
set_option maxHeartbeats 4000000 in
set_option maxRecDepth 20000 in
theorem wX11_works_b52 {k : En} {S : Nat → Prop} (hS : ∀ t, S t) {a1 : Int32} {res : Mm} (X : Cx YR S k p s m args meth c cX11_works 4 none RX11) {g : Mm} {x2 : Int32} {H : Heap} {locs : List Loc} {ls : Array Slot} (h : Hx YR S k s g H locs) (hl : lv_has ls 4 [(0, .ref (k.1 + adR 0 0 0)), (1, .int a1), (2, .int x2)]) {r : (Mm × Int32) ⊕ (Mm)} (hf : fX11_works_b52 g a1 x2 = some r) (J1 : ∀ (g : Mm) (x2 : Int32), r = .inl (g, x2) → ∀ (H : Heap) (locs : List Loc) (ls : Array Slot), Hx YR S k s g H locs → lv_has ls 4 [(0, .ref (k.1 + adR 0 0 0)), (1, .int a1), (2, .int x2)] → W p l e (RmN 2 46) s m args below meth c H locs 0 0 (Fin YR S k args s below none res) (F0 m 2 ls [])) (JR : ∀ t1, r = .inr t1 → t1 = res) :
    W p l e (RmN 2 46) s m args below meth c H locs 0 0 (Fin YR S k args s below none res) (F0 m 52 ls []) := by
  unfold fX11_works_b52 at hf
  obtain ⟨y10, e11, hf⟩ := wLe_s hf
  refine lv_iinc (v := y10) (lv' := [(2, .int y10), (0, .ref (k.1 + adR 0 0 0)), (1, .int a1)]) X.x X.b dX11_works_52 hl (k := 2) rfl (by rw [e11]; rfl) (by decide) rfl (fun ls hl => ?_)
  refine lv_goto (tgt := 2) X.x X.b dX11_works_55 (by decide) ?_
  exact J1 _ _ (Option.some.inj hf).symm _ _ _ h (lv_sub hl [1, 2, 0] rfl)
set_option maxHeartbeats 4000000 in
set_option maxRecDepth 20000 in
theorem wX11_works_L2 {k : En} {S : Nat → Prop} (hS : ∀ t, S t) {a1 : Int32} {res : Mm} (X : Cx YR S k p s m args meth c cX11_works 4 none RX11) {r : Mm} (JR : r = res) :
    ∀ (fu : Nat) (g : Mm) (x2 : Int32) (H : Heap) (locs : List Loc) (ls : Array Slot), Hx YR S k s g H locs → lv_has ls 4 [(0, .ref (k.1 + adR 0 0 0)), (1, .int a1), (2, .int x2)] → wLp (fun q => fX11_works_B2 q.1 a1 q.2) fu (g, x2) = some r → W p l e (RmN 2 46) s m args below meth c H locs 0 0 (Fin YR S k args s below none res) (F0 m 2 ls []) := by
  intro fu
  induction fu with
  | zero => intro g x2 H locs ls h hl hf; exact (wLp_0 hf).elim
  | succ fu ih1 =>
    intro g x2 H locs ls h hl hf
    obtain ⟨r1, hf, hr⟩ := wLp_s hf
    have J1n : ∀ (g : Mm) (x2 : Int32), r1 = .inl (g, x2) → ∀ (H : Heap) (locs : List Loc) (ls : Array Slot), Hx YR S k s g H locs → lv_has ls 4 [(0, .ref (k.1 + adR 0 0 0)), (1, .int a1), (2, .int x2)] → W p l e (RmN 2 46) s m args below meth c H locs 0 0 (Fin YR S k args s below none res) (F0 m 2 ls []) := fun g x2 q H locs ls h hl => by subst q; exact ih1 _ _ _ _ _ h hl hr
    have JRn : ∀ t1, r1 = .inr t1 → t1 = res := fun t1 q => by subst q; obtain rfl := Option.some.inj hr; exact JR
    have J1 := J1n
    have JR := JRn
    clear J1n JRn
    have hf : fX11_works_B2 g a1 x2 = some r1 := hf
    unfold fX11_works_B2 at hf
    refine lv_iload_n X.x X.b dX11_works_2 rfl (lv_at hl 2 rfl) ?_
    refine lv_bipush (v := 8) X.x X.b dX11_works_3 (by decide) ?_
    refine lv_icmp_ge (tgt := 58) X.x X.b dX11_works_5 (by decide) (fun c3 => ?_) (fun c3 => ?_)
    · have hf := wT c3 hf
      obtain ⟨t4, hf, e5⟩ := wEx_s hf
      have JR := JR t4 e5
      cases (Option.some.inj hf).trans JR
      exact ro_vret X h dX11_works_58
    · have hf := wF c3 hf
      refine lv_bipush (v := 30) X.x X.b dX11_works_8 (by decide) ?_
      refine lv_iload_n X.x X.b dX11_works_10 rfl (lv_at hl 1 rfl) ?_
      refine lv_imul X.x X.b dX11_works_11 ?_
      refine lv_bipush (v := 11) X.x X.b dX11_works_12 (by decide) ?_
      refine lv_iadd X.x X.b dX11_works_14 ?_
      refine lv_iload_n X.x X.b dX11_works_15 rfl (lv_at hl 2 rfl) ?_
      refine lv_iadd X.x X.b dX11_works_16 ?_
      obtain ⟨y6, e7, hf⟩ := wLe_s hf
      refine lv_nmi e7 ?_
      refine lv_istore_n (lv' := [(3, .int y6), (0, .ref (k.1 + adR 0 0 0)), (1, .int a1), (2, .int x2)]) X.x X.b dX11_works_17 rfl hl (by decide) rfl (fun ls hl => ?_)
      refine lv_aload_n X.x X.b dX11_works_18 rfl (lv_at hl 1 rfl) ?_
      refine gR_0_0 X h (hS 0) Nat.one_pos Nat.one_pos lk_X11_7 dX11_works_19 ?_
      refine lv_iload_n X.x X.b dX11_works_22 rfl (lv_at hl 0 rfl) ?_
      obtain ⟨b8, hf⟩ := wGi_s hf
      refine aR_1 X h (hS 1) Nat.one_pos Nat.one_pos b8 dX11_works_23 ?_
      refine lv_if_le (tgt := 52) X.x X.b dX11_works_24 (by decide) (fun c9 => ?_) (fun c9 => ?_)
      · have hf := wT c9 hf
        exact wX11_works_b52 hS X h (lv_sub hl [1, 2, 3] rfl) hf J1 JR
      · have hf := wF c9 hf
        refine lv_aload_n X.x X.b dX11_works_27 rfl (lv_at hl 1 rfl) ?_
        refine gR_0_0 X h (hS 0) Nat.one_pos Nat.one_pos lk_X11_7 dX11_works_28 ?_
        refine lv_iload_n X.x X.b dX11_works_31 rfl (lv_at hl 0 rfl) ?_
        refine lv_dup2_11 X.x X.b dX11_works_32 rfl rfl ?_
        obtain ⟨b12, hf⟩ := wGi_s hf
        refine aR_1 X h (hS 1) Nat.one_pos Nat.one_pos b12 dX11_works_33 ?_
        refine lv_iconst (v := 1) X.x X.b dX11_works_34 (by decide) ?_
        refine lv_isub X.x X.b dX11_works_35 ?_
        obtain ⟨b13, hf⟩ := wGi_s hf
        obtain ⟨g14, e15, hf⟩ := wLe_s hf
        refine bR_1 X h (hS 1) Nat.one_pos Nat.one_pos e15 b13 dX11_works_36 (fun H locs h => ?_)
        refine lv_aload_n X.x X.b dX11_works_37 rfl (lv_at hl 1 rfl) ?_
        refine gR_0_0 X h (hS 0) Nat.one_pos Nat.one_pos lk_X11_7 dX11_works_38 ?_
        refine lv_iload_n X.x X.b dX11_works_41 rfl (lv_at hl 0 rfl) ?_
        obtain ⟨b16, hf⟩ := wGi_s hf
        refine aR_1 X h (hS 1) Nat.one_pos Nat.one_pos b16 dX11_works_42 ?_
        refine lv_if_ne (tgt := 52) X.x X.b dX11_works_43 (by decide) (fun c17 => ?_) (fun c17 => ?_)
        · have hf := wF c17 hf
          exact wX11_works_b52 hS X h (lv_sub hl [1, 2, 3] rfl) hf J1 JR
        · have hf := wT c17 hf
          refine lv_aload_n X.x X.b dX11_works_46 rfl (lv_at hl 1 rfl) ?_
          refine lv_iload_n X.x X.b dX11_works_47 rfl (lv_at hl 2 rfl) ?_
          refine lv_iload_n X.x X.b dX11_works_48 rfl (lv_at hl 3 rfl) ?_
          obtain ⟨g20, e18, hf⟩ := wBd_s hf
          refine ro_callvV (As := [.int a1, .int x2]) (g1 := g20) X h (kX11_isDoneNow l hS e18) mv_X11_isDoneNow lk_X11_211 ⟨rfl, rfl⟩ ⟨(Nat.le_of_ble_eq_true rfl), (Nat.le_of_ble_eq_true rfl)⟩ (rR_0 X h (hS 0) Nat.one_pos Nat.one_pos) rfl hl rfl (Nat.le_of_ble_eq_true rfl) ⟨Nat.zero_le _, Nat.zero_le _⟩ dX11_works_49 (fun H locs h => ?_)
          exact wX11_works_b52 hS X h (lv_sub hl [1, 2, 3] rfl) hf J1 JR
set_option maxHeartbeats 4000000 in
set_option maxRecDepth 20000 in
theorem kX11_works (l : Launch) {k : En} {S : Nat → Prop} (hS : ∀ t, S t) {a1 : Int32} {res : Mm} {g : Mm} (hf : fX11_works g a1 = some res) : Mt l yX11_works cX11_works 4 none (RmN 2 46) YR S k [.ref (k.1 + adR 0 0 0), .int a1] g none res := by
  refine Mt.of (by decide) (Nat.le_of_ble_eq_true rfl) ?_
  intro p e s m args below meth c ls X _ h hl
  have X : Cx YR S k p s m args meth c cX11_works 4 none RX11 := X
  have hl : lv_has ls 4 [(0, .ref (k.1 + adR 0 0 0)), (1, .int a1)] := hl
  have JR : res = res := rfl
  unfold fX11_works at hf
  refine lv_iconst (v := 0) X.x X.b dX11_works_0 (by decide) ?_
  obtain ⟨y1, e2, hf⟩ := wLe_s hf
  refine lv_nmi e2 ?_
  refine lv_istore_n (lv' := [(2, .int y1), (0, .ref (k.1 + adR 0 0 0)), (1, .int a1)]) X.x X.b dX11_works_1 rfl hl (by decide) rfl (fun ls hl => ?_)
  exact wX11_works_L2 hS X JR _ _ _ _ _ _ h (lv_sub hl [1, 2, 0] rfl) hf
set_option maxHeartbeats 4000000 in
set_option maxRecDepth 20000 in
theorem wX11_feedGoes_b55 {k : En} {S : Nat → Prop} (hS : ∀ t, S t) {a1 : Int32} {res : Mm} (X : Cx YR S k p s m args meth c cX11_feedGoes 3 none RX11) {g : Mm} {H : Heap} {locs : List Loc} {ls : Array Slot} (h : Hx YR S k s g H locs) (hl : lv_has ls 3 [(0, .ref (k.1 + adR 0 0 0)), (1, .int a1)]) {r : Mm} (hf : fX11_feedGoes_b55 g a1 = some r) (JR : r = res) :
    W p l e (RmN 2 44) s m args below meth c H locs 0 0 (Fin YR S k args s below none res) (F0 m 55 ls []) := by
  unfold fX11_feedGoes_b55 at hf
  refine lv_aload_n X.x X.b dX11_feedGoes_55 rfl (lv_at hl 0 rfl) ?_
  refine gR_0_0 X h (hS 0) Nat.one_pos Nat.one_pos lk_X11_7 dX11_feedGoes_56 ?_
  refine lv_iload_n X.x X.b dX11_feedGoes_59 rfl (lv_at hl 1 rfl) ?_
  refine lv_iconst (v := 4) X.x X.b dX11_feedGoes_60 (by decide) ?_
  refine lv_iadd X.x X.b dX11_feedGoes_61 ?_
  refine lv_iconst (v := 3) X.x X.b dX11_feedGoes_62 (by decide) ?_
  obtain ⟨b9, hf⟩ := wGi_s hf
  obtain ⟨g10, e11, hf⟩ := wLe_s hf
  refine bR_1 X h (hS 1) Nat.one_pos Nat.one_pos e11 b9 dX11_feedGoes_63 (fun H locs h => ?_)
  refine lv_goto (tgt := 120) X.x X.b dX11_feedGoes_64 (by decide) ?_
  cases (Option.some.inj hf).trans JR
  exact ro_vret X h dX11_feedGoes_120
set_option maxHeartbeats 4000000 in
set_option maxRecDepth 20000 in
theorem wX11_feedGoes_b67 {k : En} {S : Nat → Prop} (hS : ∀ t, S t) {a1 : Int32} {res : Mm} (X : Cx YR S k p s m args meth c cX11_feedGoes 3 none RX11) {g : Mm} {x2 : Int32} {H : Heap} {locs : List Loc} {ls : Array Slot} (h : Hx YR S k s g H locs) (hl : lv_has ls 3 [(0, .ref (k.1 + adR 0 0 0)), (1, .int a1), (2, .int x2)]) {r : Mm} (hf : fX11_feedGoes_b67 g a1 x2 = some r) (JR : r = res) :
    W p l e (RmN 2 44) s m args below meth c H locs 0 0 (Fin YR S k args s below none res) (F0 m 67 ls []) := by
  unfold fX11_feedGoes_b67 at hf
  refine lv_iload_n X.x X.b dX11_feedGoes_67 rfl (lv_at hl 2 rfl) ?_
  refine lv_iconst (v := 1) X.x X.b dX11_feedGoes_68 (by decide) ?_
  refine lv_icmp_ne (tgt := 120) X.x X.b dX11_feedGoes_69 (by decide) (fun c13 => ?_) (fun c13 => ?_)
  · have hf := wF c13 hf
    cases (Option.some.inj hf).trans JR
    exact ro_vret X h dX11_feedGoes_120
  · have hf := wT c13 hf
    refine lv_aload_n X.x X.b dX11_feedGoes_72 rfl (lv_at hl 0 rfl) ?_
    refine gR_0_0 X h (hS 0) Nat.one_pos Nat.one_pos lk_X11_7 dX11_feedGoes_73 ?_
    refine lv_iload_n X.x X.b dX11_feedGoes_76 rfl (lv_at hl 1 rfl) ?_
    refine lv_iconst (v := 5) X.x X.b dX11_feedGoes_77 (by decide) ?_
    refine lv_iadd X.x X.b dX11_feedGoes_78 ?_
    obtain ⟨b14, hf⟩ := wGi_s hf
    refine aR_1 X h (hS 1) Nat.one_pos Nat.one_pos b14 dX11_feedGoes_79 ?_
    refine lv_aload_n X.x X.b dX11_feedGoes_80 rfl (lv_at hl 0 rfl) ?_
    refine gR_0_0 X h (hS 0) Nat.one_pos Nat.one_pos lk_X11_7 dX11_feedGoes_81 ?_
    refine lv_sipush (v := 480) X.x X.b dX11_feedGoes_84 (by decide) ?_
    obtain ⟨b15, hf⟩ := wGi_s hf
    refine aR_1 X h (hS 1) Nat.one_pos Nat.one_pos b15 dX11_feedGoes_87 ?_
    refine lv_icmp_gt (tgt := 120) X.x X.b dX11_feedGoes_88 (by decide) (fun c16 => ?_) (fun c16 => ?_)
    · have hf := wT c16 hf
      cases (Option.some.inj hf).trans JR
      exact ro_vret X h dX11_feedGoes_120
    · have hf := wF c16 hf
      refine lv_aload_n X.x X.b dX11_feedGoes_91 rfl (lv_at hl 0 rfl) ?_
      refine gR_0_0 X h (hS 0) Nat.one_pos Nat.one_pos lk_X11_7 dX11_feedGoes_92 ?_
      refine lv_iload_n X.x X.b dX11_feedGoes_95 rfl (lv_at hl 1 rfl) ?_
      refine lv_iconst (v := 4) X.x X.b dX11_feedGoes_96 (by decide) ?_
      refine lv_iadd X.x X.b dX11_feedGoes_97 ?_
      refine lv_aload_n X.x X.b dX11_feedGoes_98 rfl (lv_at hl 0 rfl) ?_
      refine lv_aload_n X.x X.b dX11_feedGoes_99 rfl (lv_at hl 0 rfl) ?_
      refine gR_0_0 X h (hS 0) Nat.one_pos Nat.one_pos lk_X11_7 dX11_feedGoes_100 ?_
      refine lv_iload_n X.x X.b dX11_feedGoes_103 rfl (lv_at hl 1 rfl) ?_
      refine lv_iconst (v := 1) X.x X.b dX11_feedGoes_104 (by decide) ?_
      refine lv_iadd X.x X.b dX11_feedGoes_105 ?_
      obtain ⟨b17, hf⟩ := wGi_s hf
      refine aR_1 X h (hS 1) Nat.one_pos Nat.one_pos b17 dX11_feedGoes_106 ?_
      refine lv_iconst (v := 5) X.x X.b dX11_feedGoes_107 (by decide) ?_
      obtain ⟨y19, e18, hf⟩ := wBd_s hf
      refine ro_callvI (As := [.int (g 1 0 0 (a1 + (1 : Int32)).toNatClampNeg), .int (5 : Int32)]) (g1 := g) (x := y19) X h (kX11_isDone l hS e18) mv_X11_isDone lk_X11_214 ⟨rfl, rfl⟩ ⟨(Nat.le_of_ble_eq_true rfl), (Nat.le_of_ble_eq_true rfl)⟩ (rR_0 X h (hS 0) Nat.one_pos Nat.one_pos) rfl hl rfl (Nat.le_of_ble_eq_true rfl) ⟨Nat.zero_le _, Nat.zero_le _⟩ dX11_feedGoes_108 (fun H locs h => ?_)
      refine lv_if_eq (tgt := 118) X.x X.b dX11_feedGoes_111 (by decide) (fun c20 => ?_) (fun c20 => ?_)
      · have hf := wT c20 hf
        refine lv_iconst (v := 2) X.x X.b dX11_feedGoes_118 (by decide) ?_
        obtain ⟨b21, hf⟩ := wGi_s hf
        obtain ⟨g22, e23, hf⟩ := wLe_s hf
        refine bR_1 X h (hS 1) Nat.one_pos Nat.one_pos e23 b21 dX11_feedGoes_119 (fun H locs h => ?_)
        cases (Option.some.inj hf).trans JR
        exact ro_vret X h dX11_feedGoes_120
      · have hf := wF c20 hf
        refine lv_iconst (v := 3) X.x X.b dX11_feedGoes_114 (by decide) ?_
        refine lv_goto (tgt := 119) X.x X.b dX11_feedGoes_115 (by decide) ?_
        obtain ⟨b24, hf⟩ := wGi_s hf
        obtain ⟨g25, e26, hf⟩ := wLe_s hf
        refine bR_1 X h (hS 1) Nat.one_pos Nat.one_pos e26 b24 dX11_feedGoes_119 (fun H locs h => ?_)
        cases (Option.some.inj hf).trans JR
        exact ro_vret X h dX11_feedGoes_120
set_option maxHeartbeats 4000000 in
set_option maxRecDepth 20000 in
theorem kX11_feedGoes (l : Launch) {k : En} {S : Nat → Prop} (hS : ∀ t, S t) {a1 : Int32} {res : Mm} {g : Mm} (hf : fX11_feedGoes g a1 = some res) : Mt l yX11_feedGoes cX11_feedGoes 3 none (RmN 2 44) YR S k [.ref (k.1 + adR 0 0 0), .int a1] g none res := by
  refine Mt.of (by decide) (Nat.le_of_ble_eq_true rfl) ?_
  intro p e s m args below meth c ls X _ h hl
  have X : Cx YR S k p s m args meth c cX11_feedGoes 3 none RX11 := X
  have hl : lv_has ls 3 [(0, .ref (k.1 + adR 0 0 0)), (1, .int a1)] := hl
  have JR : res = res := rfl
  unfold fX11_feedGoes at hf
  refine lv_aload_n X.x X.b dX11_feedGoes_0 rfl (lv_at hl 0 rfl) ?_
  refine gR_0_0 X h (hS 0) Nat.one_pos Nat.one_pos lk_X11_7 dX11_feedGoes_1 ?_
  refine lv_iload_n X.x X.b dX11_feedGoes_4 rfl (lv_at hl 1 rfl) ?_
  refine lv_iconst (v := 4) X.x X.b dX11_feedGoes_5 (by decide) ?_
  refine lv_iadd X.x X.b dX11_feedGoes_6 ?_
  obtain ⟨b1, hf⟩ := wGi_s hf
  refine aR_1 X h (hS 1) Nat.one_pos Nat.one_pos b1 dX11_feedGoes_7 ?_
  obtain ⟨y2, e3, hf⟩ := wLe_s hf
  refine lv_nmi e3 ?_
  refine lv_istore_n (lv' := [(2, .int y2), (0, .ref (k.1 + adR 0 0 0)), (1, .int a1)]) X.x X.b dX11_feedGoes_8 rfl hl (by decide) rfl (fun ls hl => ?_)
  refine lv_iload_n X.x X.b dX11_feedGoes_9 rfl (lv_at hl 0 rfl) ?_
  refine lv_iconst (v := 1) X.x X.b dX11_feedGoes_10 (by decide) ?_
  refine lv_icmp_le (tgt := 15) X.x X.b dX11_feedGoes_11 (by decide) (fun c4 => ?_) (fun c4 => ?_)
  · have hf := wT c4 hf
    refine lv_aload_n X.x X.b dX11_feedGoes_15 rfl (lv_at hl 1 rfl) ?_
    refine lv_aload_n X.x X.b dX11_feedGoes_16 rfl (lv_at hl 1 rfl) ?_
    refine gR_0_0 X h (hS 0) Nat.one_pos Nat.one_pos lk_X11_7 dX11_feedGoes_17 ?_
    refine lv_iload_n X.x X.b dX11_feedGoes_20 rfl (lv_at hl 2 rfl) ?_
    refine lv_iconst (v := 1) X.x X.b dX11_feedGoes_21 (by decide) ?_
    refine lv_iadd X.x X.b dX11_feedGoes_22 ?_
    obtain ⟨b5, hf⟩ := wGi_s hf
    refine aR_1 X h (hS 1) Nat.one_pos Nat.one_pos b5 dX11_feedGoes_23 ?_
    refine lv_bipush (v := 6) X.x X.b dX11_feedGoes_24 (by decide) ?_
    obtain ⟨y7, e6, hf⟩ := wBd_s hf
    refine ro_callvI (As := [.int (g 1 0 0 (a1 + (1 : Int32)).toNatClampNeg), .int (6 : Int32)]) (g1 := g) (x := y7) X h (kX11_of l hS e6) mv_X11_of lk_X11_106 ⟨rfl, rfl⟩ ⟨(Nat.le_of_ble_eq_true rfl), (Nat.le_of_ble_eq_true rfl)⟩ (rR_0 X h (hS 0) Nat.one_pos Nat.one_pos) rfl hl rfl (Nat.le_of_ble_eq_true rfl) ⟨Nat.zero_le _, Nat.zero_le _⟩ dX11_feedGoes_26 (fun H locs h => ?_)
    refine lv_bipush (v := 8) X.x X.b dX11_feedGoes_29 (by decide) ?_
    refine lv_icmp_eq (tgt := 55) X.x X.b dX11_feedGoes_31 (by decide) (fun c8 => ?_) (fun c8 => ?_)
    · have hf := wT c8 hf
      exact wX11_feedGoes_b55 hS X h (lv_sub hl [1, 2] rfl) hf JR
    · have hf := wF c8 hf
      refine lv_iload_n X.x X.b dX11_feedGoes_34 rfl (lv_at hl 0 rfl) ?_
      refine lv_if_ne (tgt := 67) X.x X.b dX11_feedGoes_35 (by decide) (fun c12 => ?_) (fun c12 => ?_)
      · have hf := wF c12 hf
        exact wX11_feedGoes_b67 hS X h (lv_sub hl [1, 2, 0] rfl) hf JR
      · have hf := wT c12 hf
        refine lv_aload_n X.x X.b dX11_feedGoes_38 rfl (lv_at hl 1 rfl) ?_
        refine lv_aload_n X.x X.b dX11_feedGoes_39 rfl (lv_at hl 1 rfl) ?_
        refine gR_0_0 X h (hS 0) Nat.one_pos Nat.one_pos lk_X11_7 dX11_feedGoes_40 ?_
        refine lv_iload_n X.x X.b dX11_feedGoes_43 rfl (lv_at hl 2 rfl) ?_
        obtain ⟨b27, hf⟩ := wGi_s hf
        refine aR_1 X h (hS 1) Nat.one_pos Nat.one_pos b27 dX11_feedGoes_44 ?_
        refine lv_bipush (v := 6) X.x X.b dX11_feedGoes_45 (by decide) ?_
        obtain ⟨y29, e28, hf⟩ := wBd_s hf
        refine ro_callvI (As := [.int (g 1 0 0 (a1).toNatClampNeg), .int (6 : Int32)]) (g1 := g) (x := y29) X h (kX11_of l hS e28) mv_X11_of lk_X11_106 ⟨rfl, rfl⟩ ⟨(Nat.le_of_ble_eq_true rfl), (Nat.le_of_ble_eq_true rfl)⟩ (rR_0 X h (hS 0) Nat.one_pos Nat.one_pos) rfl hl rfl (Nat.le_of_ble_eq_true rfl) ⟨Nat.zero_le _, Nat.zero_le _⟩ dX11_feedGoes_47 (fun H locs h => ?_)
        refine lv_bipush (v := 8) X.x X.b dX11_feedGoes_50 (by decide) ?_
        refine lv_icmp_ne (tgt := 67) X.x X.b dX11_feedGoes_52 (by decide) (fun c30 => ?_) (fun c30 => ?_)
        · have hf := wF c30 hf
          exact wX11_feedGoes_b67 hS X h (lv_sub hl [1, 2, 0] rfl) hf JR
        · have hf := wT c30 hf
          exact wX11_feedGoes_b55 hS X h (lv_sub hl [1, 2] rfl) hf JR
  · have hf := wF c4 hf
    cases (Option.some.inj hf).trans JR
    exact ro_vret X h dX11_feedGoes_14
set_option maxHeartbeats 4000000 in
set_option maxRecDepth 20000 in
theorem kX11_isFree (l : Launch) {k : En} {S : Nat → Prop} (hS : ∀ t, S t) {g0 : Mm} {a1 : Int32} {res : Int32} (hf : fX11_isFree g0 a1 = some res) : Mt l yX11_isFree cX11_isFree 2 (some .boolean) (RmN 0 0) YR S k [.ref (k.1 + adR 0 0 0), .int a1] g0 (some (.int res)) g0 := by
  refine Mt.of (by decide) (Nat.le_of_ble_eq_true rfl) ?_
  intro p e s m args below meth c ls X _ h hl
  have X : Cx YR S k p s m args meth c cX11_isFree 2 (some .boolean) RX11 := X
  have hl : lv_has ls 2 [(0, .ref (k.1 + adR 0 0 0)), (1, .int a1)] := hl
  have JR : res = res := rfl
  unfold fX11_isFree at hf
  refine lv_aload_n X.x X.b dX11_isFree_0 rfl (lv_at hl 0 rfl) ?_
  refine gR_0_0 X h (hS 0) Nat.one_pos Nat.one_pos lk_X11_7 dX11_isFree_1 ?_
  refine lv_sipush (v := 475) X.x X.b dX11_isFree_4 (by decide) ?_
  refine lv_iload_n X.x X.b dX11_isFree_7 rfl (lv_at hl 1 rfl) ?_
  refine lv_iadd X.x X.b dX11_isFree_8 ?_
  obtain ⟨b1, hf⟩ := wGi_s hf
  refine aR_1 X h (hS 1) Nat.one_pos Nat.one_pos b1 dX11_isFree_9 ?_
  refine lv_aload_n X.x X.b dX11_isFree_10 rfl (lv_at hl 0 rfl) ?_
  refine gR_0_0 X h (hS 0) Nat.one_pos Nat.one_pos lk_X11_7 dX11_isFree_11 ?_
  refine lv_sipush (v := 470) X.x X.b dX11_isFree_14 (by decide) ?_
  refine lv_iload_n X.x X.b dX11_isFree_17 rfl (lv_at hl 1 rfl) ?_
  refine lv_iadd X.x X.b dX11_isFree_18 ?_
  obtain ⟨b2, hf⟩ := wGi_s hf
  refine aR_1 X h (hS 1) Nat.one_pos Nat.one_pos b2 dX11_isFree_19 ?_
  refine lv_icmp_ge (tgt := 27) X.x X.b dX11_isFree_20 (by decide) (fun c3 => ?_) (fun c3 => ?_)
  · have hf := wT c3 hf
    refine lv_iconst (v := 0) X.x X.b dX11_isFree_27 (by decide) ?_
    cases (Option.some.inj hf).trans JR
    exact ro_zret X h (Or.inl rfl) dX11_isFree_28
  · have hf := wF c3 hf
    refine lv_iconst (v := 1) X.x X.b dX11_isFree_23 (by decide) ?_
    refine lv_goto (tgt := 28) X.x X.b dX11_isFree_24 (by decide) ?_
    cases (Option.some.inj hf).trans JR
    exact ro_zret X h (Or.inr rfl) dX11_isFree_28
set_option maxHeartbeats 4000000 in
set_option maxRecDepth 20000 in
theorem wX11_hindrance_b97 {k : En} {S : Nat → Prop} (hS : ∀ t, S t) {a1 : Int32} {a2 : Int32} {res : Mm × Int32} (X : Cx YR S k p s m args meth c cX11_hindrance 4 (some .int) RX11) {g : Mm} {x3 : Int32} {H : Heap} {locs : List Loc} {ls : Array Slot} (h : Hx YR S k s g H locs) (hl : lv_has ls 4 [(0, .ref (k.1 + adR 0 0 0)), (1, .int a1), (2, .int a2), (3, .int x3)]) {r : Mm × Int32} (hf : fX11_hindrance_b97 g a1 a2 x3 = some r) (JR : r = res) :
    W p l e (RmN 6 137) s m args below meth c H locs 0 0 (Fin YR S k args s below (some (.int res.2)) res.1) (F0 m 97 ls []) := by
  unfold fX11_hindrance_b97 at hf
  refine lv_iload_n X.x X.b dX11_hindrance_97 rfl (lv_at hl 2 rfl) ?_
  refine lv_bipush (v := 7) X.x X.b dX11_hindrance_98 (by decide) ?_
  refine lv_icmp_ne (tgt := 128) X.x X.b dX11_hindrance_100 (by decide) (fun c8 => ?_) (fun c8 => ?_)
  · have hf := wF c8 hf
    refine lv_iconst (v := (-1)) X.x X.b dX11_hindrance_128 (by decide) ?_
    cases (Option.some.inj hf).trans JR
    exact ro_iret X h dX11_hindrance_129
  · have hf := wT c8 hf
    refine lv_iload_n X.x X.b dX11_hindrance_103 rfl (lv_at hl 3 rfl) ?_
    refine lv_aload_n X.x X.b dX11_hindrance_104 rfl (lv_at hl 0 rfl) ?_
    refine lv_iload_n X.x X.b dX11_hindrance_105 rfl (lv_at hl 1 rfl) ?_
    obtain ⟨y10, e9, hf⟩ := wBd_s hf
    refine ro_callvI (As := [.int a1]) (g1 := g) (x := y10) X h (kX11_limit l hS e9) mv_X11_limit lk_X11_192 ⟨rfl, rfl⟩ ⟨(Nat.le_of_ble_eq_true rfl), (Nat.le_of_ble_eq_true rfl)⟩ (rR_0 X h (hS 0) Nat.one_pos Nat.one_pos) rfl hl rfl (Nat.le_of_ble_eq_true rfl) ⟨Nat.zero_le _, Nat.zero_le _⟩ dX11_hindrance_106 (fun H locs h => ?_)
    refine lv_icmp_le (tgt := 128) X.x X.b dX11_hindrance_109 (by decide) (fun c11 => ?_) (fun c11 => ?_)
    · have hf := wT c11 hf
      refine lv_iconst (v := (-1)) X.x X.b dX11_hindrance_128 (by decide) ?_
      cases (Option.some.inj hf).trans JR
      exact ro_iret X h dX11_hindrance_129
    · have hf := wF c11 hf
      refine lv_aload_n X.x X.b dX11_hindrance_112 rfl (lv_at hl 0 rfl) ?_
      refine gR_0_0 X h (hS 0) Nat.one_pos Nat.one_pos lk_X11_7 dX11_hindrance_113 ?_
      refine lv_sipush (v := 483) X.x X.b dX11_hindrance_116 (by decide) ?_
      obtain ⟨b12, hf⟩ := wGi_s hf
      refine aR_1 X h (hS 1) Nat.one_pos Nat.one_pos b12 dX11_hindrance_119 ?_
      refine lv_if_ne (tgt := 128) X.x X.b dX11_hindrance_120 (by decide) (fun c13 => ?_) (fun c13 => ?_)
      · have hf := wF c13 hf
        refine lv_iconst (v := (-1)) X.x X.b dX11_hindrance_128 (by decide) ?_
        cases (Option.some.inj hf).trans JR
        exact ro_iret X h dX11_hindrance_129
      · have hf := wT c13 hf
        refine lv_bipush (v := 7) X.x X.b dX11_hindrance_123 (by decide) ?_
        refine lv_goto (tgt := 129) X.x X.b dX11_hindrance_125 (by decide) ?_
        cases (Option.some.inj hf).trans JR
        exact ro_iret X h dX11_hindrance_129
set_option maxHeartbeats 4000000 in
set_option maxRecDepth 20000 in
theorem wX11_hindrance_b72 {k : En} {S : Nat → Prop} (hS : ∀ t, S t) {a1 : Int32} {a2 : Int32} {res : Mm × Int32} (X : Cx YR S k p s m args meth c cX11_hindrance 4 (some .int) RX11) {g : Mm} {x3 : Int32} {H : Heap} {locs : List Loc} {ls : Array Slot} (h : Hx YR S k s g H locs) (hl : lv_has ls 4 [(0, .ref (k.1 + adR 0 0 0)), (1, .int a1), (2, .int a2), (3, .int x3)]) {r : Mm × Int32} (hf : fX11_hindrance_b72 g a1 a2 x3 = some r) (JR : r = res) :
    W p l e (RmN 6 137) s m args below meth c H locs 0 0 (Fin YR S k args s below (some (.int res.2)) res.1) (F0 m 72 ls []) := by
  unfold fX11_hindrance_b72 at hf
  refine lv_aload_n X.x X.b dX11_hindrance_72 rfl (lv_at hl 0 rfl) ?_
  refine gR_0_23 X h (hS 0) Nat.one_pos Nat.one_pos lk_X11_59 dX11_hindrance_73 ?_
  refine lv_iload_n X.x X.b dX11_hindrance_76 rfl (lv_at hl 2 rfl) ?_
  obtain ⟨b6, hf⟩ := wGi_s hf
  refine aR_16 X h (hS 16) Nat.one_pos Nat.one_pos b6 dX11_hindrance_77 ?_
  refine lv_iconst (v := (-1)) X.x X.b dX11_hindrance_78 (by decide) ?_
  refine lv_icmp_eq (tgt := 97) X.x X.b dX11_hindrance_79 (by decide) (fun c7 => ?_) (fun c7 => ?_)
  · have hf := wT c7 hf
    exact wX11_hindrance_b97 hS X h (lv_sub hl [0, 1, 2, 3] rfl) hf JR
  · have hf := wF c7 hf
    refine lv_aload_n X.x X.b dX11_hindrance_82 rfl (lv_at hl 0 rfl) ?_
    refine lv_aload_n X.x X.b dX11_hindrance_83 rfl (lv_at hl 0 rfl) ?_
    refine gR_0_23 X h (hS 0) Nat.one_pos Nat.one_pos lk_X11_59 dX11_hindrance_84 ?_
    refine lv_iload_n X.x X.b dX11_hindrance_87 rfl (lv_at hl 2 rfl) ?_
    obtain ⟨b14, hf⟩ := wGi_s hf
    refine aR_16 X h (hS 16) Nat.one_pos Nat.one_pos b14 dX11_hindrance_88 ?_
    obtain ⟨y16, e15, hf⟩ := wBd_s hf
    refine ro_callvI (As := [.int (g 16 0 0 (a2).toNatClampNeg)]) (g1 := g) (x := y16) X h (kX11_isFree l hS e15) mv_X11_isFree lk_X11_224 ⟨rfl, rfl⟩ ⟨(Nat.le_of_ble_eq_true rfl), (Nat.le_of_ble_eq_true rfl)⟩ (rR_0 X h (hS 0) Nat.one_pos Nat.one_pos) rfl hl rfl (Nat.le_of_ble_eq_true rfl) ⟨Nat.zero_le _, Nat.zero_le _⟩ dX11_hindrance_89 (fun H locs h => ?_)
    refine lv_if_ne (tgt := 97) X.x X.b dX11_hindrance_92 (by decide) (fun c17 => ?_) (fun c17 => ?_)
    · have hf := wF c17 hf
      exact wX11_hindrance_b97 hS X h (lv_sub hl [0, 1, 2, 3] rfl) hf JR
    · have hf := wT c17 hf
      refine lv_iconst (v := 3) X.x X.b dX11_hindrance_95 (by decide) ?_
      cases (Option.some.inj hf).trans JR
      exact ro_iret X h dX11_hindrance_96
set_option maxHeartbeats 4000000 in
set_option maxRecDepth 20000 in
theorem wX11_hindrance_b46 {k : En} {S : Nat → Prop} (hS : ∀ t, S t) {a1 : Int32} {a2 : Int32} {res : Mm × Int32} (X : Cx YR S k p s m args meth c cX11_hindrance 4 (some .int) RX11) {g : Mm} {x3 : Int32} {H : Heap} {locs : List Loc} {ls : Array Slot} (h : Hx YR S k s g H locs) (hl : lv_has ls 4 [(0, .ref (k.1 + adR 0 0 0)), (1, .int a1), (2, .int a2), (3, .int x3)]) {r : Mm × Int32} (hf : fX11_hindrance_b46 g a1 a2 x3 = some r) (JR : r = res) :
    W p l e (RmN 6 137) s m args below meth c H locs 0 0 (Fin YR S k args s below (some (.int res.2)) res.1) (F0 m 46 ls []) := by
  unfold fX11_hindrance_b46 at hf
  refine lv_iload_n X.x X.b dX11_hindrance_46 rfl (lv_at hl 2 rfl) ?_
  refine lv_bipush (v := 7) X.x X.b dX11_hindrance_47 (by decide) ?_
  refine lv_icmp_ne (tgt := 72) X.x X.b dX11_hindrance_49 (by decide) (fun c5 => ?_) (fun c5 => ?_)
  · have hf := wF c5 hf
    exact wX11_hindrance_b72 hS X h (lv_sub hl [0, 1, 2, 3] rfl) hf JR
  · have hf := wT c5 hf
    refine lv_iload_n X.x X.b dX11_hindrance_52 rfl (lv_at hl 3 rfl) ?_
    refine lv_aload_n X.x X.b dX11_hindrance_53 rfl (lv_at hl 0 rfl) ?_
    refine lv_iload_n X.x X.b dX11_hindrance_54 rfl (lv_at hl 1 rfl) ?_
    refine lv_iconst (v := 2) X.x X.b dX11_hindrance_55 (by decide) ?_
    obtain ⟨y19, e18, hf⟩ := wBd_s hf
    refine ro_callvI (As := [.int a1, .int (2 : Int32)]) (g1 := g) (x := y19) X h (kX11_of l hS e18) mv_X11_of lk_X11_106 ⟨rfl, rfl⟩ ⟨(Nat.le_of_ble_eq_true rfl), (Nat.le_of_ble_eq_true rfl)⟩ (rR_0 X h (hS 0) Nat.one_pos Nat.one_pos) rfl hl rfl (Nat.le_of_ble_eq_true rfl) ⟨Nat.zero_le _, Nat.zero_le _⟩ dX11_hindrance_56 (fun H locs h => ?_)
    refine lv_aload_n X.x X.b dX11_hindrance_59 rfl (lv_at hl 0 rfl) ?_
    refine lv_iload_n X.x X.b dX11_hindrance_60 rfl (lv_at hl 1 rfl) ?_
    refine lv_bipush (v := 7) X.x X.b dX11_hindrance_61 (by decide) ?_
    obtain ⟨y21, e20, hf⟩ := wBd_s hf
    refine ro_callvI (As := [.int a1, .int (7 : Int32)]) (g1 := g) (x := y21) X h (kX11_ticksOf l hS e20) mv_X11_ticksOf lk_X11_221 ⟨rfl, rfl⟩ ⟨(Nat.le_of_ble_eq_true rfl), (Nat.le_of_ble_eq_true rfl)⟩ (rR_0 X h (hS 0) Nat.one_pos Nat.one_pos) rfl hl rfl (Nat.le_of_ble_eq_true rfl) ⟨Nat.zero_le _, Nat.zero_le _⟩ dX11_hindrance_63 (fun H locs h => ?_)
    refine lv_isub X.x X.b dX11_hindrance_66 ?_
    refine lv_icmp_ge (tgt := 72) X.x X.b dX11_hindrance_67 (by decide) (fun c22 => ?_) (fun c22 => ?_)
    · have hf := wT c22 hf
      exact wX11_hindrance_b72 hS X h (lv_sub hl [0, 1, 2, 3] rfl) hf JR
    · have hf := wF c22 hf
      refine lv_iconst (v := 2) X.x X.b dX11_hindrance_70 (by decide) ?_
      cases (Option.some.inj hf).trans JR
      exact ro_iret X h dX11_hindrance_71
set_option maxHeartbeats 4000000 in
set_option maxRecDepth 20000 in
theorem kX11_hindrance (l : Launch) {k : En} {S : Nat → Prop} (hS : ∀ t, S t) {a1 : Int32} {a2 : Int32} {res : Mm × Int32} {g : Mm} (hf : fX11_hindrance g a1 a2 = some res) : Mt l yX11_hindrance cX11_hindrance 4 (some .int) (RmN 6 137) YR S k [.ref (k.1 + adR 0 0 0), .int a1, .int a2] g (some (.int res.2)) res.1 := by
  refine Mt.of (by decide) (Nat.le_of_ble_eq_true rfl) ?_
  intro p e s m args below meth c ls X _ h hl
  have X : Cx YR S k p s m args meth c cX11_hindrance 4 (some .int) RX11 := X
  have hl : lv_has ls 4 [(0, .ref (k.1 + adR 0 0 0)), (1, .int a1), (2, .int a2)] := hl
  have JR : res = res := rfl
  unfold fX11_hindrance at hf
  refine lv_aload_n X.x X.b dX11_hindrance_0 rfl (lv_at hl 0 rfl) ?_
  refine gR_0_0 X h (hS 0) Nat.one_pos Nat.one_pos lk_X11_7 dX11_hindrance_1 ?_
  refine lv_sipush (v := 480) X.x X.b dX11_hindrance_4 (by decide) ?_
  obtain ⟨b1, hf⟩ := wGi_s hf
  refine aR_1 X h (hS 1) Nat.one_pos Nat.one_pos b1 dX11_hindrance_7 ?_
  obtain ⟨y2, e3, hf⟩ := wLe_s hf
  refine lv_nmi e3 ?_
  refine lv_istore_n (lv' := [(3, .int y2), (0, .ref (k.1 + adR 0 0 0)), (1, .int a1), (2, .int a2)]) X.x X.b dX11_hindrance_8 rfl hl (by decide) rfl (fun ls hl => ?_)
  refine lv_iload_n X.x X.b dX11_hindrance_9 rfl (lv_at hl 3 rfl) ?_
  refine lv_iconst (v := 5) X.x X.b dX11_hindrance_10 (by decide) ?_
  refine lv_icmp_ne (tgt := 46) X.x X.b dX11_hindrance_11 (by decide) (fun c4 => ?_) (fun c4 => ?_)
  · have hf := wF c4 hf
    exact wX11_hindrance_b46 hS X h (lv_sub hl [1, 2, 3, 0] rfl) hf JR
  · have hf := wT c4 hf
    refine lv_aload_n X.x X.b dX11_hindrance_14 rfl (lv_at hl 1 rfl) ?_
    refine lv_iload_n X.x X.b dX11_hindrance_15 rfl (lv_at hl 2 rfl) ?_
    obtain ⟨y24, e23, hf⟩ := wBd_s hf
    refine ro_callvI (As := [.int a1]) (g1 := g) (x := y24) X h (kX11_bagsTo l hS e23) mv_X11_bagsTo lk_X11_189 ⟨rfl, rfl⟩ ⟨(Nat.le_of_ble_eq_true rfl), (Nat.le_of_ble_eq_true rfl)⟩ (rR_0 X h (hS 0) Nat.one_pos Nat.one_pos) rfl hl rfl (Nat.le_of_ble_eq_true rfl) ⟨Nat.zero_le _, Nat.zero_le _⟩ dX11_hindrance_16 (fun H locs h => ?_)
    refine lv_if_le (tgt := 46) X.x X.b dX11_hindrance_19 (by decide) (fun c25 => ?_) (fun c25 => ?_)
    · have hf := wT c25 hf
      exact wX11_hindrance_b46 hS X h (lv_sub hl [1, 2, 3, 0] rfl) hf JR
    · have hf := wF c25 hf
      refine lv_iload_n X.x X.b dX11_hindrance_22 rfl (lv_at hl 0 rfl) ?_
      refine lv_i2l X.x X.b dX11_hindrance_23 rfl ?_
      refine lv_aload_n X.x X.b dX11_hindrance_24 rfl (lv_at hl 1 rfl) ?_
      refine lv_iload_n X.x X.b dX11_hindrance_25 rfl (lv_at hl 2 rfl) ?_
      refine lv_iconst (v := 2) X.x X.b dX11_hindrance_26 (by decide) ?_
      obtain ⟨y27, e26, hf⟩ := wBd_s hf
      refine ro_callvI (As := [.int a1, .int (2 : Int32)]) (g1 := g) (x := y27) X h (kX11_of l hS e26) mv_X11_of lk_X11_106 ⟨rfl, rfl⟩ ⟨(Nat.le_of_ble_eq_true rfl), (Nat.le_of_ble_eq_true rfl)⟩ (rR_0 X h (hS 0) Nat.one_pos Nat.one_pos) rfl hl rfl (Nat.le_of_ble_eq_true rfl) ⟨Nat.zero_le _, Nat.zero_le _⟩ dX11_hindrance_27 (fun H locs h => ?_)
      refine lv_i2l X.x X.b dX11_hindrance_30 rfl ?_
      refine lv_aload_n X.x X.b dX11_hindrance_31 rfl (lv_at hl 1 rfl) ?_
      refine lv_iconst (v := 2) X.x X.b dX11_hindrance_32 (by decide) ?_
      refine lv_iload_n X.x X.b dX11_hindrance_33 rfl (lv_at hl 2 rfl) ?_
      refine lv_iconst (v := (-1)) X.x X.b dX11_hindrance_34 (by decide) ?_
      obtain ⟨g30, y29, e28, hf⟩ := wB2_s hf
      refine ro_callvI (As := [.int (2 : Int32), .int a1, .int (-1 : Int32)]) (g1 := g30) (x := y29) X h (kX11_atLeast0 l hS e28) mv_X11_atLeast0 lk_X11_218 ⟨rfl, rfl⟩ ⟨(Nat.le_of_ble_eq_true rfl), (Nat.le_of_ble_eq_true rfl)⟩ (rR_0 X h (hS 0) Nat.one_pos Nat.one_pos) rfl hl rfl (Nat.le_of_ble_eq_true rfl) ⟨Nat.zero_le _, Nat.zero_le _⟩ dX11_hindrance_35 (fun H locs h => ?_)
      refine lv_i2l X.x X.b dX11_hindrance_38 rfl ?_
      refine lv_ladd X.x X.b dX11_hindrance_39 ?_
      refine W.lcmp X.x X.b dX11_hindrance_40 ?_
      refine lv_if_ge (tgt := 46) X.x X.b dX11_hindrance_41 (by decide) (fun c31 => ?_) (fun c31 => ?_)
      · have hf := wT c31 hf
        exact wX11_hindrance_b46 hS X h (lv_sub hl [1, 2, 3, 0] rfl) hf JR
      · have hf := wF c31 hf
        refine lv_iconst (v := 4) X.x X.b dX11_hindrance_44 (by decide) ?_
        cases (Option.some.inj hf).trans JR
        exact ro_iret X h dX11_hindrance_45
set_option maxHeartbeats 4000000 in
set_option maxRecDepth 20000 in
theorem wX11_begins_b49 {k : En} {S : Nat → Prop} (hS : ∀ t, S t) {a1 : Int32} {a2 : Int32} {res : Mm} (X : Cx YR S k p s m args meth c cX11_begins 3 none RX11) {g : Mm} {H : Heap} {locs : List Loc} {ls : Array Slot} (h : Hx YR S k s g H locs) (hl : lv_has ls 3 [(0, .ref (k.1 + adR 0 0 0)), (1, .int a1), (2, .int a2)]) {r : Mm} (hf : fX11_begins_b49 g a1 a2 = some r) (JR : r = res) :
    W p l e (RmN 3 64) s m args below meth c H locs 0 0 (Fin YR S k args s below none res) (F0 m 49 ls []) := by
  unfold fX11_begins_b49 at hf
  refine lv_iload_n X.x X.b dX11_begins_49 rfl (lv_at hl 2 rfl) ?_
  refine lv_bipush (v := 7) X.x X.b dX11_begins_50 (by decide) ?_
  refine lv_icmp_ne (tgt := 83) X.x X.b dX11_begins_52 (by decide) (fun c8 => ?_) (fun c8 => ?_)
  · have hf := wF c8 hf
    cases (Option.some.inj hf).trans JR
    exact ro_vret X h dX11_begins_83
  · have hf := wT c8 hf
    refine lv_aload_n X.x X.b dX11_begins_55 rfl (lv_at hl 0 rfl) ?_
    refine gR_0_0 X h (hS 0) Nat.one_pos Nat.one_pos lk_X11_7 dX11_begins_56 ?_
    refine lv_sipush (v := 480) X.x X.b dX11_begins_59 (by decide) ?_
    obtain ⟨b9, hf⟩ := wGi_s hf
    refine aR_1 X h (hS 1) Nat.one_pos Nat.one_pos b9 dX11_begins_62 ?_
    refine lv_aload_n X.x X.b dX11_begins_63 rfl (lv_at hl 0 rfl) ?_
    refine lv_iload_n X.x X.b dX11_begins_64 rfl (lv_at hl 1 rfl) ?_
    obtain ⟨y11, e10, hf⟩ := wBd_s hf
    refine ro_callvI (As := [.int a1]) (g1 := g) (x := y11) X h (kX11_limit l hS e10) mv_X11_limit lk_X11_192 ⟨rfl, rfl⟩ ⟨(Nat.le_of_ble_eq_true rfl), (Nat.le_of_ble_eq_true rfl)⟩ (rR_0 X h (hS 0) Nat.one_pos Nat.one_pos) rfl hl rfl (Nat.le_of_ble_eq_true rfl) ⟨Nat.zero_le _, Nat.zero_le _⟩ dX11_begins_65 (fun H locs h => ?_)
    refine lv_icmp_le (tgt := 83) X.x X.b dX11_begins_68 (by decide) (fun c12 => ?_) (fun c12 => ?_)
    · have hf := wT c12 hf
      cases (Option.some.inj hf).trans JR
      exact ro_vret X h dX11_begins_83
    · have hf := wF c12 hf
      refine lv_aload_n X.x X.b dX11_begins_71 rfl (lv_at hl 0 rfl) ?_
      refine gR_0_0 X h (hS 0) Nat.one_pos Nat.one_pos lk_X11_7 dX11_begins_72 ?_
      refine lv_sipush (v := 483) X.x X.b dX11_begins_75 (by decide) ?_
      refine lv_dup2_11 X.x X.b dX11_begins_78 rfl rfl ?_
      obtain ⟨b13, hf⟩ := wGi_s hf
      refine aR_1 X h (hS 1) Nat.one_pos Nat.one_pos b13 dX11_begins_79 ?_
      refine lv_iconst (v := 1) X.x X.b dX11_begins_80 (by decide) ?_
      refine lv_isub X.x X.b dX11_begins_81 ?_
      obtain ⟨b14, hf⟩ := wGi_s hf
      obtain ⟨g15, e16, hf⟩ := wLe_s hf
      refine bR_1 X h (hS 1) Nat.one_pos Nat.one_pos e16 b14 dX11_begins_82 (fun H locs h => ?_)
      cases (Option.some.inj hf).trans JR
      exact ro_vret X h dX11_begins_83
set_option maxHeartbeats 4000000 in
set_option maxRecDepth 20000 in
theorem kX11_begins (l : Launch) {k : En} {S : Nat → Prop} (hS : ∀ t, S t) {a1 : Int32} {a2 : Int32} {res : Mm} {g : Mm} (hf : fX11_begins g a1 a2 = some res) : Mt l yX11_begins cX11_begins 3 none (RmN 3 64) YR S k [.ref (k.1 + adR 0 0 0), .int a1, .int a2] g none res := by
  refine Mt.of (by decide) (Nat.le_of_ble_eq_true rfl) ?_
  intro p e s m args below meth c ls X _ h hl
  have X : Cx YR S k p s m args meth c cX11_begins 3 none RX11 := X
  have hl : lv_has ls 3 [(0, .ref (k.1 + adR 0 0 0)), (1, .int a1), (2, .int a2)] := hl
  have JR : res = res := rfl
  unfold fX11_begins at hf
  refine lv_aload_n X.x X.b dX11_begins_0 rfl (lv_at hl 0 rfl) ?_
  refine gR_0_0 X h (hS 0) Nat.one_pos Nat.one_pos lk_X11_7 dX11_begins_1 ?_
  refine lv_bipush (v := 30) X.x X.b dX11_begins_4 (by decide) ?_
  refine lv_iload_n X.x X.b dX11_begins_6 rfl (lv_at hl 1 rfl) ?_
  refine lv_imul X.x X.b dX11_begins_7 ?_
  refine lv_bipush (v := 11) X.x X.b dX11_begins_8 (by decide) ?_
  refine lv_iadd X.x X.b dX11_begins_10 ?_
  refine lv_iload_n X.x X.b dX11_begins_11 rfl (lv_at hl 2 rfl) ?_
  refine lv_iadd X.x X.b dX11_begins_12 ?_
  refine lv_aload_n X.x X.b dX11_begins_13 rfl (lv_at hl 0 rfl) ?_
  refine lv_iload_n X.x X.b dX11_begins_14 rfl (lv_at hl 1 rfl) ?_
  refine lv_iload_n X.x X.b dX11_begins_15 rfl (lv_at hl 2 rfl) ?_
  obtain ⟨y2, e1, hf⟩ := wBd_s hf
  refine ro_callvI (As := [.int a1, .int a2]) (g1 := g) (x := y2) X h (kX11_ticksOf l hS e1) mv_X11_ticksOf lk_X11_221 ⟨rfl, rfl⟩ ⟨(Nat.le_of_ble_eq_true rfl), (Nat.le_of_ble_eq_true rfl)⟩ (rR_0 X h (hS 0) Nat.one_pos Nat.one_pos) rfl hl rfl (Nat.le_of_ble_eq_true rfl) ⟨Nat.zero_le _, Nat.zero_le _⟩ dX11_begins_16 (fun H locs h => ?_)
  obtain ⟨b3, hf⟩ := wGi_s hf
  obtain ⟨g4, e5, hf⟩ := wLe_s hf
  refine bR_1 X h (hS 1) Nat.one_pos Nat.one_pos e5 b3 dX11_begins_19 (fun H locs h => ?_)
  refine lv_aload_n X.x X.b dX11_begins_20 rfl (lv_at hl 0 rfl) ?_
  refine gR_0_23 X h (hS 0) Nat.one_pos Nat.one_pos lk_X11_59 dX11_begins_21 ?_
  refine lv_iload_n X.x X.b dX11_begins_24 rfl (lv_at hl 2 rfl) ?_
  obtain ⟨b6, hf⟩ := wGi_s hf
  refine aR_16 X h (hS 16) Nat.one_pos Nat.one_pos b6 dX11_begins_25 ?_
  refine lv_iconst (v := (-1)) X.x X.b dX11_begins_26 (by decide) ?_
  refine lv_icmp_eq (tgt := 49) X.x X.b dX11_begins_27 (by decide) (fun c7 => ?_) (fun c7 => ?_)
  · have hf := wT c7 hf
    exact wX11_begins_b49 hS X h (lv_sub hl [0, 1, 2] rfl) hf JR
  · have hf := wF c7 hf
    refine lv_aload_n X.x X.b dX11_begins_30 rfl (lv_at hl 0 rfl) ?_
    refine gR_0_0 X h (hS 0) Nat.one_pos Nat.one_pos lk_X11_7 dX11_begins_31 ?_
    refine lv_sipush (v := 475) X.x X.b dX11_begins_34 (by decide) ?_
    refine lv_aload_n X.x X.b dX11_begins_37 rfl (lv_at hl 0 rfl) ?_
    refine gR_0_23 X h (hS 0) Nat.one_pos Nat.one_pos lk_X11_59 dX11_begins_38 ?_
    refine lv_iload_n X.x X.b dX11_begins_41 rfl (lv_at hl 2 rfl) ?_
    obtain ⟨b17, hf⟩ := wGi_s hf
    refine aR_16 X h (hS 16) Nat.one_pos Nat.one_pos b17 dX11_begins_42 ?_
    refine lv_iadd X.x X.b dX11_begins_43 ?_
    refine lv_dup2_11 X.x X.b dX11_begins_44 rfl rfl ?_
    obtain ⟨b18, hf⟩ := wGi_s hf
    refine aR_1 X h (hS 1) Nat.one_pos Nat.one_pos b18 dX11_begins_45 ?_
    refine lv_iconst (v := 1) X.x X.b dX11_begins_46 (by decide) ?_
    refine lv_iadd X.x X.b dX11_begins_47 ?_
    obtain ⟨b19, hf⟩ := wGi_s hf
    obtain ⟨g20, e21, hf⟩ := wLe_s hf
    refine bR_1 X h (hS 1) Nat.one_pos Nat.one_pos e21 b19 dX11_begins_48 (fun H locs h => ?_)
    exact wX11_begins_b49 hS X h (lv_sub hl [0, 1, 2] rfl) hf JR
set_option maxHeartbeats 4000000 in
set_option maxRecDepth 20000 in
theorem wX11_serves_b202 {k : En} {S : Nat → Prop} (hS : ∀ t, S t) {a1 : Int32} {res : Mm} (X : Cx YR S k p s m args meth c cX11_serves 5 none RX11) {g : Mm} {x2 : Int32} {H : Heap} {locs : List Loc} {ls : Array Slot} (h : Hx YR S k s g H locs) (hl : lv_has ls 5 [(0, .ref (k.1 + adR 0 0 0)), (1, .int a1), (2, .int x2)]) {r : (Mm × Int32) ⊕ (Mm)} (hf : fX11_serves_b202 g a1 x2 = some r) (J1 : ∀ (g : Mm) (x2 : Int32), r = .inl (g, x2) → ∀ (H : Heap) (locs : List Loc) (ls : Array Slot), Hx YR S k s g H locs → lv_has ls 5 [(0, .ref (k.1 + adR 0 0 0)), (1, .int a1), (2, .int x2)] → W p l e (RmN 7 160) s m args below meth c H locs 0 0 (Fin YR S k args s below none res) (F0 m 9 ls [])) (JR : ∀ t1, r = .inr t1 → t1 = res) :
    W p l e (RmN 7 160) s m args below meth c H locs 0 0 (Fin YR S k args s below none res) (F0 m 202 ls []) := by
  unfold fX11_serves_b202 at hf
  obtain ⟨y17, e18, hf⟩ := wLe_s hf
  refine lv_iinc (v := y17) (lv' := [(2, .int y17), (0, .ref (k.1 + adR 0 0 0)), (1, .int a1)]) X.x X.b dX11_serves_202 hl (k := 2) rfl (by rw [e18]; rfl) (by decide) rfl (fun ls hl => ?_)
  refine lv_goto (tgt := 9) X.x X.b dX11_serves_205 (by decide) ?_
  exact J1 _ _ (Option.some.inj hf).symm _ _ _ h (lv_sub hl [1, 2, 0] rfl)
set_option maxHeartbeats 4000000 in
set_option maxRecDepth 20000 in
theorem wX11_serves_b172 {k : En} {S : Nat → Prop} (hS : ∀ t, S t) {a1 : Int32} {res : Mm} (X : Cx YR S k p s m args meth c cX11_serves 5 none RX11) {g : Mm} {x2 : Int32} {z1 : Int32} {z2 : Int32} {H : Heap} {locs : List Loc} {ls : Array Slot} (h : Hx YR S k s g H locs) (hl : lv_has ls 5 [(0, .ref (k.1 + adR 0 0 0)), (1, .int a1), (2, .int x2)]) {r : (Mm × Int32) ⊕ (Mm)} (hf : fX11_serves_b172 g a1 x2 z1 z2 = some r) (J1 : ∀ (g : Mm) (x2 : Int32), r = .inl (g, x2) → ∀ (H : Heap) (locs : List Loc) (ls : Array Slot), Hx YR S k s g H locs → lv_has ls 5 [(0, .ref (k.1 + adR 0 0 0)), (1, .int a1), (2, .int x2)] → W p l e (RmN 7 160) s m args below meth c H locs 0 0 (Fin YR S k args s below none res) (F0 m 9 ls [])) (JR : ∀ t1, r = .inr t1 → t1 = res) :
    W p l e (RmN 7 160) s m args below meth c H locs 0 0 (Fin YR S k args s below none res) (F0 m 172 ls [.int z2, .int z1, .ref (k.1 + adR 21 0 0)]) := by
  unfold fX11_serves_b172 at hf
  obtain ⟨b31, hf⟩ := wGi_s hf
  obtain ⟨g32, e33, hf⟩ := wLe_s hf
  refine bR_21 X h (hS 21) Nat.one_pos Nat.one_pos e33 b31 dX11_serves_172 (fun H locs h => ?_)
  refine lv_goto (tgt := 202) X.x X.b dX11_serves_173 (by decide) ?_
  exact wX11_serves_b202 hS X h (lv_sub hl [0, 1, 2] rfl) hf J1 JR
set_option maxHeartbeats 4000000 in
set_option maxRecDepth 20000 in
theorem wX11_serves_b136 {k : En} {S : Nat → Prop} (hS : ∀ t, S t) {a1 : Int32} {res : Mm} (X : Cx YR S k p s m args meth c cX11_serves 5 none RX11) {g : Mm} {x2 : Int32} {x4 : Int32} {H : Heap} {locs : List Loc} {ls : Array Slot} (h : Hx YR S k s g H locs) (hl : lv_has ls 5 [(0, .ref (k.1 + adR 0 0 0)), (1, .int a1), (2, .int x2), (4, .int x4)]) {r : (Mm × Int32) ⊕ (Mm)} (hf : fX11_serves_b136 g a1 x2 x4 = some r) (J1 : ∀ (g : Mm) (x2 : Int32), r = .inl (g, x2) → ∀ (H : Heap) (locs : List Loc) (ls : Array Slot), Hx YR S k s g H locs → lv_has ls 5 [(0, .ref (k.1 + adR 0 0 0)), (1, .int a1), (2, .int x2)] → W p l e (RmN 7 160) s m args below meth c H locs 0 0 (Fin YR S k args s below none res) (F0 m 9 ls [])) (JR : ∀ t1, r = .inr t1 → t1 = res) :
    W p l e (RmN 7 160) s m args below meth c H locs 0 0 (Fin YR S k args s below none res) (F0 m 136 ls []) := by
  unfold fX11_serves_b136 at hf
  refine lv_aload_n X.x X.b dX11_serves_136 rfl (lv_at hl 0 rfl) ?_
  refine gR_0_35 X h (hS 0) Nat.one_pos Nat.one_pos lk_X11_86 dX11_serves_137 ?_
  refine lv_iload_n X.x X.b dX11_serves_140 rfl (lv_at hl 1 rfl) ?_
  refine lv_aload_n X.x X.b dX11_serves_141 rfl (lv_at hl 0 rfl) ?_
  refine gR_0_35 X h (hS 0) Nat.one_pos Nat.one_pos lk_X11_86 dX11_serves_142 ?_
  refine lv_iload_n X.x X.b dX11_serves_145 rfl (lv_at hl 1 rfl) ?_
  obtain ⟨b28, hf⟩ := wGi_s hf
  refine aR_21 X h (hS 21) Nat.one_pos Nat.one_pos b28 dX11_serves_146 ?_
  refine lv_iconst (v := (-1)) X.x X.b dX11_serves_147 (by decide) ?_
  refine lv_icmp_ne (tgt := 166) X.x X.b dX11_serves_148 (by decide) (fun c29 => ?_) (fun c29 => ?_)
  · have hf := wF c29 hf
    refine lv_aload_n X.x X.b dX11_serves_166 rfl (lv_at hl 0 rfl) ?_
    refine gR_0_35 X h (hS 0) Nat.one_pos Nat.one_pos lk_X11_86 dX11_serves_167 ?_
    refine lv_iload_n X.x X.b dX11_serves_170 rfl (lv_at hl 1 rfl) ?_
    obtain ⟨b30, hf⟩ := wGi_s hf
    refine aR_21 X h (hS 21) Nat.one_pos Nat.one_pos b30 dX11_serves_171 ?_
    exact wX11_serves_b172 hS X h (lv_sub hl [0, 1, 2] rfl) hf J1 JR
  · have hf := wT c29 hf
    refine lv_iload X.x X.b dX11_serves_151 (lv_at hl 3 rfl) ?_
    refine lv_iconst (v := (-1)) X.x X.b dX11_serves_153 (by decide) ?_
    refine lv_icmp_ne (tgt := 161) X.x X.b dX11_serves_154 (by decide) (fun c34 => ?_) (fun c34 => ?_)
    · have hf := wF c34 hf
      refine lv_iload X.x X.b dX11_serves_161 (lv_at hl 3 rfl) ?_
      refine lv_goto (tgt := 172) X.x X.b dX11_serves_163 (by decide) ?_
      exact wX11_serves_b172 hS X h (lv_sub hl [0, 1, 2] rfl) hf J1 JR
    · have hf := wT c34 hf
      refine lv_iconst (v := 2) X.x X.b dX11_serves_157 (by decide) ?_
      refine lv_goto (tgt := 172) X.x X.b dX11_serves_158 (by decide) ?_
      exact wX11_serves_b172 hS X h (lv_sub hl [0, 1, 2] rfl) hf J1 JR
set_option maxHeartbeats 4000000 in
set_option maxRecDepth 20000 in
theorem wX11_serves_b112 {k : En} {S : Nat → Prop} (hS : ∀ t, S t) {a1 : Int32} {res : Mm} (X : Cx YR S k p s m args meth c cX11_serves 5 none RX11) {g : Mm} {x2 : Int32} {x3 : Int32} {H : Heap} {locs : List Loc} {ls : Array Slot} (h : Hx YR S k s g H locs) (hl : lv_has ls 5 [(0, .ref (k.1 + adR 0 0 0)), (1, .int a1), (2, .int x2), (3, .int x3)]) {r : (Mm × Int32) ⊕ (Mm)} (hf : fX11_serves_b112 g a1 x2 x3 = some r) (J1 : ∀ (g : Mm) (x2 : Int32), r = .inl (g, x2) → ∀ (H : Heap) (locs : List Loc) (ls : Array Slot), Hx YR S k s g H locs → lv_has ls 5 [(0, .ref (k.1 + adR 0 0 0)), (1, .int a1), (2, .int x2)] → W p l e (RmN 7 160) s m args below meth c H locs 0 0 (Fin YR S k args s below none res) (F0 m 9 ls [])) (JR : ∀ t1, r = .inr t1 → t1 = res) :
    W p l e (RmN 7 160) s m args below meth c H locs 0 0 (Fin YR S k args s below none res) (F0 m 112 ls []) := by
  unfold fX11_serves_b112 at hf
  refine lv_iload_n X.x X.b dX11_serves_112 rfl (lv_at hl 3 rfl) ?_
  refine lv_if_eq (tgt := 176) X.x X.b dX11_serves_113 (by decide) (fun c13 => ?_) (fun c13 => ?_)
  · have hf := wT c13 hf
    refine lv_aload_n X.x X.b dX11_serves_176 rfl (lv_at hl 0 rfl) ?_
    refine lv_iload_n X.x X.b dX11_serves_177 rfl (lv_at hl 1 rfl) ?_
    refine lv_iload_n X.x X.b dX11_serves_178 rfl (lv_at hl 2 rfl) ?_
    obtain ⟨y15, e14, hf⟩ := wBd_s hf
    refine ro_callvI (As := [.int a1, .int x2]) (g1 := g) (x := y15) X h (kX11_isDone l hS e14) mv_X11_isDone lk_X11_214 ⟨rfl, rfl⟩ ⟨(Nat.le_of_ble_eq_true rfl), (Nat.le_of_ble_eq_true rfl)⟩ (rR_0 X h (hS 0) Nat.one_pos Nat.one_pos) rfl hl rfl (Nat.le_of_ble_eq_true rfl) ⟨Nat.zero_le _, Nat.zero_le _⟩ dX11_serves_179 (fun H locs h => ?_)
    refine lv_if_ne (tgt := 202) X.x X.b dX11_serves_182 (by decide) (fun c16 => ?_) (fun c16 => ?_)
    · have hf := wF c16 hf
      exact wX11_serves_b202 hS X h (lv_sub hl [0, 1, 2] rfl) hf J1 JR
    · have hf := wT c16 hf
      refine lv_aload_n X.x X.b dX11_serves_185 rfl (lv_at hl 0 rfl) ?_
      refine gR_0_35 X h (hS 0) Nat.one_pos Nat.one_pos lk_X11_86 dX11_serves_186 ?_
      refine lv_iload_n X.x X.b dX11_serves_189 rfl (lv_at hl 1 rfl) ?_
      obtain ⟨b19, hf⟩ := wGi_s hf
      refine aR_21 X h (hS 21) Nat.one_pos Nat.one_pos b19 dX11_serves_190 ?_
      refine lv_iconst (v := (-1)) X.x X.b dX11_serves_191 (by decide) ?_
      refine lv_icmp_ne (tgt := 202) X.x X.b dX11_serves_192 (by decide) (fun c20 => ?_) (fun c20 => ?_)
      · have hf := wF c20 hf
        exact wX11_serves_b202 hS X h (lv_sub hl [0, 1, 2] rfl) hf J1 JR
      · have hf := wT c20 hf
        refine lv_aload_n X.x X.b dX11_serves_195 rfl (lv_at hl 0 rfl) ?_
        refine gR_0_35 X h (hS 0) Nat.one_pos Nat.one_pos lk_X11_86 dX11_serves_196 ?_
        refine lv_iload_n X.x X.b dX11_serves_199 rfl (lv_at hl 1 rfl) ?_
        refine lv_iconst (v := 2) X.x X.b dX11_serves_200 (by decide) ?_
        obtain ⟨b21, hf⟩ := wGi_s hf
        obtain ⟨g22, e23, hf⟩ := wLe_s hf
        refine bR_21 X h (hS 21) Nat.one_pos Nat.one_pos e23 b21 dX11_serves_201 (fun H locs h => ?_)
        exact wX11_serves_b202 hS X h (lv_sub hl [0, 1, 2] rfl) hf J1 JR
  · have hf := wF c13 hf
    refine lv_aload_n X.x X.b dX11_serves_116 rfl (lv_at hl 0 rfl) ?_
    refine lv_iload_n X.x X.b dX11_serves_117 rfl (lv_at hl 1 rfl) ?_
    refine lv_iload_n X.x X.b dX11_serves_118 rfl (lv_at hl 2 rfl) ?_
    obtain ⟨g26, y25, e24, hf⟩ := wB2_s hf
    refine ro_callvI (As := [.int a1, .int x2]) (g1 := g26) (x := y25) X h (kX11_hindrance l hS e24) mv_X11_hindrance lk_X11_227 ⟨rfl, rfl⟩ ⟨(Nat.le_of_ble_eq_true rfl), (Nat.le_of_ble_eq_true rfl)⟩ (rR_0 X h (hS 0) Nat.one_pos Nat.one_pos) rfl hl rfl (Nat.le_of_ble_eq_true rfl) ⟨Nat.zero_le _, Nat.zero_le _⟩ dX11_serves_119 (fun H locs h => ?_)
    refine lv_istore (lv' := [(4, .int y25), (0, .ref (k.1 + adR 0 0 0)), (1, .int a1), (2, .int x2), (3, .int x3)]) X.x X.b dX11_serves_122 hl (by decide) rfl (fun ls hl => ?_)
    refine lv_iload X.x X.b dX11_serves_124 (lv_at hl 0 rfl) ?_
    refine lv_iconst (v := (-1)) X.x X.b dX11_serves_126 (by decide) ?_
    refine lv_icmp_ne (tgt := 136) X.x X.b dX11_serves_127 (by decide) (fun c27 => ?_) (fun c27 => ?_)
    · have hf := wF c27 hf
      exact wX11_serves_b136 hS X h (lv_sub hl [1, 2, 3, 0] rfl) hf J1 JR
    · have hf := wT c27 hf
      refine lv_aload_n X.x X.b dX11_serves_130 rfl (lv_at hl 1 rfl) ?_
      refine lv_iload_n X.x X.b dX11_serves_131 rfl (lv_at hl 2 rfl) ?_
      refine lv_iload_n X.x X.b dX11_serves_132 rfl (lv_at hl 3 rfl) ?_
      obtain ⟨g37, e35, hf⟩ := wBd_s hf
      refine ro_callvV (As := [.int a1, .int x2]) (g1 := g37) X h (kX11_begins l hS e35) mv_X11_begins lk_X11_230 ⟨rfl, rfl⟩ ⟨(Nat.le_of_ble_eq_true rfl), (Nat.le_of_ble_eq_true rfl)⟩ (rR_0 X h (hS 0) Nat.one_pos Nat.one_pos) rfl hl rfl (Nat.le_of_ble_eq_true rfl) ⟨Nat.zero_le _, Nat.zero_le _⟩ dX11_serves_133 (fun H locs h => ?_)
      exact wX11_serves_b136 hS X h (lv_sub hl [1, 2, 3, 0] rfl) hf J1 JR
set_option maxHeartbeats 4000000 in
set_option maxRecDepth 20000 in
theorem wX11_serves_b91 {k : En} {S : Nat → Prop} (hS : ∀ t, S t) {a1 : Int32} {res : Mm} (X : Cx YR S k p s m args meth c cX11_serves 5 none RX11) {g : Mm} {x2 : Int32} {H : Heap} {locs : List Loc} {ls : Array Slot} (h : Hx YR S k s g H locs) (hl : lv_has ls 5 [(0, .ref (k.1 + adR 0 0 0)), (1, .int a1), (2, .int x2)]) {r : (Mm × Int32) ⊕ (Mm)} (hf : fX11_serves_b91 g a1 x2 = some r) (J1 : ∀ (g : Mm) (x2 : Int32), r = .inl (g, x2) → ∀ (H : Heap) (locs : List Loc) (ls : Array Slot), Hx YR S k s g H locs → lv_has ls 5 [(0, .ref (k.1 + adR 0 0 0)), (1, .int a1), (2, .int x2)] → W p l e (RmN 7 160) s m args below meth c H locs 0 0 (Fin YR S k args s below none res) (F0 m 9 ls [])) (JR : ∀ t1, r = .inr t1 → t1 = res) :
    W p l e (RmN 7 160) s m args below meth c H locs 0 0 (Fin YR S k args s below none res) (F0 m 91 ls []) := by
  unfold fX11_serves_b91 at hf
  refine lv_aload_n X.x X.b dX11_serves_91 rfl (lv_at hl 0 rfl) ?_
  refine gR_0_0 X h (hS 0) Nat.one_pos Nat.one_pos lk_X11_7 dX11_serves_92 ?_
  refine lv_bipush (v := 30) X.x X.b dX11_serves_95 (by decide) ?_
  refine lv_iload_n X.x X.b dX11_serves_97 rfl (lv_at hl 1 rfl) ?_
  refine lv_imul X.x X.b dX11_serves_98 ?_
  refine lv_bipush (v := 9) X.x X.b dX11_serves_99 (by decide) ?_
  refine lv_iadd X.x X.b dX11_serves_101 ?_
  refine lv_dup2_11 X.x X.b dX11_serves_102 rfl rfl ?_
  obtain ⟨b41, hf⟩ := wGi_s hf
  refine aR_1 X h (hS 1) Nat.one_pos Nat.one_pos b41 dX11_serves_103 ?_
  refine lv_iconst (v := 1) X.x X.b dX11_serves_104 (by decide) ?_
  refine lv_iload_n X.x X.b dX11_serves_105 rfl (lv_at hl 2 rfl) ?_
  refine lv_ishl X.x X.b dX11_serves_106 ?_
  refine lv_ior X.x X.b dX11_serves_107 ?_
  obtain ⟨b42, hf⟩ := wGi_s hf
  obtain ⟨g43, e44, hf⟩ := wLe_s hf
  refine bR_1 X h (hS 1) Nat.one_pos Nat.one_pos e44 b42 dX11_serves_108 (fun H locs h => ?_)
  refine lv_goto (tgt := 202) X.x X.b dX11_serves_109 (by decide) ?_
  exact wX11_serves_b202 hS X h (lv_sub hl [0, 1, 2] rfl) hf J1 JR
set_option maxHeartbeats 4000000 in
set_option maxRecDepth 20000 in
theorem wX11_serves_b60 {k : En} {S : Nat → Prop} (hS : ∀ t, S t) {a1 : Int32} {res : Mm} (X : Cx YR S k p s m args meth c cX11_serves 5 none RX11) {g : Mm} {x2 : Int32} {z0 : Int32} {H : Heap} {locs : List Loc} {ls : Array Slot} (h : Hx YR S k s g H locs) (hl : lv_has ls 5 [(0, .ref (k.1 + adR 0 0 0)), (1, .int a1), (2, .int x2)]) {r : (Mm × Int32) ⊕ (Mm)} (hf : fX11_serves_b60 g a1 x2 z0 = some r) (J1 : ∀ (g : Mm) (x2 : Int32), r = .inl (g, x2) → ∀ (H : Heap) (locs : List Loc) (ls : Array Slot), Hx YR S k s g H locs → lv_has ls 5 [(0, .ref (k.1 + adR 0 0 0)), (1, .int a1), (2, .int x2)] → W p l e (RmN 7 160) s m args below meth c H locs 0 0 (Fin YR S k args s below none res) (F0 m 9 ls [])) (JR : ∀ t1, r = .inr t1 → t1 = res) :
    W p l e (RmN 7 160) s m args below meth c H locs 0 0 (Fin YR S k args s below none res) (F0 m 60 ls [.int z0]) := by
  unfold fX11_serves_b60 at hf
  refine lv_istore_n (lv' := [(3, .int z0), (0, .ref (k.1 + adR 0 0 0)), (1, .int a1), (2, .int x2)]) X.x X.b dX11_serves_60 rfl hl (by decide) rfl (fun ls hl => ?_)
  refine lv_iload_n X.x X.b dX11_serves_61 rfl (lv_at hl 0 rfl) ?_
  refine lv_if_eq (tgt := 112) X.x X.b dX11_serves_62 (by decide) (fun c12 => ?_) (fun c12 => ?_)
  · have hf := wT c12 hf
    exact wX11_serves_b112 hS X h (lv_sub hl [1, 2, 3, 0] rfl) hf J1 JR
  · have hf := wF c12 hf
    refine lv_aload_n X.x X.b dX11_serves_65 rfl (lv_at hl 1 rfl) ?_
    refine lv_iload_n X.x X.b dX11_serves_66 rfl (lv_at hl 2 rfl) ?_
    refine lv_iload_n X.x X.b dX11_serves_67 rfl (lv_at hl 3 rfl) ?_
    obtain ⟨y39, e38, hf⟩ := wBd_s hf
    refine ro_callvI (As := [.int a1, .int x2]) (g1 := g) (x := y39) X h (kX11_ticksOf l hS e38) mv_X11_ticksOf lk_X11_221 ⟨rfl, rfl⟩ ⟨(Nat.le_of_ble_eq_true rfl), (Nat.le_of_ble_eq_true rfl)⟩ (rR_0 X h (hS 0) Nat.one_pos Nat.one_pos) rfl hl rfl (Nat.le_of_ble_eq_true rfl) ⟨Nat.zero_le _, Nat.zero_le _⟩ dX11_serves_68 (fun H locs h => ?_)
    refine lv_if_eq (tgt := 91) X.x X.b dX11_serves_71 (by decide) (fun c40 => ?_) (fun c40 => ?_)
    · have hf := wT c40 hf
      exact wX11_serves_b91 hS X h (lv_sub hl [1, 2, 3] rfl) hf J1 JR
    · have hf := wF c40 hf
      refine lv_iload_n X.x X.b dX11_serves_74 rfl (lv_at hl 3 rfl) ?_
      refine lv_bipush (v := 6) X.x X.b dX11_serves_75 (by decide) ?_
      refine lv_icmp_ne (tgt := 112) X.x X.b dX11_serves_77 (by decide) (fun c45 => ?_) (fun c45 => ?_)
      · have hf := wF c45 hf
        exact wX11_serves_b112 hS X h (lv_sub hl [1, 2, 3, 0] rfl) hf J1 JR
      · have hf := wT c45 hf
        refine lv_aload_n X.x X.b dX11_serves_80 rfl (lv_at hl 1 rfl) ?_
        refine gR_0_0 X h (hS 0) Nat.one_pos Nat.one_pos lk_X11_7 dX11_serves_81 ?_
        refine lv_sipush (v := 482) X.x X.b dX11_serves_84 (by decide) ?_
        obtain ⟨b46, hf⟩ := wGi_s hf
        refine aR_1 X h (hS 1) Nat.one_pos Nat.one_pos b46 dX11_serves_87 ?_
        refine lv_if_ne (tgt := 112) X.x X.b dX11_serves_88 (by decide) (fun c47 => ?_) (fun c47 => ?_)
        · have hf := wF c47 hf
          exact wX11_serves_b112 hS X h (lv_sub hl [1, 2, 3, 0] rfl) hf J1 JR
        · have hf := wT c47 hf
          exact wX11_serves_b91 hS X h (lv_sub hl [1, 2, 3] rfl) hf J1 JR
set_option maxHeartbeats 4000000 in
set_option maxRecDepth 20000 in
theorem wX11_serves_b59 {k : En} {S : Nat → Prop} (hS : ∀ t, S t) {a1 : Int32} {res : Mm} (X : Cx YR S k p s m args meth c cX11_serves 5 none RX11) {g : Mm} {x2 : Int32} {H : Heap} {locs : List Loc} {ls : Array Slot} (h : Hx YR S k s g H locs) (hl : lv_has ls 5 [(0, .ref (k.1 + adR 0 0 0)), (1, .int a1), (2, .int x2)]) {r : (Mm × Int32) ⊕ (Mm)} (hf : fX11_serves_b59 g a1 x2 = some r) (J1 : ∀ (g : Mm) (x2 : Int32), r = .inl (g, x2) → ∀ (H : Heap) (locs : List Loc) (ls : Array Slot), Hx YR S k s g H locs → lv_has ls 5 [(0, .ref (k.1 + adR 0 0 0)), (1, .int a1), (2, .int x2)] → W p l e (RmN 7 160) s m args below meth c H locs 0 0 (Fin YR S k args s below none res) (F0 m 9 ls [])) (JR : ∀ t1, r = .inr t1 → t1 = res) :
    W p l e (RmN 7 160) s m args below meth c H locs 0 0 (Fin YR S k args s below none res) (F0 m 59 ls []) := by
  unfold fX11_serves_b59 at hf
  refine lv_iconst (v := 0) X.x X.b dX11_serves_59 (by decide) ?_
  exact wX11_serves_b60 hS X h (lv_sub hl [0, 1, 2] rfl) hf J1 JR
set_option maxHeartbeats 4000000 in
set_option maxRecDepth 20000 in
theorem wX11_serves_L9 {k : En} {S : Nat → Prop} (hS : ∀ t, S t) {a1 : Int32} {res : Mm} (X : Cx YR S k p s m args meth c cX11_serves 5 none RX11) {r : Mm} (JR : r = res) :
    ∀ (fu : Nat) (g : Mm) (x2 : Int32) (H : Heap) (locs : List Loc) (ls : Array Slot), Hx YR S k s g H locs → lv_has ls 5 [(0, .ref (k.1 + adR 0 0 0)), (1, .int a1), (2, .int x2)] → wLp (fun q => fX11_serves_B9 q.1 a1 q.2) fu (g, x2) = some r → W p l e (RmN 7 160) s m args below meth c H locs 0 0 (Fin YR S k args s below none res) (F0 m 9 ls []) := by
  intro fu
  induction fu with
  | zero => intro g x2 H locs ls h hl hf; exact (wLp_0 hf).elim
  | succ fu ih1 =>
    intro g x2 H locs ls h hl hf
    obtain ⟨r1, hf, hr⟩ := wLp_s hf
    have J1n : ∀ (g : Mm) (x2 : Int32), r1 = .inl (g, x2) → ∀ (H : Heap) (locs : List Loc) (ls : Array Slot), Hx YR S k s g H locs → lv_has ls 5 [(0, .ref (k.1 + adR 0 0 0)), (1, .int a1), (2, .int x2)] → W p l e (RmN 7 160) s m args below meth c H locs 0 0 (Fin YR S k args s below none res) (F0 m 9 ls []) := fun g x2 q H locs ls h hl => by subst q; exact ih1 _ _ _ _ _ h hl hr
    have JRn : ∀ t1, r1 = .inr t1 → t1 = res := fun t1 q => by subst q; obtain rfl := Option.some.inj hr; exact JR
    have J1 := J1n
    have JR := JRn
    clear J1n JRn
    have hf : fX11_serves_B9 g a1 x2 = some r1 := hf
    unfold fX11_serves_B9 at hf
    refine lv_iload_n X.x X.b dX11_serves_9 rfl (lv_at hl 2 rfl) ?_
    refine lv_bipush (v := 8) X.x X.b dX11_serves_10 (by decide) ?_
    refine lv_icmp_ge (tgt := 208) X.x X.b dX11_serves_12 (by decide) (fun c6 => ?_) (fun c6 => ?_)
    · have hf := wT c6 hf
      obtain ⟨t7, hf, e8⟩ := wEx_s hf
      have JR := JR t7 e8
      cases (Option.some.inj hf).trans JR
      exact ro_vret X h dX11_serves_208
    · have hf := wF c6 hf
      refine lv_aload_n X.x X.b dX11_serves_15 rfl (lv_at hl 0 rfl) ?_
      refine lv_iload_n X.x X.b dX11_serves_16 rfl (lv_at hl 1 rfl) ?_
      refine lv_iload_n X.x X.b dX11_serves_17 rfl (lv_at hl 2 rfl) ?_
      obtain ⟨y10, e9, hf⟩ := wBd_s hf
      refine ro_callvI (As := [.int a1, .int x2]) (g1 := g) (x := y10) X h (kX11_isDone l hS e9) mv_X11_isDone lk_X11_214 ⟨rfl, rfl⟩ ⟨(Nat.le_of_ble_eq_true rfl), (Nat.le_of_ble_eq_true rfl)⟩ (rR_0 X h (hS 0) Nat.one_pos Nat.one_pos) rfl hl rfl (Nat.le_of_ble_eq_true rfl) ⟨Nat.zero_le _, Nat.zero_le _⟩ dX11_serves_18 (fun H locs h => ?_)
      refine lv_if_ne (tgt := 59) X.x X.b dX11_serves_21 (by decide) (fun c11 => ?_) (fun c11 => ?_)
      · have hf := wF c11 hf
        exact wX11_serves_b59 hS X h (lv_sub hl [0, 1, 2] rfl) hf J1 JR
      · have hf := wT c11 hf
        refine lv_aload_n X.x X.b dX11_serves_24 rfl (lv_at hl 0 rfl) ?_
        refine lv_iload_n X.x X.b dX11_serves_25 rfl (lv_at hl 1 rfl) ?_
        refine lv_bipush (v := 11) X.x X.b dX11_serves_26 (by decide) ?_
        refine lv_iload_n X.x X.b dX11_serves_28 rfl (lv_at hl 2 rfl) ?_
        refine lv_iadd X.x X.b dX11_serves_29 ?_
        obtain ⟨y49, e48, hf⟩ := wBd_s hf
        refine ro_callvI (As := [.int a1, .int ((11 : Int32) + x2)]) (g1 := g) (x := y49) X h (kX11_of l hS e48) mv_X11_of lk_X11_106 ⟨rfl, rfl⟩ ⟨(Nat.le_of_ble_eq_true rfl), (Nat.le_of_ble_eq_true rfl)⟩ (rR_0 X h (hS 0) Nat.one_pos Nat.one_pos) rfl hl rfl (Nat.le_of_ble_eq_true rfl) ⟨Nat.zero_le _, Nat.zero_le _⟩ dX11_serves_30 (fun H locs h => ?_)
        refine lv_if_ne (tgt := 59) X.x X.b dX11_serves_33 (by decide) (fun c50 => ?_) (fun c50 => ?_)
        · have hf := wF c50 hf
          exact wX11_serves_b59 hS X h (lv_sub hl [0, 1, 2] rfl) hf J1 JR
        · have hf := wT c50 hf
          refine lv_aload_n X.x X.b dX11_serves_36 rfl (lv_at hl 0 rfl) ?_
          refine gR_0_24 X h (hS 0) Nat.one_pos Nat.one_pos lk_X11_62 dX11_serves_37 ?_
          refine lv_iload_n X.x X.b dX11_serves_40 rfl (lv_at hl 2 rfl) ?_
          obtain ⟨b51, hf⟩ := wGi_s hf
          refine aR_17 X h (hS 17) Nat.one_pos Nat.one_pos b51 dX11_serves_41 ?_
          refine lv_aload_n X.x X.b dX11_serves_42 rfl (lv_at hl 0 rfl) ?_
          refine lv_iload_n X.x X.b dX11_serves_43 rfl (lv_at hl 1 rfl) ?_
          refine lv_bipush (v := 9) X.x X.b dX11_serves_44 (by decide) ?_
          obtain ⟨y53, e52, hf⟩ := wBd_s hf
          refine ro_callvI (As := [.int a1, .int (9 : Int32)]) (g1 := g) (x := y53) X h (kX11_of l hS e52) mv_X11_of lk_X11_106 ⟨rfl, rfl⟩ ⟨(Nat.le_of_ble_eq_true rfl), (Nat.le_of_ble_eq_true rfl)⟩ (rR_0 X h (hS 0) Nat.one_pos Nat.one_pos) rfl hl rfl (Nat.le_of_ble_eq_true rfl) ⟨Nat.zero_le _, Nat.zero_le _⟩ dX11_serves_46 (fun H locs h => ?_)
          refine lv_iconst (v := (-1)) X.x X.b dX11_serves_49 (by decide) ?_
          refine lv_ixor X.x X.b dX11_serves_50 ?_
          refine lv_iand X.x X.b dX11_serves_51 ?_
          refine lv_if_ne (tgt := 59) X.x X.b dX11_serves_52 (by decide) (fun c54 => ?_) (fun c54 => ?_)
          · have hf := wF c54 hf
            exact wX11_serves_b59 hS X h (lv_sub hl [0, 1, 2] rfl) hf J1 JR
          · have hf := wT c54 hf
            refine lv_iconst (v := 1) X.x X.b dX11_serves_55 (by decide) ?_
            refine lv_goto (tgt := 60) X.x X.b dX11_serves_56 (by decide) ?_
            exact wX11_serves_b60 hS X h (lv_sub hl [0, 1, 2] rfl) hf J1 JR
set_option maxHeartbeats 4000000 in
set_option maxRecDepth 20000 in
theorem kX11_serves (l : Launch) {k : En} {S : Nat → Prop} (hS : ∀ t, S t) {a1 : Int32} {res : Mm} {g : Mm} (hf : fX11_serves g a1 = some res) : Mt l yX11_serves cX11_serves 5 none (RmN 7 160) YR S k [.ref (k.1 + adR 0 0 0), .int a1] g none res := by
  refine Mt.of (by decide) (Nat.le_of_ble_eq_true rfl) ?_
  intro p e s m args below meth c ls X _ h hl
  have X : Cx YR S k p s m args meth c cX11_serves 5 none RX11 := X
  have hl : lv_has ls 5 [(0, .ref (k.1 + adR 0 0 0)), (1, .int a1)] := hl
  have JR : res = res := rfl
  unfold fX11_serves at hf
  refine lv_aload_n X.x X.b dX11_serves_0 rfl (lv_at hl 0 rfl) ?_
  refine gR_0_35 X h (hS 0) Nat.one_pos Nat.one_pos lk_X11_86 dX11_serves_1 ?_
  refine lv_iload_n X.x X.b dX11_serves_4 rfl (lv_at hl 1 rfl) ?_
  refine lv_iconst (v := (-1)) X.x X.b dX11_serves_5 (by decide) ?_
  obtain ⟨b1, hf⟩ := wGi_s hf
  obtain ⟨g2, e3, hf⟩ := wLe_s hf
  refine bR_21 X h (hS 21) Nat.one_pos Nat.one_pos e3 b1 dX11_serves_6 (fun H locs h => ?_)
  refine lv_iconst (v := 0) X.x X.b dX11_serves_7 (by decide) ?_
  obtain ⟨y4, e5, hf⟩ := wLe_s hf
  refine lv_nmi e5 ?_
  refine lv_istore_n (lv' := [(2, .int y4), (0, .ref (k.1 + adR 0 0 0)), (1, .int a1)]) X.x X.b dX11_serves_8 rfl hl (by decide) rfl (fun ls hl => ?_)
  exact wX11_serves_L9 hS X JR _ _ _ _ _ _ h (lv_sub hl [1, 2, 0] rfl) hf
set_option maxHeartbeats 4000000 in
set_option maxRecDepth 20000 in
theorem kX11_needsIce (l : Launch) {k : En} {S : Nat → Prop} (hS : ∀ t, S t) {g0 : Mm} {a1 : Int32} {res : Int32} (hf : fX11_needsIce g0 a1 = some res) : Mt l yX11_needsIce cX11_needsIce 2 (some .boolean) (RmN 1 22) YR S k [.ref (k.1 + adR 0 0 0), .int a1] g0 (some (.int res)) g0 := by
  refine Mt.of (by decide) (Nat.le_of_ble_eq_true rfl) ?_
  intro p e s m args below meth c ls X _ h hl
  have X : Cx YR S k p s m args meth c cX11_needsIce 2 (some .boolean) RX11 := X
  have hl : lv_has ls 2 [(0, .ref (k.1 + adR 0 0 0)), (1, .int a1)] := hl
  have JR : res = res := rfl
  unfold fX11_needsIce at hf
  refine lv_aload_n X.x X.b dX11_needsIce_0 rfl (lv_at hl 0 rfl) ?_
  refine gR_0_0 X h (hS 0) Nat.one_pos Nat.one_pos lk_X11_7 dX11_needsIce_1 ?_
  refine lv_sipush (v := 482) X.x X.b dX11_needsIce_4 (by decide) ?_
  obtain ⟨b1, hf⟩ := wGi_s hf
  refine aR_1 X h (hS 1) Nat.one_pos Nat.one_pos b1 dX11_needsIce_7 ?_
  refine lv_iconst (v := 1) X.x X.b dX11_needsIce_8 (by decide) ?_
  refine lv_icmp_ne (tgt := 37) X.x X.b dX11_needsIce_9 (by decide) (fun c2 => ?_) (fun c2 => ?_)
  · have hf := wF c2 hf
    refine lv_iconst (v := 0) X.x X.b dX11_needsIce_37 (by decide) ?_
    cases (Option.some.inj hf).trans JR
    exact ro_zret X h (Or.inl rfl) dX11_needsIce_38
  · have hf := wT c2 hf
    refine lv_aload_n X.x X.b dX11_needsIce_12 rfl (lv_at hl 0 rfl) ?_
    refine gR_0_0 X h (hS 0) Nat.one_pos Nat.one_pos lk_X11_7 dX11_needsIce_13 ?_
    refine lv_sipush (v := 480) X.x X.b dX11_needsIce_16 (by decide) ?_
    obtain ⟨b3, hf⟩ := wGi_s hf
    refine aR_1 X h (hS 1) Nat.one_pos Nat.one_pos b3 dX11_needsIce_19 ?_
    refine lv_aload_n X.x X.b dX11_needsIce_20 rfl (lv_at hl 0 rfl) ?_
    refine lv_iload_n X.x X.b dX11_needsIce_21 rfl (lv_at hl 1 rfl) ?_
    refine lv_bipush (v := 10) X.x X.b dX11_needsIce_22 (by decide) ?_
    obtain ⟨y5, e4, hf⟩ := wBd_s hf
    refine ro_callvI (As := [.int a1, .int (10 : Int32)]) (g1 := g0) (x := y5) X h (kX11_of l hS e4) mv_X11_of lk_X11_106 ⟨rfl, rfl⟩ ⟨(Nat.le_of_ble_eq_true rfl), (Nat.le_of_ble_eq_true rfl)⟩ (rR_0 X h (hS 0) Nat.one_pos Nat.one_pos) rfl hl rfl (Nat.le_of_ble_eq_true rfl) ⟨Nat.zero_le _, Nat.zero_le _⟩ dX11_needsIce_24 (fun H locs h => ?_)
    refine lv_isub X.x X.b dX11_needsIce_27 ?_
    refine lv_bipush (v := 40) X.x X.b dX11_needsIce_28 (by decide) ?_
    refine lv_icmp_le (tgt := 37) X.x X.b dX11_needsIce_30 (by decide) (fun c6 => ?_) (fun c6 => ?_)
    · have hf := wT c6 hf
      refine lv_iconst (v := 0) X.x X.b dX11_needsIce_37 (by decide) ?_
      cases (Option.some.inj hf).trans JR
      exact ro_zret X h (Or.inl rfl) dX11_needsIce_38
    · have hf := wF c6 hf
      refine lv_iconst (v := 1) X.x X.b dX11_needsIce_33 (by decide) ?_
      refine lv_goto (tgt := 38) X.x X.b dX11_needsIce_34 (by decide) ?_
      cases (Option.some.inj hf).trans JR
      exact ro_zret X h (Or.inr rfl) dX11_needsIce_38
set_option maxHeartbeats 4000000 in
set_option maxRecDepth 20000 in
theorem wX11_standFor_b129 {k : En} {S : Nat → Prop} (hS : ∀ t, S t) {g0 : Mm} {a1 : Int32} {res : Int32} (X : Cx YR S k p s m args meth c cX11_standFor 6 (some .int) RX11) {x4 : Int32} {z0 : Int32} {H : Heap} {locs : List Loc} {ls : Array Slot} (h : Hx YR S k s g0 H locs) (hl : lv_has ls 6 [(0, .ref (k.1 + adR 0 0 0)), (1, .int a1), (4, .int x4)]) {r : (Int32 × Int32) ⊕ (Int32)} (hf : fX11_standFor_b129 g0 a1 x4 z0 = some r) (J1 : ∀ (x3 : Int32) (x4 : Int32), r = .inl (x3, x4) → ∀ (H : Heap) (locs : List Loc) (ls : Array Slot), Hx YR S k s g0 H locs → lv_has ls 6 [(0, .ref (k.1 + adR 0 0 0)), (1, .int a1), (3, .int x3), (4, .int x4)] → W p l e (RmN 1 22) s m args below meth c H locs 0 0 (Fin YR S k args s below (some (.int res)) g0) (F0 m 33 ls [])) (JR : ∀ t1, r = .inr t1 → t1 = res) :
    W p l e (RmN 1 22) s m args below meth c H locs 0 0 (Fin YR S k args s below (some (.int res)) g0) (F0 m 129 ls [.int z0]) := by
  unfold fX11_standFor_b129 at hf
  refine lv_istore_n (lv' := [(3, .int z0), (0, .ref (k.1 + adR 0 0 0)), (1, .int a1), (4, .int x4)]) X.x X.b dX11_standFor_129 rfl hl (by decide) rfl (fun ls hl => ?_)
  obtain ⟨y14, e15, hf⟩ := wLe_s hf
  refine lv_iinc (v := y14) (lv' := [(4, .int y14), (3, .int z0), (0, .ref (k.1 + adR 0 0 0)), (1, .int a1)]) X.x X.b dX11_standFor_130 hl (k := 3) rfl (by rw [e15]; rfl) (by decide) rfl (fun ls hl => ?_)
  refine lv_goto (tgt := 33) X.x X.b dX11_standFor_133 (by decide) ?_
  exact J1 _ _ (Option.some.inj hf).symm _ _ _ h (lv_sub hl [2, 3, 1, 0] rfl)
set_option maxHeartbeats 4000000 in
set_option maxRecDepth 20000 in
theorem wX11_standFor_b128 {k : En} {S : Nat → Prop} (hS : ∀ t, S t) {g0 : Mm} {a1 : Int32} {res : Int32} (X : Cx YR S k p s m args meth c cX11_standFor 6 (some .int) RX11) {x3 : Int32} {x4 : Int32} {H : Heap} {locs : List Loc} {ls : Array Slot} (h : Hx YR S k s g0 H locs) (hl : lv_has ls 6 [(0, .ref (k.1 + adR 0 0 0)), (1, .int a1), (3, .int x3), (4, .int x4)]) {r : (Int32 × Int32) ⊕ (Int32)} (hf : fX11_standFor_b128 g0 a1 x3 x4 = some r) (J1 : ∀ (x3 : Int32) (x4 : Int32), r = .inl (x3, x4) → ∀ (H : Heap) (locs : List Loc) (ls : Array Slot), Hx YR S k s g0 H locs → lv_has ls 6 [(0, .ref (k.1 + adR 0 0 0)), (1, .int a1), (3, .int x3), (4, .int x4)] → W p l e (RmN 1 22) s m args below meth c H locs 0 0 (Fin YR S k args s below (some (.int res)) g0) (F0 m 33 ls [])) (JR : ∀ t1, r = .inr t1 → t1 = res) :
    W p l e (RmN 1 22) s m args below meth c H locs 0 0 (Fin YR S k args s below (some (.int res)) g0) (F0 m 128 ls []) := by
  unfold fX11_standFor_b128 at hf
  refine lv_iload_n X.x X.b dX11_standFor_128 rfl (lv_at hl 2 rfl) ?_
  exact wX11_standFor_b129 hS X h (lv_sub hl [0, 1, 3] rfl) hf J1 JR
set_option maxHeartbeats 4000000 in
set_option maxRecDepth 20000 in
theorem wX11_standFor_b123 {k : En} {S : Nat → Prop} (hS : ∀ t, S t) {g0 : Mm} {a1 : Int32} {res : Int32} (X : Cx YR S k p s m args meth c cX11_standFor 6 (some .int) RX11) {x4 : Int32} {H : Heap} {locs : List Loc} {ls : Array Slot} (h : Hx YR S k s g0 H locs) (hl : lv_has ls 6 [(0, .ref (k.1 + adR 0 0 0)), (1, .int a1), (4, .int x4)]) {r : (Int32 × Int32) ⊕ (Int32)} (hf : fX11_standFor_b123 g0 a1 x4 = some r) (J1 : ∀ (x3 : Int32) (x4 : Int32), r = .inl (x3, x4) → ∀ (H : Heap) (locs : List Loc) (ls : Array Slot), Hx YR S k s g0 H locs → lv_has ls 6 [(0, .ref (k.1 + adR 0 0 0)), (1, .int a1), (3, .int x3), (4, .int x4)] → W p l e (RmN 1 22) s m args below meth c H locs 0 0 (Fin YR S k args s below (some (.int res)) g0) (F0 m 33 ls [])) (JR : ∀ t1, r = .inr t1 → t1 = res) :
    W p l e (RmN 1 22) s m args below meth c H locs 0 0 (Fin YR S k args s below (some (.int res)) g0) (F0 m 123 ls []) := by
  unfold fX11_standFor_b123 at hf
  refine lv_iload X.x X.b dX11_standFor_123 (lv_at hl 2 rfl) ?_
  refine lv_goto (tgt := 129) X.x X.b dX11_standFor_125 (by decide) ?_
  exact wX11_standFor_b129 hS X h (lv_sub hl [0, 1, 2] rfl) hf J1 JR
set_option maxHeartbeats 4000000 in
set_option maxRecDepth 20000 in
theorem wX11_standFor_b87 {k : En} {S : Nat → Prop} (hS : ∀ t, S t) {g0 : Mm} {a1 : Int32} {res : Int32} (X : Cx YR S k p s m args meth c cX11_standFor 6 (some .int) RX11) {x3 : Int32} {x4 : Int32} {z0 : Int32} {H : Heap} {locs : List Loc} {ls : Array Slot} (h : Hx YR S k s g0 H locs) (hl : lv_has ls 6 [(0, .ref (k.1 + adR 0 0 0)), (1, .int a1), (3, .int x3), (4, .int x4)]) {r : (Int32 × Int32) ⊕ (Int32)} (hf : fX11_standFor_b87 g0 a1 x3 x4 z0 = some r) (J1 : ∀ (x3 : Int32) (x4 : Int32), r = .inl (x3, x4) → ∀ (H : Heap) (locs : List Loc) (ls : Array Slot), Hx YR S k s g0 H locs → lv_has ls 6 [(0, .ref (k.1 + adR 0 0 0)), (1, .int a1), (3, .int x3), (4, .int x4)] → W p l e (RmN 1 22) s m args below meth c H locs 0 0 (Fin YR S k args s below (some (.int res)) g0) (F0 m 33 ls [])) (JR : ∀ t1, r = .inr t1 → t1 = res) :
    W p l e (RmN 1 22) s m args below meth c H locs 0 0 (Fin YR S k args s below (some (.int res)) g0) (F0 m 87 ls [.int z0]) := by
  unfold fX11_standFor_b87 at hf
  refine lv_istore (lv' := [(5, .int z0), (0, .ref (k.1 + adR 0 0 0)), (1, .int a1), (3, .int x3), (4, .int x4)]) X.x X.b dX11_standFor_87 hl (by decide) rfl (fun ls hl => ?_)
  refine lv_iload X.x X.b dX11_standFor_89 (lv_at hl 0 rfl) ?_
  refine lv_if_eq (tgt := 128) X.x X.b dX11_standFor_91 (by decide) (fun c13 => ?_) (fun c13 => ?_)
  · have hf := wT c13 hf
    exact wX11_standFor_b128 hS X h (lv_sub hl [1, 2, 3, 4] rfl) hf J1 JR
  · have hf := wF c13 hf
    refine lv_iload_n X.x X.b dX11_standFor_94 rfl (lv_at hl 3 rfl) ?_
    refine lv_iconst (v := (-1)) X.x X.b dX11_standFor_95 (by decide) ?_
    refine lv_icmp_eq (tgt := 123) X.x X.b dX11_standFor_96 (by decide) (fun c16 => ?_) (fun c16 => ?_)
    · have hf := wT c16 hf
      exact wX11_standFor_b123 hS X h (lv_sub hl [1, 2, 4] rfl) hf J1 JR
    · have hf := wF c16 hf
      refine lv_aload_n X.x X.b dX11_standFor_99 rfl (lv_at hl 1 rfl) ?_
      refine gR_0_0 X h (hS 0) Nat.one_pos Nat.one_pos lk_X11_7 dX11_standFor_100 ?_
      refine lv_sipush (v := 490) X.x X.b dX11_standFor_103 (by decide) ?_
      refine lv_iload X.x X.b dX11_standFor_106 (lv_at hl 4 rfl) ?_
      refine lv_iadd X.x X.b dX11_standFor_108 ?_
      obtain ⟨b17, hf⟩ := wGi_s hf
      refine aR_1 X h (hS 1) Nat.one_pos Nat.one_pos b17 dX11_standFor_109 ?_
      refine lv_aload_n X.x X.b dX11_standFor_110 rfl (lv_at hl 1 rfl) ?_
      refine gR_0_0 X h (hS 0) Nat.one_pos Nat.one_pos lk_X11_7 dX11_standFor_111 ?_
      refine lv_sipush (v := 490) X.x X.b dX11_standFor_114 (by decide) ?_
      refine lv_iload_n X.x X.b dX11_standFor_117 rfl (lv_at hl 3 rfl) ?_
      refine lv_iadd X.x X.b dX11_standFor_118 ?_
      obtain ⟨b18, hf⟩ := wGi_s hf
      refine aR_1 X h (hS 1) Nat.one_pos Nat.one_pos b18 dX11_standFor_119 ?_
      refine lv_icmp_ge (tgt := 128) X.x X.b dX11_standFor_120 (by decide) (fun c19 => ?_) (fun c19 => ?_)
      · have hf := wT c19 hf
        exact wX11_standFor_b128 hS X h (lv_sub hl [1, 2, 3, 4] rfl) hf J1 JR
      · have hf := wF c19 hf
        exact wX11_standFor_b123 hS X h (lv_sub hl [1, 2, 4] rfl) hf J1 JR
set_option maxHeartbeats 4000000 in
set_option maxRecDepth 20000 in
theorem wX11_standFor_b86 {k : En} {S : Nat → Prop} (hS : ∀ t, S t) {g0 : Mm} {a1 : Int32} {res : Int32} (X : Cx YR S k p s m args meth c cX11_standFor 6 (some .int) RX11) {x3 : Int32} {x4 : Int32} {H : Heap} {locs : List Loc} {ls : Array Slot} (h : Hx YR S k s g0 H locs) (hl : lv_has ls 6 [(0, .ref (k.1 + adR 0 0 0)), (1, .int a1), (3, .int x3), (4, .int x4)]) {r : (Int32 × Int32) ⊕ (Int32)} (hf : fX11_standFor_b86 g0 a1 x3 x4 = some r) (J1 : ∀ (x3 : Int32) (x4 : Int32), r = .inl (x3, x4) → ∀ (H : Heap) (locs : List Loc) (ls : Array Slot), Hx YR S k s g0 H locs → lv_has ls 6 [(0, .ref (k.1 + adR 0 0 0)), (1, .int a1), (3, .int x3), (4, .int x4)] → W p l e (RmN 1 22) s m args below meth c H locs 0 0 (Fin YR S k args s below (some (.int res)) g0) (F0 m 33 ls [])) (JR : ∀ t1, r = .inr t1 → t1 = res) :
    W p l e (RmN 1 22) s m args below meth c H locs 0 0 (Fin YR S k args s below (some (.int res)) g0) (F0 m 86 ls []) := by
  unfold fX11_standFor_b86 at hf
  refine lv_iconst (v := 0) X.x X.b dX11_standFor_86 (by decide) ?_
  exact wX11_standFor_b87 hS X h (lv_sub hl [0, 1, 2, 3] rfl) hf J1 JR
set_option maxHeartbeats 4000000 in
set_option maxRecDepth 20000 in
theorem wX11_standFor_L33 {k : En} {S : Nat → Prop} (hS : ∀ t, S t) {g0 : Mm} {a1 : Int32} {res : Int32} (X : Cx YR S k p s m args meth c cX11_standFor 6 (some .int) RX11) {r : Int32} (JR : r = res) :
    ∀ (fu : Nat) (x3 : Int32) (x4 : Int32) (H : Heap) (locs : List Loc) (ls : Array Slot), Hx YR S k s g0 H locs → lv_has ls 6 [(0, .ref (k.1 + adR 0 0 0)), (1, .int a1), (3, .int x3), (4, .int x4)] → wLp (fun q => fX11_standFor_B33 g0 a1 q.1 q.2) fu (x3, x4) = some r → W p l e (RmN 1 22) s m args below meth c H locs 0 0 (Fin YR S k args s below (some (.int res)) g0) (F0 m 33 ls []) := by
  intro fu
  induction fu with
  | zero => intro x3 x4 H locs ls h hl hf; exact (wLp_0 hf).elim
  | succ fu ih1 =>
    intro x3 x4 H locs ls h hl hf
    obtain ⟨r1, hf, hr⟩ := wLp_s hf
    have J1n : ∀ (x3 : Int32) (x4 : Int32), r1 = .inl (x3, x4) → ∀ (H : Heap) (locs : List Loc) (ls : Array Slot), Hx YR S k s g0 H locs → lv_has ls 6 [(0, .ref (k.1 + adR 0 0 0)), (1, .int a1), (3, .int x3), (4, .int x4)] → W p l e (RmN 1 22) s m args below meth c H locs 0 0 (Fin YR S k args s below (some (.int res)) g0) (F0 m 33 ls []) := fun x3 x4 q H locs ls h hl => by subst q; exact ih1 _ _ _ _ _ h hl hr
    have JRn : ∀ t1, r1 = .inr t1 → t1 = res := fun t1 q => by subst q; obtain rfl := Option.some.inj hr; exact JR
    have J1 := J1n
    have JR := JRn
    clear J1n JRn
    have hf : fX11_standFor_B33 g0 a1 x3 x4 = some r1 := hf
    unfold fX11_standFor_B33 at hf
    refine lv_iload X.x X.b dX11_standFor_33 (lv_at hl 3 rfl) ?_
    refine lv_aload_n X.x X.b dX11_standFor_35 rfl (lv_at hl 0 rfl) ?_
    refine gR_0_3 X h (hS 0) Nat.one_pos Nat.one_pos lk_X11_103 dX11_standFor_36 ?_
    refine lv_icmp_ge (tgt := 136) X.x X.b dX11_standFor_39 (by decide) (fun c8 => ?_) (fun c8 => ?_)
    · have hf := wT c8 hf
      obtain ⟨t9, hf, e10⟩ := wEx_s hf
      have JR := JR t9 e10
      refine lv_iload_n X.x X.b dX11_standFor_136 rfl (lv_at hl 2 rfl) ?_
      cases (Option.some.inj hf).trans JR
      exact ro_iret X h dX11_standFor_137
    · have hf := wF c8 hf
      refine lv_aload_n X.x X.b dX11_standFor_42 rfl (lv_at hl 0 rfl) ?_
      refine gR_0_0 X h (hS 0) Nat.one_pos Nat.one_pos lk_X11_7 dX11_standFor_43 ?_
      refine lv_sipush (v := 496) X.x X.b dX11_standFor_46 (by decide) ?_
      refine lv_iload X.x X.b dX11_standFor_49 (lv_at hl 3 rfl) ?_
      refine lv_iadd X.x X.b dX11_standFor_51 ?_
      obtain ⟨b11, hf⟩ := wGi_s hf
      refine aR_1 X h (hS 1) Nat.one_pos Nat.one_pos b11 dX11_standFor_52 ?_
      refine lv_iconst (v := (-1)) X.x X.b dX11_standFor_53 (by decide) ?_
      refine lv_icmp_ne (tgt := 86) X.x X.b dX11_standFor_54 (by decide) (fun c12 => ?_) (fun c12 => ?_)
      · have hf := wF c12 hf
        exact wX11_standFor_b86 hS X h (lv_sub hl [0, 1, 2, 3] rfl) hf J1 JR
      · have hf := wT c12 hf
        refine lv_aload_n X.x X.b dX11_standFor_57 rfl (lv_at hl 0 rfl) ?_
        refine gR_0_0 X h (hS 0) Nat.one_pos Nat.one_pos lk_X11_7 dX11_standFor_58 ?_
        refine lv_sipush (v := 490) X.x X.b dX11_standFor_61 (by decide) ?_
        refine lv_iload X.x X.b dX11_standFor_64 (lv_at hl 3 rfl) ?_
        refine lv_iadd X.x X.b dX11_standFor_66 ?_
        obtain ⟨b20, hf⟩ := wGi_s hf
        refine aR_1 X h (hS 1) Nat.one_pos Nat.one_pos b20 dX11_standFor_67 ?_
        refine lv_aload_n X.x X.b dX11_standFor_68 rfl (lv_at hl 0 rfl) ?_
        refine gR_0_21 X h (hS 0) Nat.one_pos Nat.one_pos lk_X11_53 dX11_standFor_69 ?_
        refine lv_aload_n X.x X.b dX11_standFor_72 rfl (lv_at hl 0 rfl) ?_
        refine lv_iload_n X.x X.b dX11_standFor_73 rfl (lv_at hl 1 rfl) ?_
        refine lv_iconst (v := 0) X.x X.b dX11_standFor_74 (by decide) ?_
        obtain ⟨y22, e21, hf⟩ := wBd_s hf
        refine ro_callvI (As := [.int a1, .int (0 : Int32)]) (g1 := g0) (x := y22) X h (kX11_of l hS e21) mv_X11_of lk_X11_106 ⟨rfl, rfl⟩ ⟨(Nat.le_of_ble_eq_true rfl), (Nat.le_of_ble_eq_true rfl)⟩ (rR_0 X h (hS 0) Nat.one_pos Nat.one_pos) rfl hl rfl (Nat.le_of_ble_eq_true rfl) ⟨Nat.zero_le _, Nat.zero_le _⟩ dX11_standFor_75 (fun H locs h => ?_)
        obtain ⟨b23, hf⟩ := wGi_s hf
        refine aR_14 X h (hS 14) Nat.one_pos Nat.one_pos b23 dX11_standFor_78 ?_
        refine lv_icmp_lt (tgt := 86) X.x X.b dX11_standFor_79 (by decide) (fun c24 => ?_) (fun c24 => ?_)
        · have hf := wT c24 hf
          exact wX11_standFor_b86 hS X h (lv_sub hl [0, 1, 2, 3] rfl) hf J1 JR
        · have hf := wF c24 hf
          refine lv_iconst (v := 1) X.x X.b dX11_standFor_82 (by decide) ?_
          refine lv_goto (tgt := 87) X.x X.b dX11_standFor_83 (by decide) ?_
          exact wX11_standFor_b87 hS X h (lv_sub hl [0, 1, 2, 3] rfl) hf J1 JR
set_option maxHeartbeats 4000000 in
set_option maxRecDepth 20000 in
theorem wX11_standFor_b28 {k : En} {S : Nat → Prop} (hS : ∀ t, S t) {g0 : Mm} {a1 : Int32} {res : Int32} (X : Cx YR S k p s m args meth c cX11_standFor 6 (some .int) RX11) {H : Heap} {locs : List Loc} {ls : Array Slot} (h : Hx YR S k s g0 H locs) (hl : lv_has ls 6 [(0, .ref (k.1 + adR 0 0 0)), (1, .int a1)]) {r : Int32} (hf : fX11_standFor_b28 g0 a1 = some r) (JR : r = res) :
    W p l e (RmN 1 22) s m args below meth c H locs 0 0 (Fin YR S k args s below (some (.int res)) g0) (F0 m 28 ls []) := by
  unfold fX11_standFor_b28 at hf
  refine lv_iconst (v := (-1)) X.x X.b dX11_standFor_28 (by decide) ?_
  obtain ⟨y4, e5, hf⟩ := wLe_s hf
  refine lv_nmi e5 ?_
  refine lv_istore_n (lv' := [(3, .int y4), (0, .ref (k.1 + adR 0 0 0)), (1, .int a1)]) X.x X.b dX11_standFor_29 rfl hl (by decide) rfl (fun ls hl => ?_)
  refine lv_iconst (v := 0) X.x X.b dX11_standFor_30 (by decide) ?_
  obtain ⟨y6, e7, hf⟩ := wLe_s hf
  refine lv_nmi e7 ?_
  refine lv_istore (lv' := [(4, .int y6), (3, .int y4), (0, .ref (k.1 + adR 0 0 0)), (1, .int a1)]) X.x X.b dX11_standFor_31 hl (by decide) rfl (fun ls hl => ?_)
  exact wX11_standFor_L33 hS X JR _ _ _ _ _ _ h (lv_sub hl [2, 3, 1, 0] rfl) hf
set_option maxHeartbeats 4000000 in
set_option maxRecDepth 20000 in
theorem kX11_standFor (l : Launch) {k : En} {S : Nat → Prop} (hS : ∀ t, S t) {g0 : Mm} {a1 : Int32} {res : Int32} (hf : fX11_standFor g0 a1 = some res) : Mt l yX11_standFor cX11_standFor 6 (some .int) (RmN 1 22) YR S k [.ref (k.1 + adR 0 0 0), .int a1] g0 (some (.int res)) g0 := by
  refine Mt.of (by decide) (Nat.le_of_ble_eq_true rfl) ?_
  intro p e s m args below meth c ls X _ h hl
  have X : Cx YR S k p s m args meth c cX11_standFor 6 (some .int) RX11 := X
  have hl : lv_has ls 6 [(0, .ref (k.1 + adR 0 0 0)), (1, .int a1)] := hl
  have JR : res = res := rfl
  unfold fX11_standFor at hf
  refine lv_aload_n X.x X.b dX11_standFor_0 rfl (lv_at hl 0 rfl) ?_
  refine lv_iload_n X.x X.b dX11_standFor_1 rfl (lv_at hl 1 rfl) ?_
  refine lv_iconst (v := 4) X.x X.b dX11_standFor_2 (by decide) ?_
  obtain ⟨y2, e1, hf⟩ := wBd_s hf
  refine ro_callvI (As := [.int a1, .int (4 : Int32)]) (g1 := g0) (x := y2) X h (kX11_of l hS e1) mv_X11_of lk_X11_106 ⟨rfl, rfl⟩ ⟨(Nat.le_of_ble_eq_true rfl), (Nat.le_of_ble_eq_true rfl)⟩ (rR_0 X h (hS 0) Nat.one_pos Nat.one_pos) rfl hl rfl (Nat.le_of_ble_eq_true rfl) ⟨Nat.zero_le _, Nat.zero_le _⟩ dX11_standFor_3 (fun H locs h => ?_)
  refine lv_istore_n (lv' := [(2, .int y2), (0, .ref (k.1 + adR 0 0 0)), (1, .int a1)]) X.x X.b dX11_standFor_6 rfl hl (by decide) rfl (fun ls hl => ?_)
  refine lv_iload_n X.x X.b dX11_standFor_7 rfl (lv_at hl 0 rfl) ?_
  refine lv_iconst (v := (-1)) X.x X.b dX11_standFor_8 (by decide) ?_
  refine lv_icmp_eq (tgt := 28) X.x X.b dX11_standFor_9 (by decide) (fun c3 => ?_) (fun c3 => ?_)
  · have hf := wT c3 hf
    exact wX11_standFor_b28 hS X h (lv_sub hl [1, 2] rfl) hf JR
  · have hf := wF c3 hf
    refine lv_aload_n X.x X.b dX11_standFor_12 rfl (lv_at hl 1 rfl) ?_
    refine gR_0_0 X h (hS 0) Nat.one_pos Nat.one_pos lk_X11_7 dX11_standFor_13 ?_
    refine lv_sipush (v := 496) X.x X.b dX11_standFor_16 (by decide) ?_
    refine lv_iload_n X.x X.b dX11_standFor_19 rfl (lv_at hl 0 rfl) ?_
    refine lv_iadd X.x X.b dX11_standFor_20 ?_
    obtain ⟨b25, hf⟩ := wGi_s hf
    refine aR_1 X h (hS 1) Nat.one_pos Nat.one_pos b25 dX11_standFor_21 ?_
    refine lv_iconst (v := (-1)) X.x X.b dX11_standFor_22 (by decide) ?_
    refine lv_icmp_ne (tgt := 28) X.x X.b dX11_standFor_23 (by decide) (fun c26 => ?_) (fun c26 => ?_)
    · have hf := wF c26 hf
      exact wX11_standFor_b28 hS X h (lv_sub hl [1, 2] rfl) hf JR
    · have hf := wT c26 hf
      refine lv_iload_n X.x X.b dX11_standFor_26 rfl (lv_at hl 0 rfl) ?_
      cases (Option.some.inj hf).trans JR
      exact ro_iret X h dX11_standFor_27
set_option maxHeartbeats 4000000 in
set_option maxRecDepth 20000 in
theorem wX11_isReady_b143 {k : En} {S : Nat → Prop} (hS : ∀ t, S t) {a1 : Int32} {a2 : Int32} {res : Mm × Int32} (X : Cx YR S k p s m args meth c cX11_isReady 7 (some .boolean) RX11) {g : Mm} {z0 : Int64} {z1 : Int64} {H : Heap} {locs : List Loc} {ls : Array Slot} (h : Hx YR S k s g H locs) (hl : lv_has ls 7 [(0, .ref (k.1 + adR 0 0 0))]) {r : Mm × Int32} (hf : fX11_isReady_b143 g a1 a2 z0 z1 = some r) (JR : r = res) :
    W p l e (RmN 6 137) s m args below meth c H locs 0 0 (Fin YR S k args s below (some (.int res.2)) res.1) (F0 m 143 ls [.long z1, .long z0]) := by
  unfold fX11_isReady_b143 at hf
  refine lv_ladd X.x X.b dX11_isReady_143 ?_
  obtain ⟨y17, e18, hf⟩ := wLe_s hf
  refine lv_nml e18 ?_
  refine lv_lstore (lv' := [(5, .long y17), (0, .ref (k.1 + adR 0 0 0))]) X.x X.b dX11_isReady_144 hl (by decide) rfl (fun ls hl => ?_)
  refine lv_aload_n X.x X.b dX11_isReady_146 rfl (lv_at hl 1 rfl) ?_
  refine gR_0_0 X h (hS 0) Nat.one_pos Nat.one_pos lk_X11_7 dX11_isReady_147 ?_
  refine lv_sipush (v := 480) X.x X.b dX11_isReady_150 (by decide) ?_
  obtain ⟨b19, hf⟩ := wGi_s hf
  refine aR_1 X h (hS 1) Nat.one_pos Nat.one_pos b19 dX11_isReady_153 ?_
  refine lv_i2l X.x X.b dX11_isReady_154 rfl ?_
  refine lv_lload X.x X.b dX11_isReady_155 (lv_at hl 0 rfl) ?_
  refine W.lcmp X.x X.b dX11_isReady_157 ?_
  refine lv_if_lt (tgt := 165) X.x X.b dX11_isReady_158 (by decide) (fun c20 => ?_) (fun c20 => ?_)
  · have hf := wT c20 hf
    refine lv_iconst (v := 0) X.x X.b dX11_isReady_165 (by decide) ?_
    cases (Option.some.inj hf).trans JR
    exact ro_zret X h (Or.inl rfl) dX11_isReady_166
  · have hf := wF c20 hf
    refine lv_iconst (v := 1) X.x X.b dX11_isReady_161 (by decide) ?_
    refine lv_goto (tgt := 166) X.x X.b dX11_isReady_162 (by decide) ?_
    cases (Option.some.inj hf).trans JR
    exact ro_zret X h (Or.inr rfl) dX11_isReady_166
set_option maxHeartbeats 4000000 in
set_option maxRecDepth 20000 in
theorem wX11_isReady_b93 {k : En} {S : Nat → Prop} (hS : ∀ t, S t) {a1 : Int32} {a2 : Int32} {res : Mm × Int32} (X : Cx YR S k p s m args meth c cX11_isReady 7 (some .boolean) RX11) {g : Mm} {H : Heap} {locs : List Loc} {ls : Array Slot} (h : Hx YR S k s g H locs) (hl : lv_has ls 7 [(0, .ref (k.1 + adR 0 0 0)), (1, .int a1), (2, .int a2)]) {r : Mm × Int32} (hf : fX11_isReady_b93 g a1 a2 = some r) (JR : r = res) :
    W p l e (RmN 6 137) s m args below meth c H locs 0 0 (Fin YR S k args s below (some (.int res.2)) res.1) (F0 m 93 ls []) := by
  unfold fX11_isReady_b93 at hf
  refine lv_aload_n X.x X.b dX11_isReady_93 rfl (lv_at hl 0 rfl) ?_
  refine gR_0_0 X h (hS 0) Nat.one_pos Nat.one_pos lk_X11_7 dX11_isReady_94 ?_
  refine lv_sipush (v := 460) X.x X.b dX11_isReady_97 (by decide) ?_
  refine lv_iload_n X.x X.b dX11_isReady_100 rfl (lv_at hl 2 rfl) ?_
  refine lv_iadd X.x X.b dX11_isReady_101 ?_
  obtain ⟨b8, hf⟩ := wGi_s hf
  refine aR_1 X h (hS 1) Nat.one_pos Nat.one_pos b8 dX11_isReady_102 ?_
  refine lv_i2l X.x X.b dX11_isReady_103 rfl ?_
  obtain ⟨y9, e10, hf⟩ := wLe_s hf
  refine lv_nml e10 ?_
  refine lv_lstore (lv' := [(5, .long y9), (0, .ref (k.1 + adR 0 0 0)), (1, .int a1), (2, .int a2)]) X.x X.b dX11_isReady_104 hl (by decide) rfl (fun ls hl => ?_)
  refine lv_lload X.x X.b dX11_isReady_106 (lv_at hl 0 rfl) ?_
  refine lv_aload_n X.x X.b dX11_isReady_108 rfl (lv_at hl 1 rfl) ?_
  refine gR_0_0 X h (hS 0) Nat.one_pos Nat.one_pos lk_X11_7 dX11_isReady_109 ?_
  refine lv_sipush (v := 462) X.x X.b dX11_isReady_112 (by decide) ?_
  refine lv_iload_n X.x X.b dX11_isReady_115 rfl (lv_at hl 3 rfl) ?_
  refine lv_iadd X.x X.b dX11_isReady_116 ?_
  obtain ⟨b11, hf⟩ := wGi_s hf
  refine aR_1 X h (hS 1) Nat.one_pos Nat.one_pos b11 dX11_isReady_117 ?_
  refine lv_iconst (v := (-1)) X.x X.b dX11_isReady_118 (by decide) ?_
  refine lv_icmp_ne (tgt := 126) X.x X.b dX11_isReady_119 (by decide) (fun c12 => ?_) (fun c12 => ?_)
  · have hf := wF c12 hf
    refine lv_aload_n X.x X.b dX11_isReady_126 rfl (lv_at hl 1 rfl) ?_
    refine lv_iconst (v := 1) X.x X.b dX11_isReady_127 (by decide) ?_
    refine lv_iload_n X.x X.b dX11_isReady_128 rfl (lv_at hl 2 rfl) ?_
    refine lv_aload_n X.x X.b dX11_isReady_129 rfl (lv_at hl 1 rfl) ?_
    refine gR_0_0 X h (hS 0) Nat.one_pos Nat.one_pos lk_X11_7 dX11_isReady_130 ?_
    refine lv_sipush (v := 462) X.x X.b dX11_isReady_133 (by decide) ?_
    refine lv_iload_n X.x X.b dX11_isReady_136 rfl (lv_at hl 3 rfl) ?_
    refine lv_iadd X.x X.b dX11_isReady_137 ?_
    obtain ⟨b13, hf⟩ := wGi_s hf
    refine aR_1 X h (hS 1) Nat.one_pos Nat.one_pos b13 dX11_isReady_138 ?_
    obtain ⟨g16, y15, e14, hf⟩ := wB2_s hf
    refine ro_callvI (As := [.int (1 : Int32), .int a1, .int (g 1 0 0 ((462 : Int32) + a2).toNatClampNeg)]) (g1 := g16) (x := y15) X h (kX11_atLeast0 l hS e14) mv_X11_atLeast0 lk_X11_218 ⟨rfl, rfl⟩ ⟨(Nat.le_of_ble_eq_true rfl), (Nat.le_of_ble_eq_true rfl)⟩ (rR_0 X h (hS 0) Nat.one_pos Nat.one_pos) rfl hl rfl (Nat.le_of_ble_eq_true rfl) ⟨Nat.zero_le _, Nat.zero_le _⟩ dX11_isReady_139 (fun H locs h => ?_)
    refine lv_i2l X.x X.b dX11_isReady_142 rfl ?_
    exact wX11_isReady_b143 hS X h (lv_sub hl [1] rfl) hf JR
  · have hf := wT c12 hf
    refine lv_lconst (v := 0) X.x X.b dX11_isReady_122 (by decide) ?_
    refine lv_goto (tgt := 143) X.x X.b dX11_isReady_123 (by decide) ?_
    exact wX11_isReady_b143 hS X h (lv_sub hl [1] rfl) hf JR
set_option maxHeartbeats 4000000 in
set_option maxRecDepth 20000 in
theorem wX11_isReady_b80 {k : En} {S : Nat → Prop} (hS : ∀ t, S t) {a1 : Int32} {a2 : Int32} {res : Mm × Int32} (X : Cx YR S k p s m args meth c cX11_isReady 7 (some .boolean) RX11) {g : Mm} {x3 : Int32} {z0 : Int32} {H : Heap} {locs : List Loc} {ls : Array Slot} (h : Hx YR S k s g H locs) (hl : lv_has ls 7 [(0, .ref (k.1 + adR 0 0 0)), (1, .int a1), (2, .int a2), (3, .int x3)]) {r : Mm × Int32} (hf : fX11_isReady_b80 g a1 a2 x3 z0 = some r) (JR : r = res) :
    W p l e (RmN 6 137) s m args below meth c H locs 0 0 (Fin YR S k args s below (some (.int res.2)) res.1) (F0 m 80 ls [.int z0]) := by
  unfold fX11_isReady_b80 at hf
  refine lv_istore (lv' := [(4, .int z0), (0, .ref (k.1 + adR 0 0 0)), (1, .int a1), (2, .int a2), (3, .int x3)]) X.x X.b dX11_isReady_80 hl (by decide) rfl (fun ls hl => ?_)
  refine lv_iload_n X.x X.b dX11_isReady_82 rfl (lv_at hl 4 rfl) ?_
  refine lv_if_ne (tgt := 93) X.x X.b dX11_isReady_83 (by decide) (fun c7 => ?_) (fun c7 => ?_)
  · have hf := wF c7 hf
    exact wX11_isReady_b93 hS X h (lv_sub hl [1, 2, 3] rfl) hf JR
  · have hf := wT c7 hf
    refine lv_iload X.x X.b dX11_isReady_86 (lv_at hl 0 rfl) ?_
    refine lv_if_ne (tgt := 93) X.x X.b dX11_isReady_88 (by decide) (fun c21 => ?_) (fun c21 => ?_)
    · have hf := wF c21 hf
      exact wX11_isReady_b93 hS X h (lv_sub hl [1, 2, 3] rfl) hf JR
    · have hf := wT c21 hf
      refine lv_iconst (v := 0) X.x X.b dX11_isReady_91 (by decide) ?_
      cases (Option.some.inj hf).trans JR
      exact ro_zret X h (Or.inl rfl) dX11_isReady_92
set_option maxHeartbeats 4000000 in
set_option maxRecDepth 20000 in
theorem wX11_isReady_b79 {k : En} {S : Nat → Prop} (hS : ∀ t, S t) {a1 : Int32} {a2 : Int32} {res : Mm × Int32} (X : Cx YR S k p s m args meth c cX11_isReady 7 (some .boolean) RX11) {g : Mm} {x3 : Int32} {H : Heap} {locs : List Loc} {ls : Array Slot} (h : Hx YR S k s g H locs) (hl : lv_has ls 7 [(0, .ref (k.1 + adR 0 0 0)), (1, .int a1), (2, .int a2), (3, .int x3)]) {r : Mm × Int32} (hf : fX11_isReady_b79 g a1 a2 x3 = some r) (JR : r = res) :
    W p l e (RmN 6 137) s m args below meth c H locs 0 0 (Fin YR S k args s below (some (.int res.2)) res.1) (F0 m 79 ls []) := by
  unfold fX11_isReady_b79 at hf
  refine lv_iconst (v := 0) X.x X.b dX11_isReady_79 (by decide) ?_
  exact wX11_isReady_b80 hS X h (lv_sub hl [0, 1, 2, 3] rfl) hf JR
set_option maxHeartbeats 4000000 in
set_option maxRecDepth 20000 in
theorem wX11_isReady_b25 {k : En} {S : Nat → Prop} (hS : ∀ t, S t) {a1 : Int32} {a2 : Int32} {res : Mm × Int32} (X : Cx YR S k p s m args meth c cX11_isReady 7 (some .boolean) RX11) {g : Mm} {z0 : Int32} {H : Heap} {locs : List Loc} {ls : Array Slot} (h : Hx YR S k s g H locs) (hl : lv_has ls 7 [(0, .ref (k.1 + adR 0 0 0)), (1, .int a1), (2, .int a2)]) {r : Mm × Int32} (hf : fX11_isReady_b25 g a1 a2 z0 = some r) (JR : r = res) :
    W p l e (RmN 6 137) s m args below meth c H locs 0 0 (Fin YR S k args s below (some (.int res.2)) res.1) (F0 m 25 ls [.int z0]) := by
  unfold fX11_isReady_b25 at hf
  refine lv_istore_n (lv' := [(3, .int z0), (0, .ref (k.1 + adR 0 0 0)), (1, .int a1), (2, .int a2)]) X.x X.b dX11_isReady_25 rfl hl (by decide) rfl (fun ls hl => ?_)
  refine lv_aload_n X.x X.b dX11_isReady_26 rfl (lv_at hl 1 rfl) ?_
  refine lv_iload_n X.x X.b dX11_isReady_27 rfl (lv_at hl 2 rfl) ?_
  refine lv_bipush (v := 6) X.x X.b dX11_isReady_28 (by decide) ?_
  obtain ⟨y5, e4, hf⟩ := wBd_s hf
  refine ro_callvI (As := [.int a1, .int (6 : Int32)]) (g1 := g) (x := y5) X h (kX11_of l hS e4) mv_X11_of lk_X11_106 ⟨rfl, rfl⟩ ⟨(Nat.le_of_ble_eq_true rfl), (Nat.le_of_ble_eq_true rfl)⟩ (rR_0 X h (hS 0) Nat.one_pos Nat.one_pos) rfl hl rfl (Nat.le_of_ble_eq_true rfl) ⟨Nat.zero_le _, Nat.zero_le _⟩ dX11_isReady_30 (fun H locs h => ?_)
  refine lv_iconst (v := 5) X.x X.b dX11_isReady_33 (by decide) ?_
  refine lv_icmp_ne (tgt := 79) X.x X.b dX11_isReady_34 (by decide) (fun c6 => ?_) (fun c6 => ?_)
  · have hf := wF c6 hf
    exact wX11_isReady_b79 hS X h (lv_sub hl [1, 2, 3, 0] rfl) hf JR
  · have hf := wT c6 hf
    refine lv_aload_n X.x X.b dX11_isReady_37 rfl (lv_at hl 1 rfl) ?_
    refine gR_0_0 X h (hS 0) Nat.one_pos Nat.one_pos lk_X11_7 dX11_isReady_38 ?_
    refine lv_sipush (v := 480) X.x X.b dX11_isReady_41 (by decide) ?_
    obtain ⟨b22, hf⟩ := wGi_s hf
    refine aR_1 X h (hS 1) Nat.one_pos Nat.one_pos b22 dX11_isReady_44 ?_
    refine lv_aload_n X.x X.b dX11_isReady_45 rfl (lv_at hl 1 rfl) ?_
    refine lv_iload_n X.x X.b dX11_isReady_46 rfl (lv_at hl 2 rfl) ?_
    refine lv_bipush (v := 7) X.x X.b dX11_isReady_47 (by decide) ?_
    obtain ⟨y24, e23, hf⟩ := wBd_s hf
    refine ro_callvI (As := [.int a1, .int (7 : Int32)]) (g1 := g) (x := y24) X h (kX11_of l hS e23) mv_X11_of lk_X11_106 ⟨rfl, rfl⟩ ⟨(Nat.le_of_ble_eq_true rfl), (Nat.le_of_ble_eq_true rfl)⟩ (rR_0 X h (hS 0) Nat.one_pos Nat.one_pos) rfl hl rfl (Nat.le_of_ble_eq_true rfl) ⟨Nat.zero_le _, Nat.zero_le _⟩ dX11_isReady_49 (fun H locs h => ?_)
    refine lv_isub X.x X.b dX11_isReady_52 ?_
    refine lv_iconst (v := 4) X.x X.b dX11_isReady_53 (by decide) ?_
    refine lv_icmp_lt (tgt := 79) X.x X.b dX11_isReady_54 (by decide) (fun c25 => ?_) (fun c25 => ?_)
    · have hf := wT c25 hf
      exact wX11_isReady_b79 hS X h (lv_sub hl [1, 2, 3, 0] rfl) hf JR
    · have hf := wF c25 hf
      refine lv_aload_n X.x X.b dX11_isReady_57 rfl (lv_at hl 1 rfl) ?_
      refine lv_iload_n X.x X.b dX11_isReady_58 rfl (lv_at hl 2 rfl) ?_
      refine lv_bipush (v := 17) X.x X.b dX11_isReady_59 (by decide) ?_
      obtain ⟨y27, e26, hf⟩ := wBd_s hf
      refine ro_callvI (As := [.int a1, .int (17 : Int32)]) (g1 := g) (x := y27) X h (kX11_of l hS e26) mv_X11_of lk_X11_106 ⟨rfl, rfl⟩ ⟨(Nat.le_of_ble_eq_true rfl), (Nat.le_of_ble_eq_true rfl)⟩ (rR_0 X h (hS 0) Nat.one_pos Nat.one_pos) rfl hl rfl (Nat.le_of_ble_eq_true rfl) ⟨Nat.zero_le _, Nat.zero_le _⟩ dX11_isReady_61 (fun H locs h => ?_)
      refine lv_if_ne (tgt := 79) X.x X.b dX11_isReady_64 (by decide) (fun c28 => ?_) (fun c28 => ?_)
      · have hf := wF c28 hf
        exact wX11_isReady_b79 hS X h (lv_sub hl [1, 2, 3, 0] rfl) hf JR
      · have hf := wT c28 hf
        refine lv_aload_n X.x X.b dX11_isReady_67 rfl (lv_at hl 1 rfl) ?_
        refine lv_iload_n X.x X.b dX11_isReady_68 rfl (lv_at hl 2 rfl) ?_
        obtain ⟨y30, e29, hf⟩ := wBd_s hf
        refine ro_callvI (As := [.int a1]) (g1 := g) (x := y30) X h (kX11_needsIce l hS e29) mv_X11_needsIce lk_X11_236 ⟨rfl, rfl⟩ ⟨(Nat.le_of_ble_eq_true rfl), (Nat.le_of_ble_eq_true rfl)⟩ (rR_0 X h (hS 0) Nat.one_pos Nat.one_pos) rfl hl rfl (Nat.le_of_ble_eq_true rfl) ⟨Nat.zero_le _, Nat.zero_le _⟩ dX11_isReady_69 (fun H locs h => ?_)
        refine lv_if_ne (tgt := 79) X.x X.b dX11_isReady_72 (by decide) (fun c31 => ?_) (fun c31 => ?_)
        · have hf := wF c31 hf
          exact wX11_isReady_b79 hS X h (lv_sub hl [1, 2, 3, 0] rfl) hf JR
        · have hf := wT c31 hf
          refine lv_iconst (v := 1) X.x X.b dX11_isReady_75 (by decide) ?_
          refine lv_goto (tgt := 80) X.x X.b dX11_isReady_76 (by decide) ?_
          exact wX11_isReady_b80 hS X h (lv_sub hl [1, 2, 3, 0] rfl) hf JR
set_option maxHeartbeats 4000000 in
set_option maxRecDepth 20000 in
theorem wX11_isReady_b24 {k : En} {S : Nat → Prop} (hS : ∀ t, S t) {a1 : Int32} {a2 : Int32} {res : Mm × Int32} (X : Cx YR S k p s m args meth c cX11_isReady 7 (some .boolean) RX11) {g : Mm} {H : Heap} {locs : List Loc} {ls : Array Slot} (h : Hx YR S k s g H locs) (hl : lv_has ls 7 [(0, .ref (k.1 + adR 0 0 0)), (1, .int a1), (2, .int a2)]) {r : Mm × Int32} (hf : fX11_isReady_b24 g a1 a2 = some r) (JR : r = res) :
    W p l e (RmN 6 137) s m args below meth c H locs 0 0 (Fin YR S k args s below (some (.int res.2)) res.1) (F0 m 24 ls []) := by
  unfold fX11_isReady_b24 at hf
  refine lv_iconst (v := 0) X.x X.b dX11_isReady_24 (by decide) ?_
  exact wX11_isReady_b25 hS X h (lv_sub hl [0, 1, 2] rfl) hf JR
set_option maxHeartbeats 4000000 in
set_option maxRecDepth 20000 in
theorem kX11_isReady (l : Launch) {k : En} {S : Nat → Prop} (hS : ∀ t, S t) {a1 : Int32} {a2 : Int32} {res : Mm × Int32} {g : Mm} (hf : fX11_isReady g a1 a2 = some res) : Mt l yX11_isReady cX11_isReady 7 (some .boolean) (RmN 6 137) YR S k [.ref (k.1 + adR 0 0 0), .int a1, .int a2] g (some (.int res.2)) res.1 := by
  refine Mt.of (by decide) (Nat.le_of_ble_eq_true rfl) ?_
  intro p e s m args below meth c ls X _ h hl
  have X : Cx YR S k p s m args meth c cX11_isReady 7 (some .boolean) RX11 := X
  have hl : lv_has ls 7 [(0, .ref (k.1 + adR 0 0 0)), (1, .int a1), (2, .int a2)] := hl
  have JR : res = res := rfl
  unfold fX11_isReady at hf
  refine lv_aload_n X.x X.b dX11_isReady_0 rfl (lv_at hl 0 rfl) ?_
  refine lv_iload_n X.x X.b dX11_isReady_1 rfl (lv_at hl 1 rfl) ?_
  refine lv_bipush (v := 6) X.x X.b dX11_isReady_2 (by decide) ?_
  obtain ⟨y2, e1, hf⟩ := wBd_s hf
  refine ro_callvI (As := [.int a1, .int (6 : Int32)]) (g1 := g) (x := y2) X h (kX11_of l hS e1) mv_X11_of lk_X11_106 ⟨rfl, rfl⟩ ⟨(Nat.le_of_ble_eq_true rfl), (Nat.le_of_ble_eq_true rfl)⟩ (rR_0 X h (hS 0) Nat.one_pos Nat.one_pos) rfl hl rfl (Nat.le_of_ble_eq_true rfl) ⟨Nat.zero_le _, Nat.zero_le _⟩ dX11_isReady_4 (fun H locs h => ?_)
  refine lv_iconst (v := 1) X.x X.b dX11_isReady_7 (by decide) ?_
  refine lv_icmp_ne (tgt := 24) X.x X.b dX11_isReady_8 (by decide) (fun c3 => ?_) (fun c3 => ?_)
  · have hf := wF c3 hf
    exact wX11_isReady_b24 hS X h (lv_sub hl [0, 1, 2] rfl) hf JR
  · have hf := wT c3 hf
    refine lv_aload_n X.x X.b dX11_isReady_11 rfl (lv_at hl 0 rfl) ?_
    refine lv_iload_n X.x X.b dX11_isReady_12 rfl (lv_at hl 1 rfl) ?_
    obtain ⟨y33, e32, hf⟩ := wBd_s hf
    refine ro_callvI (As := [.int a1]) (g1 := g) (x := y33) X h (kX11_standFor l hS e32) mv_X11_standFor lk_X11_233 ⟨rfl, rfl⟩ ⟨(Nat.le_of_ble_eq_true rfl), (Nat.le_of_ble_eq_true rfl)⟩ (rR_0 X h (hS 0) Nat.one_pos Nat.one_pos) rfl hl rfl (Nat.le_of_ble_eq_true rfl) ⟨Nat.zero_le _, Nat.zero_le _⟩ dX11_isReady_13 (fun H locs h => ?_)
    refine lv_iconst (v := (-1)) X.x X.b dX11_isReady_16 (by decide) ?_
    refine lv_icmp_eq (tgt := 24) X.x X.b dX11_isReady_17 (by decide) (fun c34 => ?_) (fun c34 => ?_)
    · have hf := wT c34 hf
      exact wX11_isReady_b24 hS X h (lv_sub hl [0, 1, 2] rfl) hf JR
    · have hf := wF c34 hf
      refine lv_iconst (v := 1) X.x X.b dX11_isReady_20 (by decide) ?_
      refine lv_goto (tgt := 25) X.x X.b dX11_isReady_21 (by decide) ?_
      exact wX11_isReady_b25 hS X h (lv_sub hl [0, 1, 2] rfl) hf JR
set_option maxHeartbeats 4000000 in
set_option maxRecDepth 20000 in
theorem wX11_uses_b134 {k : En} {S : Nat → Prop} (hS : ∀ t, S t) {a1 : Int32} {res : Mm} (X : Cx YR S k p s m args meth c cX11_uses 6 none RX11) {g : Mm} {x2 : Int32} {H : Heap} {locs : List Loc} {ls : Array Slot} (h : Hx YR S k s g H locs) (hl : lv_has ls 6 [(0, .ref (k.1 + adR 0 0 0)), (1, .int a1), (2, .int x2)]) {r : Mm} (hf : fX11_uses_b134 g a1 x2 = some r) (JR : r = res) :
    W p l e (RmN 7 163) s m args below meth c H locs 0 0 (Fin YR S k args s below none res) (F0 m 134 ls []) := by
  unfold fX11_uses_b134 at hf
  refine lv_aload_n X.x X.b dX11_uses_134 rfl (lv_at hl 0 rfl) ?_
  refine gR_0_0 X h (hS 0) Nat.one_pos Nat.one_pos lk_X11_7 dX11_uses_135 ?_
  refine lv_sipush (v := 460) X.x X.b dX11_uses_138 (by decide) ?_
  refine lv_iload_n X.x X.b dX11_uses_141 rfl (lv_at hl 1 rfl) ?_
  refine lv_iadd X.x X.b dX11_uses_142 ?_
  refine lv_aload_n X.x X.b dX11_uses_143 rfl (lv_at hl 0 rfl) ?_
  refine gR_0_0 X h (hS 0) Nat.one_pos Nat.one_pos lk_X11_7 dX11_uses_144 ?_
  refine lv_sipush (v := 480) X.x X.b dX11_uses_147 (by decide) ?_
  obtain ⟨b17, hf⟩ := wGi_s hf
  refine aR_1 X h (hS 1) Nat.one_pos Nat.one_pos b17 dX11_uses_150 ?_
  refine lv_aload_n X.x X.b dX11_uses_151 rfl (lv_at hl 0 rfl) ?_
  refine gR_0_22 X h (hS 0) Nat.one_pos Nat.one_pos lk_X11_56 dX11_uses_152 ?_
  refine lv_aload_n X.x X.b dX11_uses_155 rfl (lv_at hl 0 rfl) ?_
  refine lv_iload_n X.x X.b dX11_uses_156 rfl (lv_at hl 2 rfl) ?_
  refine lv_iconst (v := 0) X.x X.b dX11_uses_157 (by decide) ?_
  obtain ⟨y19, e18, hf⟩ := wBd_s hf
  refine ro_callvI (As := [.int x2, .int (0 : Int32)]) (g1 := g) (x := y19) X h (kX11_of l hS e18) mv_X11_of lk_X11_106 ⟨rfl, rfl⟩ ⟨(Nat.le_of_ble_eq_true rfl), (Nat.le_of_ble_eq_true rfl)⟩ (rR_0 X h (hS 0) Nat.one_pos Nat.one_pos) rfl hl rfl (Nat.le_of_ble_eq_true rfl) ⟨Nat.zero_le _, Nat.zero_le _⟩ dX11_uses_158 (fun H locs h => ?_)
  obtain ⟨b20, hf⟩ := wGi_s hf
  refine aR_15 X h (hS 15) Nat.one_pos Nat.one_pos b20 dX11_uses_161 ?_
  refine lv_iadd X.x X.b dX11_uses_162 ?_
  obtain ⟨b21, hf⟩ := wGi_s hf
  obtain ⟨g22, e23, hf⟩ := wLe_s hf
  refine bR_1 X h (hS 1) Nat.one_pos Nat.one_pos e23 b21 dX11_uses_163 (fun H locs h => ?_)
  refine lv_aload_n X.x X.b dX11_uses_164 rfl (lv_at hl 0 rfl) ?_
  refine gR_0_0 X h (hS 0) Nat.one_pos Nat.one_pos lk_X11_7 dX11_uses_165 ?_
  refine lv_sipush (v := 462) X.x X.b dX11_uses_168 (by decide) ?_
  refine lv_iload_n X.x X.b dX11_uses_171 rfl (lv_at hl 1 rfl) ?_
  refine lv_iadd X.x X.b dX11_uses_172 ?_
  refine lv_aload_n X.x X.b dX11_uses_173 rfl (lv_at hl 0 rfl) ?_
  refine lv_iload_n X.x X.b dX11_uses_174 rfl (lv_at hl 2 rfl) ?_
  refine lv_iconst (v := 0) X.x X.b dX11_uses_175 (by decide) ?_
  obtain ⟨y25, e24, hf⟩ := wBd_s hf
  refine ro_callvI (As := [.int x2, .int (0 : Int32)]) (g1 := g22) (x := y25) X h (kX11_of l hS e24) mv_X11_of lk_X11_106 ⟨rfl, rfl⟩ ⟨(Nat.le_of_ble_eq_true rfl), (Nat.le_of_ble_eq_true rfl)⟩ (rR_0 X h (hS 0) Nat.one_pos Nat.one_pos) rfl hl rfl (Nat.le_of_ble_eq_true rfl) ⟨Nat.zero_le _, Nat.zero_le _⟩ dX11_uses_176 (fun H locs h => ?_)
  obtain ⟨b26, hf⟩ := wGi_s hf
  obtain ⟨g27, e28, hf⟩ := wLe_s hf
  refine bR_1 X h (hS 1) Nat.one_pos Nat.one_pos e28 b26 dX11_uses_179 (fun H locs h => ?_)
  cases (Option.some.inj hf).trans JR
  exact ro_vret X h dX11_uses_180
set_option maxHeartbeats 4000000 in
set_option maxRecDepth 20000 in
theorem wX11_uses_b62 {k : En} {S : Nat → Prop} (hS : ∀ t, S t) {a1 : Int32} {res : Mm} (X : Cx YR S k p s m args meth c cX11_uses 6 none RX11) {g : Mm} {x2 : Int32} {x3 : Int32} {x4 : Int32} {H : Heap} {locs : List Loc} {ls : Array Slot} (h : Hx YR S k s g H locs) (hl : lv_has ls 6 [(0, .ref (k.1 + adR 0 0 0)), (1, .int a1), (2, .int x2), (3, .int x3), (4, .int x4)]) {r : (Mm × Int32 × Int32 × Int32) ⊕ (Mm)} (hf : fX11_uses_b62 g a1 x2 x3 x4 = some r) (J1 : ∀ (g : Mm) (x2 : Int32) (x3 : Int32) (x4 : Int32), r = .inl (g, x2, x3, x4) → ∀ (H : Heap) (locs : List Loc) (ls : Array Slot), Hx YR S k s g H locs → lv_has ls 6 [(0, .ref (k.1 + adR 0 0 0)), (1, .int a1), (2, .int x2), (3, .int x3), (4, .int x4)] → W p l e (RmN 7 163) s m args below meth c H locs 0 0 (Fin YR S k args s below none res) (F0 m 7 ls [])) (JR : ∀ t1, r = .inr t1 → t1 = res) :
    W p l e (RmN 7 163) s m args below meth c H locs 0 0 (Fin YR S k args s below none res) (F0 m 62 ls []) := by
  unfold fX11_uses_b62 at hf
  obtain ⟨y44, e45, hf⟩ := wLe_s hf
  refine lv_iinc (v := y44) (lv' := [(4, .int y44), (0, .ref (k.1 + adR 0 0 0)), (1, .int a1), (2, .int x2), (3, .int x3)]) X.x X.b dX11_uses_62 hl (k := 4) rfl (by rw [e45]; rfl) (by decide) rfl (fun ls hl => ?_)
  refine lv_goto (tgt := 7) X.x X.b dX11_uses_65 (by decide) ?_
  exact J1 _ _ _ _ (Option.some.inj hf).symm _ _ _ h (lv_sub hl [1, 2, 3, 4, 0] rfl)
set_option maxHeartbeats 4000000 in
set_option maxRecDepth 20000 in
theorem wX11_uses_b56 {k : En} {S : Nat → Prop} (hS : ∀ t, S t) {a1 : Int32} {res : Mm} (X : Cx YR S k p s m args meth c cX11_uses 6 none RX11) {g : Mm} {x4 : Int32} {x5 : Int32} {H : Heap} {locs : List Loc} {ls : Array Slot} (h : Hx YR S k s g H locs) (hl : lv_has ls 6 [(0, .ref (k.1 + adR 0 0 0)), (1, .int a1), (4, .int x4), (5, .int x5)]) {r : (Mm × Int32 × Int32 × Int32) ⊕ (Mm)} (hf : fX11_uses_b56 g a1 x4 x5 = some r) (J1 : ∀ (g : Mm) (x2 : Int32) (x3 : Int32) (x4 : Int32), r = .inl (g, x2, x3, x4) → ∀ (H : Heap) (locs : List Loc) (ls : Array Slot), Hx YR S k s g H locs → lv_has ls 6 [(0, .ref (k.1 + adR 0 0 0)), (1, .int a1), (2, .int x2), (3, .int x3), (4, .int x4)] → W p l e (RmN 7 163) s m args below meth c H locs 0 0 (Fin YR S k args s below none res) (F0 m 7 ls [])) (JR : ∀ t1, r = .inr t1 → t1 = res) :
    W p l e (RmN 7 163) s m args below meth c H locs 0 0 (Fin YR S k args s below none res) (F0 m 56 ls []) := by
  unfold fX11_uses_b56 at hf
  refine lv_iload X.x X.b dX11_uses_56 (lv_at hl 2 rfl) ?_
  refine lv_istore_n (lv' := [(2, .int x4), (0, .ref (k.1 + adR 0 0 0)), (1, .int a1), (4, .int x4), (5, .int x5)]) X.x X.b dX11_uses_58 rfl hl (by decide) rfl (fun ls hl => ?_)
  refine lv_iload X.x X.b dX11_uses_59 (lv_at hl 4 rfl) ?_
  refine lv_istore_n (lv' := [(3, .int x5), (2, .int x4), (0, .ref (k.1 + adR 0 0 0)), (1, .int a1), (4, .int x4), (5, .int x5)]) X.x X.b dX11_uses_61 rfl hl (by decide) rfl (fun ls hl => ?_)
  exact wX11_uses_b62 hS X h (lv_sub hl [2, 3, 1, 0, 4] rfl) hf J1 JR
set_option maxHeartbeats 4000000 in
set_option maxRecDepth 20000 in
theorem wX11_uses_L7 {k : En} {S : Nat → Prop} (hS : ∀ t, S t) {a1 : Int32} {res : Mm} (X : Cx YR S k p s m args meth c cX11_uses 6 none RX11) {r : Mm} (JR : r = res) :
    ∀ (fu : Nat) (g : Mm) (x2 : Int32) (x3 : Int32) (x4 : Int32) (H : Heap) (locs : List Loc) (ls : Array Slot), Hx YR S k s g H locs → lv_has ls 6 [(0, .ref (k.1 + adR 0 0 0)), (1, .int a1), (2, .int x2), (3, .int x3), (4, .int x4)] → wLp (fun q => fX11_uses_B7 q.1 a1 q.2.1 q.2.2.1 q.2.2.2) fu (g, x2, x3, x4) = some r → W p l e (RmN 7 163) s m args below meth c H locs 0 0 (Fin YR S k args s below none res) (F0 m 7 ls []) := by
  intro fu
  induction fu with
  | zero => intro g x2 x3 x4 H locs ls h hl hf; exact (wLp_0 hf).elim
  | succ fu ih1 =>
    intro g x2 x3 x4 H locs ls h hl hf
    obtain ⟨r1, hf, hr⟩ := wLp_s hf
    have J1n : ∀ (g : Mm) (x2 : Int32) (x3 : Int32) (x4 : Int32), r1 = .inl (g, x2, x3, x4) → ∀ (H : Heap) (locs : List Loc) (ls : Array Slot), Hx YR S k s g H locs → lv_has ls 6 [(0, .ref (k.1 + adR 0 0 0)), (1, .int a1), (2, .int x2), (3, .int x3), (4, .int x4)] → W p l e (RmN 7 163) s m args below meth c H locs 0 0 (Fin YR S k args s below none res) (F0 m 7 ls []) := fun g x2 x3 x4 q H locs ls h hl => by subst q; exact ih1 _ _ _ _ _ _ _ h hl hr
    have JRn : ∀ t1, r1 = .inr t1 → t1 = res := fun t1 q => by subst q; obtain rfl := Option.some.inj hr; exact JR
    have J1 := J1n
    have JR := JRn
    clear J1n JRn
    have hf : fX11_uses_B7 g a1 x2 x3 x4 = some r1 := hf
    unfold fX11_uses_B7 at hf
    refine lv_iload X.x X.b dX11_uses_7 (lv_at hl 4 rfl) ?_
    refine lv_aload_n X.x X.b dX11_uses_9 rfl (lv_at hl 0 rfl) ?_
    refine gR_0_1 X h (hS 0) Nat.one_pos Nat.one_pos lk_X11_96 dX11_uses_10 ?_
    refine lv_icmp_ge (tgt := 68) X.x X.b dX11_uses_13 (by decide) (fun c7 => ?_) (fun c7 => ?_)
    · have hf := wT c7 hf
      obtain ⟨t8, hf, e9⟩ := wEx_s hf
      have JR := JR t8 e9
      refine lv_iload_n X.x X.b dX11_uses_68 rfl (lv_at hl 2 rfl) ?_
      refine lv_iconst (v := (-1)) X.x X.b dX11_uses_69 (by decide) ?_
      refine lv_icmp_ne (tgt := 74) X.x X.b dX11_uses_70 (by decide) (fun c10 => ?_) (fun c10 => ?_)
      · have hf := wF c10 hf
        refine lv_aload_n X.x X.b dX11_uses_74 rfl (lv_at hl 0 rfl) ?_
        refine lv_iload_n X.x X.b dX11_uses_75 rfl (lv_at hl 2 rfl) ?_
        refine lv_bipush (v := 6) X.x X.b dX11_uses_76 (by decide) ?_
        obtain ⟨y12, e11, hf⟩ := wBd_s hf
        refine ro_callvI (As := [.int x2, .int (6 : Int32)]) (g1 := g) (x := y12) X h (kX11_of l hS e11) mv_X11_of lk_X11_106 ⟨rfl, rfl⟩ ⟨(Nat.le_of_ble_eq_true rfl), (Nat.le_of_ble_eq_true rfl)⟩ (rR_0 X h (hS 0) Nat.one_pos Nat.one_pos) rfl hl rfl (Nat.le_of_ble_eq_true rfl) ⟨Nat.zero_le _, Nat.zero_le _⟩ dX11_uses_78 (fun H locs h => ?_)
        refine lv_iconst (v := 1) X.x X.b dX11_uses_81 (by decide) ?_
        refine lv_icmp_ne (tgt := 127) X.x X.b dX11_uses_82 (by decide) (fun c13 => ?_) (fun c13 => ?_)
        · have hf := wF c13 hf
          refine lv_aload_n X.x X.b dX11_uses_127 rfl (lv_at hl 0 rfl) ?_
          refine lv_iload_n X.x X.b dX11_uses_128 rfl (lv_at hl 2 rfl) ?_
          refine lv_bipush (v := 6) X.x X.b dX11_uses_129 (by decide) ?_
          obtain ⟨g16, e14, hf⟩ := wBd_s hf
          refine ro_callvV (As := [.int x2, .int (6 : Int32)]) (g1 := g16) X h (kX11_becomes l hS e14) mv_X11_becomes lk_X11_207 ⟨rfl, rfl⟩ ⟨(Nat.le_of_ble_eq_true rfl), (Nat.le_of_ble_eq_true rfl)⟩ (rR_0 X h (hS 0) Nat.one_pos Nat.one_pos) rfl hl rfl (Nat.le_of_ble_eq_true rfl) ⟨Nat.zero_le _, Nat.zero_le _⟩ dX11_uses_131 (fun H locs h => ?_)
          exact wX11_uses_b134 hS X h (lv_sub hl [0, 1, 2] rfl) hf JR
        · have hf := wT c13 hf
          refine lv_aload_n X.x X.b dX11_uses_85 rfl (lv_at hl 0 rfl) ?_
          refine lv_iload_n X.x X.b dX11_uses_86 rfl (lv_at hl 2 rfl) ?_
          obtain ⟨y30, e29, hf⟩ := wBd_s hf
          refine ro_callvI (As := [.int x2]) (g1 := g) (x := y30) X h (kX11_standFor l hS e29) mv_X11_standFor lk_X11_233 ⟨rfl, rfl⟩ ⟨(Nat.le_of_ble_eq_true rfl), (Nat.le_of_ble_eq_true rfl)⟩ (rR_0 X h (hS 0) Nat.one_pos Nat.one_pos) rfl hl rfl (Nat.le_of_ble_eq_true rfl) ⟨Nat.zero_le _, Nat.zero_le _⟩ dX11_uses_87 (fun H locs h => ?_)
          refine lv_istore (lv' := [(4, .int y30), (0, .ref (k.1 + adR 0 0 0)), (1, .int a1), (2, .int x2), (3, .int x3)]) X.x X.b dX11_uses_90 hl (by decide) rfl (fun ls hl => ?_)
          refine lv_aload_n X.x X.b dX11_uses_92 rfl (lv_at hl 1 rfl) ?_
          refine gR_0_0 X h (hS 0) Nat.one_pos Nat.one_pos lk_X11_7 dX11_uses_93 ?_
          refine lv_sipush (v := 496) X.x X.b dX11_uses_96 (by decide) ?_
          refine lv_iload X.x X.b dX11_uses_99 (lv_at hl 0 rfl) ?_
          refine lv_iadd X.x X.b dX11_uses_101 ?_
          refine lv_iload_n X.x X.b dX11_uses_102 rfl (lv_at hl 3 rfl) ?_
          obtain ⟨b31, hf⟩ := wGi_s hf
          obtain ⟨g32, e33, hf⟩ := wLe_s hf
          refine bR_1 X h (hS 1) Nat.one_pos Nat.one_pos e33 b31 dX11_uses_103 (fun H locs h => ?_)
          refine lv_aload_n X.x X.b dX11_uses_104 rfl (lv_at hl 1 rfl) ?_
          refine gR_0_0 X h (hS 0) Nat.one_pos Nat.one_pos lk_X11_7 dX11_uses_105 ?_
          refine lv_bipush (v := 30) X.x X.b dX11_uses_108 (by decide) ?_
          refine lv_iload_n X.x X.b dX11_uses_110 rfl (lv_at hl 3 rfl) ?_
          refine lv_imul X.x X.b dX11_uses_111 ?_
          refine lv_bipush (v := 8) X.x X.b dX11_uses_112 (by decide) ?_
          refine lv_iadd X.x X.b dX11_uses_114 ?_
          refine lv_iload X.x X.b dX11_uses_115 (lv_at hl 0 rfl) ?_
          obtain ⟨b34, hf⟩ := wGi_s hf
          obtain ⟨g35, e36, hf⟩ := wLe_s hf
          refine bR_1 X h (hS 1) Nat.one_pos Nat.one_pos e36 b34 dX11_uses_117 (fun H locs h => ?_)
          refine lv_aload_n X.x X.b dX11_uses_118 rfl (lv_at hl 1 rfl) ?_
          refine lv_iload_n X.x X.b dX11_uses_119 rfl (lv_at hl 3 rfl) ?_
          refine lv_iconst (v := 2) X.x X.b dX11_uses_120 (by decide) ?_
          obtain ⟨g39, e37, hf⟩ := wBd_s hf
          refine ro_callvV (As := [.int x2, .int (2 : Int32)]) (g1 := g39) X h (kX11_becomes l hS e37) mv_X11_becomes lk_X11_207 ⟨rfl, rfl⟩ ⟨(Nat.le_of_ble_eq_true rfl), (Nat.le_of_ble_eq_true rfl)⟩ (rR_0 X h (hS 0) Nat.one_pos Nat.one_pos) rfl hl rfl (Nat.le_of_ble_eq_true rfl) ⟨Nat.zero_le _, Nat.zero_le _⟩ dX11_uses_121 (fun H locs h => ?_)
          refine lv_goto (tgt := 134) X.x X.b dX11_uses_124 (by decide) ?_
          exact wX11_uses_b134 hS X h (lv_sub hl [1, 2, 3] rfl) hf JR
      · have hf := wT c10 hf
        cases (Option.some.inj hf).trans JR
        exact ro_vret X h dX11_uses_73
    · have hf := wF c7 hf
      refine lv_aload_n X.x X.b dX11_uses_16 rfl (lv_at hl 0 rfl) ?_
      refine lv_iload X.x X.b dX11_uses_17 (lv_at hl 4 rfl) ?_
      refine lv_iload_n X.x X.b dX11_uses_19 rfl (lv_at hl 1 rfl) ?_
      obtain ⟨g42, y41, e40, hf⟩ := wB2_s hf
      refine ro_callvI (As := [.int x4, .int a1]) (g1 := g42) (x := y41) X h (kX11_isReady l hS e40) mv_X11_isReady lk_X11_239 ⟨rfl, rfl⟩ ⟨(Nat.le_of_ble_eq_true rfl), (Nat.le_of_ble_eq_true rfl)⟩ (rR_0 X h (hS 0) Nat.one_pos Nat.one_pos) rfl hl rfl (Nat.le_of_ble_eq_true rfl) ⟨Nat.zero_le _, Nat.zero_le _⟩ dX11_uses_20 (fun H locs h => ?_)
      refine lv_if_eq (tgt := 62) X.x X.b dX11_uses_23 (by decide) (fun c43 => ?_) (fun c43 => ?_)
      · have hf := wT c43 hf
        exact wX11_uses_b62 hS X h (lv_sub hl [0, 1, 2, 3, 4] rfl) hf J1 JR
      · have hf := wF c43 hf
        refine lv_aload_n X.x X.b dX11_uses_26 rfl (lv_at hl 0 rfl) ?_
        refine lv_iconst (v := 0) X.x X.b dX11_uses_27 (by decide) ?_
        refine lv_iload X.x X.b dX11_uses_28 (lv_at hl 4 rfl) ?_
        refine lv_aload_n X.x X.b dX11_uses_30 rfl (lv_at hl 0 rfl) ?_
        refine gR_0_0 X h (hS 0) Nat.one_pos Nat.one_pos lk_X11_7 dX11_uses_31 ?_
        refine lv_sipush (v := 462) X.x X.b dX11_uses_34 (by decide) ?_
        refine lv_iload_n X.x X.b dX11_uses_37 rfl (lv_at hl 1 rfl) ?_
        refine lv_iadd X.x X.b dX11_uses_38 ?_
        obtain ⟨b46, hf⟩ := wGi_s hf
        refine aR_1 X h (hS 1) Nat.one_pos Nat.one_pos b46 dX11_uses_39 ?_
        obtain ⟨g49, y48, e47, hf⟩ := wB2_s hf
        refine ro_callvI (As := [.int (0 : Int32), .int x4, .int (g42 1 0 0 ((462 : Int32) + a1).toNatClampNeg)]) (g1 := g49) (x := y48) X h (kX11_worth l hS e47) mv_X11_worth lk_X11_202 ⟨rfl, rfl⟩ ⟨(Nat.le_of_ble_eq_true rfl), (Nat.le_of_ble_eq_true rfl)⟩ (rR_0 X h (hS 0) Nat.one_pos Nat.one_pos) rfl hl rfl (Nat.le_of_ble_eq_true rfl) ⟨Nat.zero_le _, Nat.zero_le _⟩ dX11_uses_40 (fun H locs h => ?_)
        refine lv_istore (lv' := [(5, .int y48), (0, .ref (k.1 + adR 0 0 0)), (1, .int a1), (2, .int x2), (3, .int x3), (4, .int x4)]) X.x X.b dX11_uses_43 hl (by decide) rfl (fun ls hl => ?_)
        refine lv_iload_n X.x X.b dX11_uses_45 rfl (lv_at hl 3 rfl) ?_
        refine lv_iconst (v := (-1)) X.x X.b dX11_uses_46 (by decide) ?_
        refine lv_icmp_eq (tgt := 56) X.x X.b dX11_uses_47 (by decide) (fun c50 => ?_) (fun c50 => ?_)
        · have hf := wT c50 hf
          exact wX11_uses_b56 hS X h (lv_sub hl [1, 2, 5, 0] rfl) hf J1 JR
        · have hf := wF c50 hf
          refine lv_iload X.x X.b dX11_uses_50 (lv_at hl 0 rfl) ?_
          refine lv_iload_n X.x X.b dX11_uses_52 rfl (lv_at hl 4 rfl) ?_
          refine lv_icmp_le (tgt := 62) X.x X.b dX11_uses_53 (by decide) (fun c51 => ?_) (fun c51 => ?_)
          · have hf := wT c51 hf
            exact wX11_uses_b62 hS X h (lv_sub hl [1, 2, 3, 4, 5] rfl) hf J1 JR
          · have hf := wF c51 hf
            exact wX11_uses_b56 hS X h (lv_sub hl [1, 2, 5, 0] rfl) hf J1 JR
set_option maxHeartbeats 4000000 in
set_option maxRecDepth 20000 in
theorem kX11_uses (l : Launch) {k : En} {S : Nat → Prop} (hS : ∀ t, S t) {a1 : Int32} {res : Mm} {g : Mm} (hf : fX11_uses g a1 = some res) : Mt l yX11_uses cX11_uses 6 none (RmN 7 163) YR S k [.ref (k.1 + adR 0 0 0), .int a1] g none res := by
  refine Mt.of (by decide) (Nat.le_of_ble_eq_true rfl) ?_
  intro p e s m args below meth c ls X _ h hl
  have X : Cx YR S k p s m args meth c cX11_uses 6 none RX11 := X
  have hl : lv_has ls 6 [(0, .ref (k.1 + adR 0 0 0)), (1, .int a1)] := hl
  have JR : res = res := rfl
  unfold fX11_uses at hf
  refine lv_iconst (v := (-1)) X.x X.b dX11_uses_0 (by decide) ?_
  obtain ⟨y1, e2, hf⟩ := wLe_s hf
  refine lv_nmi e2 ?_
  refine lv_istore_n (lv' := [(2, .int y1), (0, .ref (k.1 + adR 0 0 0)), (1, .int a1)]) X.x X.b dX11_uses_1 rfl hl (by decide) rfl (fun ls hl => ?_)
  refine lv_iconst (v := 0) X.x X.b dX11_uses_2 (by decide) ?_
  obtain ⟨y3, e4, hf⟩ := wLe_s hf
  refine lv_nmi e4 ?_
  refine lv_istore_n (lv' := [(3, .int y3), (2, .int y1), (0, .ref (k.1 + adR 0 0 0)), (1, .int a1)]) X.x X.b dX11_uses_3 rfl hl (by decide) rfl (fun ls hl => ?_)
  refine lv_iconst (v := 0) X.x X.b dX11_uses_4 (by decide) ?_
  obtain ⟨y5, e6, hf⟩ := wLe_s hf
  refine lv_nmi e6 ?_
  refine lv_istore (lv' := [(4, .int y5), (3, .int y3), (2, .int y1), (0, .ref (k.1 + adR 0 0 0)), (1, .int a1)]) X.x X.b dX11_uses_5 hl (by decide) rfl (fun ls hl => ?_)
  exact wX11_uses_L7 hS X JR _ _ _ _ _ _ _ _ h (lv_sub hl [3, 4, 2, 1, 0] rfl) hf
set_option maxHeartbeats 4000000 in
set_option maxRecDepth 20000 in
theorem wX11_causeOf_b30 {k : En} {S : Nat → Prop} (hS : ∀ t, S t) {g0 : Mm} {a1 : Int32} {res : Int32} (X : Cx YR S k p s m args meth c cX11_causeOf 3 (some .int) RX11) {z0 : Int32} {H : Heap} {locs : List Loc} {ls : Array Slot} (h : Hx YR S k s g0 H locs) (hl : lv_has ls 3 [(0, .ref (k.1 + adR 0 0 0)), (1, .int a1)]) {r : Int32} (hf : fX11_causeOf_b30 g0 a1 z0 = some r) (JR : r = res) :
    W p l e (RmN 2 47) s m args below meth c H locs 0 0 (Fin YR S k args s below (some (.int res)) g0) (F0 m 30 ls [.int z0]) := by
  unfold fX11_causeOf_b30 at hf
  refine lv_istore_n (lv' := [(2, .int z0), (0, .ref (k.1 + adR 0 0 0)), (1, .int a1)]) X.x X.b dX11_causeOf_30 rfl hl (by decide) rfl (fun ls hl => ?_)
  refine lv_aload_n X.x X.b dX11_causeOf_31 rfl (lv_at hl 1 rfl) ?_
  refine lv_iload_n X.x X.b dX11_causeOf_32 rfl (lv_at hl 2 rfl) ?_
  refine lv_bipush (v := 6) X.x X.b dX11_causeOf_33 (by decide) ?_
  obtain ⟨y4, e3, hf⟩ := wBd_s hf
  refine ro_callvI (As := [.int a1, .int (6 : Int32)]) (g1 := g0) (x := y4) X h (kX11_of l hS e3) mv_X11_of lk_X11_106 ⟨rfl, rfl⟩ ⟨(Nat.le_of_ble_eq_true rfl), (Nat.le_of_ble_eq_true rfl)⟩ (rR_0 X h (hS 0) Nat.one_pos Nat.one_pos) rfl hl rfl (Nat.le_of_ble_eq_true rfl) ⟨Nat.zero_le _, Nat.zero_le _⟩ dX11_causeOf_35 (fun H locs h => ?_)
  by_cases c5 : y4 = (1 : Int32)
  · have hf := wT c5 hf
    refine lv_tableIn (off := 34) (tgt := 72) X.x X.b dX11_causeOf_38 (by rw [c5]; decide) (by rw [c5]; decide) (by rw [c5]; rfl) (by decide) ?_
    refine lv_aload_n X.x X.b dX11_causeOf_72 rfl (lv_at hl 1 rfl) ?_
    refine lv_iload_n X.x X.b dX11_causeOf_73 rfl (lv_at hl 2 rfl) ?_
    obtain ⟨y7, e6, hf⟩ := wBd_s hf
    refine ro_callvI (As := [.int a1]) (g1 := g0) (x := y7) X h (kX11_standFor l hS e6) mv_X11_standFor lk_X11_233 ⟨rfl, rfl⟩ ⟨(Nat.le_of_ble_eq_true rfl), (Nat.le_of_ble_eq_true rfl)⟩ (rR_0 X h (hS 0) Nat.one_pos Nat.one_pos) rfl hl rfl (Nat.le_of_ble_eq_true rfl) ⟨Nat.zero_le _, Nat.zero_le _⟩ dX11_causeOf_74 (fun H locs h => ?_)
    refine lv_iconst (v := (-1)) X.x X.b dX11_causeOf_77 (by decide) ?_
    refine lv_icmp_ne (tgt := 85) X.x X.b dX11_causeOf_78 (by decide) (fun c8 => ?_) (fun c8 => ?_)
    · have hf := wF c8 hf
      refine lv_iload_n X.x X.b dX11_causeOf_85 rfl (lv_at hl 0 rfl) ?_
      cases (Option.some.inj hf).trans JR
      exact ro_iret X h dX11_causeOf_86
    · have hf := wT c8 hf
      refine lv_iconst (v := 1) X.x X.b dX11_causeOf_81 (by decide) ?_
      refine lv_goto (tgt := 86) X.x X.b dX11_causeOf_82 (by decide) ?_
      cases (Option.some.inj hf).trans JR
      exact ro_iret X h dX11_causeOf_86
  · have hf := wF c5 hf
    by_cases c9 : y4 = (2 : Int32)
    · have hf := wT c9 hf
      refine lv_tableIn (off := 105) (tgt := 143) X.x X.b dX11_causeOf_38 (by rw [c9]; decide) (by rw [c9]; decide) (by rw [c9]; rfl) (by decide) ?_
      refine lv_iconst (v := 0) X.x X.b dX11_causeOf_143 (by decide) ?_
      cases (Option.some.inj hf).trans JR
      exact ro_iret X h dX11_causeOf_144
    · have hf := wF c9 hf
      by_cases c10 : y4 = (3 : Int32)
      · have hf := wT c10 hf
        refine lv_tableIn (off := 105) (tgt := 143) X.x X.b dX11_causeOf_38 (by rw [c10]; decide) (by rw [c10]; decide) (by rw [c10]; rfl) (by decide) ?_
        refine lv_iconst (v := 0) X.x X.b dX11_causeOf_143 (by decide) ?_
        cases (Option.some.inj hf).trans JR
        exact ro_iret X h dX11_causeOf_144
      · have hf := wF c10 hf
        by_cases c11 : y4 = (4 : Int32)
        · have hf := wT c11 hf
          refine lv_tableIn (off := 49) (tgt := 87) X.x X.b dX11_causeOf_38 (by rw [c11]; decide) (by rw [c11]; decide) (by rw [c11]; rfl) (by decide) ?_
          refine lv_aload_n X.x X.b dX11_causeOf_87 rfl (lv_at hl 1 rfl) ?_
          refine gR_0_35 X h (hS 0) Nat.one_pos Nat.one_pos lk_X11_86 dX11_causeOf_88 ?_
          refine lv_iload_n X.x X.b dX11_causeOf_91 rfl (lv_at hl 2 rfl) ?_
          obtain ⟨b12, hf⟩ := wGi_s hf
          refine aR_21 X h (hS 21) Nat.one_pos Nat.one_pos b12 dX11_causeOf_92 ?_
          cases (Option.some.inj hf).trans JR
          exact ro_iret X h dX11_causeOf_93
        · have hf := wF c11 hf
          by_cases c13 : y4 = (5 : Int32)
          · have hf := wT c13 hf
            refine lv_tableIn (off := 56) (tgt := 94) X.x X.b dX11_causeOf_38 (by rw [c13]; decide) (by rw [c13]; decide) (by rw [c13]; rfl) (by decide) ?_
            refine lv_aload_n X.x X.b dX11_causeOf_94 rfl (lv_at hl 1 rfl) ?_
            refine lv_iload_n X.x X.b dX11_causeOf_95 rfl (lv_at hl 2 rfl) ?_
            refine lv_bipush (v := 17) X.x X.b dX11_causeOf_96 (by decide) ?_
            obtain ⟨y15, e14, hf⟩ := wBd_s hf
            refine ro_callvI (As := [.int a1, .int (17 : Int32)]) (g1 := g0) (x := y15) X h (kX11_of l hS e14) mv_X11_of lk_X11_106 ⟨rfl, rfl⟩ ⟨(Nat.le_of_ble_eq_true rfl), (Nat.le_of_ble_eq_true rfl)⟩ (rR_0 X h (hS 0) Nat.one_pos Nat.one_pos) rfl hl rfl (Nat.le_of_ble_eq_true rfl) ⟨Nat.zero_le _, Nat.zero_le _⟩ dX11_causeOf_98 (fun H locs h => ?_)
            refine lv_if_gt (tgt := 112) X.x X.b dX11_causeOf_101 (by decide) (fun c16 => ?_) (fun c16 => ?_)
            · have hf := wT c16 hf
              refine lv_bipush (v := 8) X.x X.b dX11_causeOf_112 (by decide) ?_
              refine lv_goto (tgt := 142) X.x X.b dX11_causeOf_114 (by decide) ?_
              cases (Option.some.inj hf).trans JR
              exact ro_iret X h dX11_causeOf_142
            · have hf := wF c16 hf
              refine lv_aload_n X.x X.b dX11_causeOf_104 rfl (lv_at hl 1 rfl) ?_
              refine lv_iload_n X.x X.b dX11_causeOf_105 rfl (lv_at hl 2 rfl) ?_
              obtain ⟨y18, e17, hf⟩ := wBd_s hf
              refine ro_callvI (As := [.int a1]) (g1 := g0) (x := y18) X h (kX11_needsIce l hS e17) mv_X11_needsIce lk_X11_236 ⟨rfl, rfl⟩ ⟨(Nat.le_of_ble_eq_true rfl), (Nat.le_of_ble_eq_true rfl)⟩ (rR_0 X h (hS 0) Nat.one_pos Nat.one_pos) rfl hl rfl (Nat.le_of_ble_eq_true rfl) ⟨Nat.zero_le _, Nat.zero_le _⟩ dX11_causeOf_106 (fun H locs h => ?_)
              refine lv_if_eq (tgt := 117) X.x X.b dX11_causeOf_109 (by decide) (fun c19 => ?_) (fun c19 => ?_)
              · have hf := wT c19 hf
                refine lv_aload_n X.x X.b dX11_causeOf_117 rfl (lv_at hl 1 rfl) ?_
                refine gR_0_0 X h (hS 0) Nat.one_pos Nat.one_pos lk_X11_7 dX11_causeOf_118 ?_
                refine lv_sipush (v := 480) X.x X.b dX11_causeOf_121 (by decide) ?_
                obtain ⟨b20, hf⟩ := wGi_s hf
                refine aR_1 X h (hS 1) Nat.one_pos Nat.one_pos b20 dX11_causeOf_124 ?_
                refine lv_aload_n X.x X.b dX11_causeOf_125 rfl (lv_at hl 1 rfl) ?_
                refine lv_iload_n X.x X.b dX11_causeOf_126 rfl (lv_at hl 2 rfl) ?_
                refine lv_bipush (v := 7) X.x X.b dX11_causeOf_127 (by decide) ?_
                obtain ⟨y22, e21, hf⟩ := wBd_s hf
                refine ro_callvI (As := [.int a1, .int (7 : Int32)]) (g1 := g0) (x := y22) X h (kX11_of l hS e21) mv_X11_of lk_X11_106 ⟨rfl, rfl⟩ ⟨(Nat.le_of_ble_eq_true rfl), (Nat.le_of_ble_eq_true rfl)⟩ (rR_0 X h (hS 0) Nat.one_pos Nat.one_pos) rfl hl rfl (Nat.le_of_ble_eq_true rfl) ⟨Nat.zero_le _, Nat.zero_le _⟩ dX11_causeOf_129 (fun H locs h => ?_)
                refine lv_isub X.x X.b dX11_causeOf_132 ?_
                refine lv_iconst (v := 4) X.x X.b dX11_causeOf_133 (by decide) ?_
                refine lv_icmp_ge (tgt := 141) X.x X.b dX11_causeOf_134 (by decide) (fun c23 => ?_) (fun c23 => ?_)
                · have hf := wT c23 hf
                  refine lv_iload_n X.x X.b dX11_causeOf_141 rfl (lv_at hl 0 rfl) ?_
                  cases (Option.some.inj hf).trans JR
                  exact ro_iret X h dX11_causeOf_142
                · have hf := wF c23 hf
                  refine lv_iconst (v := 2) X.x X.b dX11_causeOf_137 (by decide) ?_
                  refine lv_goto (tgt := 142) X.x X.b dX11_causeOf_138 (by decide) ?_
                  cases (Option.some.inj hf).trans JR
                  exact ro_iret X h dX11_causeOf_142
              · have hf := wF c19 hf
                refine lv_bipush (v := 8) X.x X.b dX11_causeOf_112 (by decide) ?_
                refine lv_goto (tgt := 142) X.x X.b dX11_causeOf_114 (by decide) ?_
                cases (Option.some.inj hf).trans JR
                exact ro_iret X h dX11_causeOf_142
          · have hf := wF c13 hf
            refine lv_tableOut (tgt := 143) X.x X.b dX11_causeOf_38 (by have q0 := lv_neT c5 (a := 1) rfl; have q1 := lv_neT c9 (a := 2) rfl; have q2 := lv_neT c10 (a := 3) rfl; have q3 := lv_neT c11 (a := 4) rfl; have q4 := lv_neT c13 (a := 5) rfl; omega) (by decide) ?_
            refine lv_iconst (v := 0) X.x X.b dX11_causeOf_143 (by decide) ?_
            cases (Option.some.inj hf).trans JR
            exact ro_iret X h dX11_causeOf_144
set_option maxHeartbeats 4000000 in
set_option maxRecDepth 20000 in
theorem wX11_causeOf_b29 {k : En} {S : Nat → Prop} (hS : ∀ t, S t) {g0 : Mm} {a1 : Int32} {res : Int32} (X : Cx YR S k p s m args meth c cX11_causeOf 3 (some .int) RX11) {H : Heap} {locs : List Loc} {ls : Array Slot} (h : Hx YR S k s g0 H locs) (hl : lv_has ls 3 [(0, .ref (k.1 + adR 0 0 0)), (1, .int a1)]) {r : Int32} (hf : fX11_causeOf_b29 g0 a1 = some r) (JR : r = res) :
    W p l e (RmN 2 47) s m args below meth c H locs 0 0 (Fin YR S k args s below (some (.int res)) g0) (F0 m 29 ls []) := by
  unfold fX11_causeOf_b29 at hf
  refine lv_iconst (v := 5) X.x X.b dX11_causeOf_29 (by decide) ?_
  exact wX11_causeOf_b30 hS X h (lv_sub hl [0, 1] rfl) hf JR
set_option maxHeartbeats 4000000 in
set_option maxRecDepth 20000 in
theorem kX11_causeOf (l : Launch) {k : En} {S : Nat → Prop} (hS : ∀ t, S t) {g0 : Mm} {a1 : Int32} {res : Int32} (hf : fX11_causeOf g0 a1 = some res) : Mt l yX11_causeOf cX11_causeOf 3 (some .int) (RmN 2 47) YR S k [.ref (k.1 + adR 0 0 0), .int a1] g0 (some (.int res)) g0 := by
  refine Mt.of (by decide) (Nat.le_of_ble_eq_true rfl) ?_
  intro p e s m args below meth c ls X _ h hl
  have X : Cx YR S k p s m args meth c cX11_causeOf 3 (some .int) RX11 := X
  have hl : lv_has ls 3 [(0, .ref (k.1 + adR 0 0 0)), (1, .int a1)] := hl
  have JR : res = res := rfl
  unfold fX11_causeOf at hf
  refine lv_aload_n X.x X.b dX11_causeOf_0 rfl (lv_at hl 0 rfl) ?_
  refine gR_0_0 X h (hS 0) Nat.one_pos Nat.one_pos lk_X11_7 dX11_causeOf_1 ?_
  refine lv_sipush (v := 481) X.x X.b dX11_causeOf_4 (by decide) ?_
  obtain ⟨b1, hf⟩ := wGi_s hf
  refine aR_1 X h (hS 1) Nat.one_pos Nat.one_pos b1 dX11_causeOf_7 ?_
  refine lv_iconst (v := 1) X.x X.b dX11_causeOf_8 (by decide) ?_
  refine lv_icmp_ne (tgt := 29) X.x X.b dX11_causeOf_9 (by decide) (fun c2 => ?_) (fun c2 => ?_)
  · have hf := wF c2 hf
    exact wX11_causeOf_b29 hS X h (lv_sub hl [0, 1] rfl) hf JR
  · have hf := wT c2 hf
    refine lv_aload_n X.x X.b dX11_causeOf_12 rfl (lv_at hl 0 rfl) ?_
    refine gR_0_0 X h (hS 0) Nat.one_pos Nat.one_pos lk_X11_7 dX11_causeOf_13 ?_
    refine lv_sipush (v := 484) X.x X.b dX11_causeOf_16 (by decide) ?_
    obtain ⟨b24, hf⟩ := wGi_s hf
    refine aR_1 X h (hS 1) Nat.one_pos Nat.one_pos b24 dX11_causeOf_19 ?_
    refine lv_iconst (v := 2) X.x X.b dX11_causeOf_20 (by decide) ?_
    refine lv_icmp_ne (tgt := 29) X.x X.b dX11_causeOf_21 (by decide) (fun c25 => ?_) (fun c25 => ?_)
    · have hf := wF c25 hf
      exact wX11_causeOf_b29 hS X h (lv_sub hl [0, 1] rfl) hf JR
    · have hf := wT c25 hf
      refine lv_bipush (v := 6) X.x X.b dX11_causeOf_24 (by decide) ?_
      refine lv_goto (tgt := 30) X.x X.b dX11_causeOf_26 (by decide) ?_
      exact wX11_causeOf_b30 hS X h (lv_sub hl [0, 1] rfl) hf JR
set_option maxHeartbeats 4000000 in
set_option maxRecDepth 20000 in
theorem wX11_ticks_b263 {k : En} {S : Nat → Prop} (hS : ∀ t, S t) {res : Mm} (X : Cx YR S k p s m args meth c cX11_ticks 2 none RX11) {g : Mm} {x1 : Int32} {H : Heap} {locs : List Loc} {ls : Array Slot} (h : Hx YR S k s g H locs) (hl : lv_has ls 2 [(0, .ref (k.1 + adR 0 0 0)), (1, .int x1)]) {r : (Mm × Int32) ⊕ (Mm)} (hf : fX11_ticks_b263 g x1 = some r) (J1 : ∀ (g : Mm) (x1 : Int32), r = .inl (g, x1) → ∀ (H : Heap) (locs : List Loc) (ls : Array Slot), Hx YR S k s g H locs → lv_has ls 2 [(0, .ref (k.1 + adR 0 0 0)), (1, .int x1)] → W p l e (RmN 8 188) s m args below meth c H locs 0 0 (Fin YR S k args s below none res) (F0 m 205 ls [])) (JR : ∀ t1, r = .inr t1 → t1 = res) :
    W p l e (RmN 8 188) s m args below meth c H locs 0 0 (Fin YR S k args s below none res) (F0 m 263 ls []) := by
  unfold fX11_ticks_b263 at hf
  obtain ⟨y46, e47, hf⟩ := wLe_s hf
  refine lv_iinc (v := y46) (lv' := [(1, .int y46), (0, .ref (k.1 + adR 0 0 0))]) X.x X.b dX11_ticks_263 hl (k := 1) rfl (by rw [e47]; rfl) (by decide) rfl (fun ls hl => ?_)
  refine lv_goto (tgt := 205) X.x X.b dX11_ticks_266 (by decide) ?_
  exact J1 _ _ (Option.some.inj hf).symm _ _ _ h (lv_sub hl [1, 0] rfl)
set_option maxHeartbeats 4000000 in
set_option maxRecDepth 20000 in
theorem wX11_ticks_L205 {k : En} {S : Nat → Prop} (hS : ∀ t, S t) {res : Mm} (X : Cx YR S k p s m args meth c cX11_ticks 2 none RX11) {r : Mm} (JR : r = res) :
    ∀ (fu : Nat) (g : Mm) (x1 : Int32) (H : Heap) (locs : List Loc) (ls : Array Slot), Hx YR S k s g H locs → lv_has ls 2 [(0, .ref (k.1 + adR 0 0 0)), (1, .int x1)] → wLp (fun q => fX11_ticks_B205 q.1 q.2) fu (g, x1) = some r → W p l e (RmN 8 188) s m args below meth c H locs 0 0 (Fin YR S k args s below none res) (F0 m 205 ls []) := by
  intro fu
  induction fu with
  | zero => intro g x1 H locs ls h hl hf; exact (wLp_0 hf).elim
  | succ fu ih1 =>
    intro g x1 H locs ls h hl hf
    obtain ⟨r1, hf, hr⟩ := wLp_s hf
    have J1n : ∀ (g : Mm) (x1 : Int32), r1 = .inl (g, x1) → ∀ (H : Heap) (locs : List Loc) (ls : Array Slot), Hx YR S k s g H locs → lv_has ls 2 [(0, .ref (k.1 + adR 0 0 0)), (1, .int x1)] → W p l e (RmN 8 188) s m args below meth c H locs 0 0 (Fin YR S k args s below none res) (F0 m 205 ls []) := fun g x1 q H locs ls h hl => by subst q; exact ih1 _ _ _ _ _ h hl hr
    have JRn : ∀ t1, r1 = .inr t1 → t1 = res := fun t1 q => by subst q; obtain rfl := Option.some.inj hr; exact JR
    have J1 := J1n
    have JR := JRn
    clear J1n JRn
    have hf : fX11_ticks_B205 g x1 = some r1 := hf
    unfold fX11_ticks_B205 at hf
    refine lv_iload_n X.x X.b dX11_ticks_205 rfl (lv_at hl 1 rfl) ?_
    refine lv_aload_n X.x X.b dX11_ticks_206 rfl (lv_at hl 0 rfl) ?_
    refine gR_0_1 X h (hS 0) Nat.one_pos Nat.one_pos lk_X11_96 dX11_ticks_207 ?_
    refine lv_icmp_ge (tgt := 269) X.x X.b dX11_ticks_210 (by decide) (fun c36 => ?_) (fun c36 => ?_)
    · have hf := wT c36 hf
      obtain ⟨t37, hf, e38⟩ := wEx_s hf
      have JR := JR t37 e38
      refine lv_aload_n X.x X.b dX11_ticks_269 rfl (lv_at hl 0 rfl) ?_
      refine gR_0_0 X h (hS 0) Nat.one_pos Nat.one_pos lk_X11_7 dX11_ticks_270 ?_
      refine lv_sipush (v := 480) X.x X.b dX11_ticks_273 (by decide) ?_
      refine lv_dup2_11 X.x X.b dX11_ticks_276 rfl rfl ?_
      obtain ⟨b39, hf⟩ := wGi_s hf
      refine aR_1 X h (hS 1) Nat.one_pos Nat.one_pos b39 dX11_ticks_277 ?_
      refine lv_iconst (v := 1) X.x X.b dX11_ticks_278 (by decide) ?_
      refine lv_iadd X.x X.b dX11_ticks_279 ?_
      obtain ⟨b40, hf⟩ := wGi_s hf
      obtain ⟨g41, e42, hf⟩ := wLe_s hf
      refine bR_1 X h (hS 1) Nat.one_pos Nat.one_pos e42 b40 dX11_ticks_280 (fun H locs h => ?_)
      cases (Option.some.inj hf).trans JR
      exact ro_vret X h dX11_ticks_281
    · have hf := wF c36 hf
      refine lv_aload_n X.x X.b dX11_ticks_213 rfl (lv_at hl 0 rfl) ?_
      refine lv_iload_n X.x X.b dX11_ticks_214 rfl (lv_at hl 1 rfl) ?_
      refine lv_bipush (v := 6) X.x X.b dX11_ticks_215 (by decide) ?_
      obtain ⟨y44, e43, hf⟩ := wBd_s hf
      refine ro_callvI (As := [.int x1, .int (6 : Int32)]) (g1 := g) (x := y44) X h (kX11_of l hS e43) mv_X11_of lk_X11_106 ⟨rfl, rfl⟩ ⟨(Nat.le_of_ble_eq_true rfl), (Nat.le_of_ble_eq_true rfl)⟩ (rR_0 X h (hS 0) Nat.one_pos Nat.one_pos) rfl hl rfl (Nat.le_of_ble_eq_true rfl) ⟨Nat.zero_le _, Nat.zero_le _⟩ dX11_ticks_217 (fun H locs h => ?_)
      refine lv_iconst (v := 5) X.x X.b dX11_ticks_220 (by decide) ?_
      refine lv_icmp_gt (tgt := 263) X.x X.b dX11_ticks_221 (by decide) (fun c45 => ?_) (fun c45 => ?_)
      · have hf := wT c45 hf
        exact wX11_ticks_b263 hS X h (lv_sub hl [0, 1] rfl) hf J1 JR
      · have hf := wF c45 hf
        refine lv_aload_n X.x X.b dX11_ticks_224 rfl (lv_at hl 0 rfl) ?_
        refine gR_0_0 X h (hS 0) Nat.one_pos Nat.one_pos lk_X11_7 dX11_ticks_225 ?_
        refine lv_sipush (v := 480) X.x X.b dX11_ticks_228 (by decide) ?_
        obtain ⟨b48, hf⟩ := wGi_s hf
        refine aR_1 X h (hS 1) Nat.one_pos Nat.one_pos b48 dX11_ticks_231 ?_
        refine lv_aload_n X.x X.b dX11_ticks_232 rfl (lv_at hl 0 rfl) ?_
        refine lv_iload_n X.x X.b dX11_ticks_233 rfl (lv_at hl 1 rfl) ?_
        refine lv_iconst (v := 2) X.x X.b dX11_ticks_234 (by decide) ?_
        obtain ⟨y50, e49, hf⟩ := wBd_s hf
        refine ro_callvI (As := [.int x1, .int (2 : Int32)]) (g1 := g) (x := y50) X h (kX11_of l hS e49) mv_X11_of lk_X11_106 ⟨rfl, rfl⟩ ⟨(Nat.le_of_ble_eq_true rfl), (Nat.le_of_ble_eq_true rfl)⟩ (rR_0 X h (hS 0) Nat.one_pos Nat.one_pos) rfl hl rfl (Nat.le_of_ble_eq_true rfl) ⟨Nat.zero_le _, Nat.zero_le _⟩ dX11_ticks_235 (fun H locs h => ?_)
        refine lv_icmp_lt (tgt := 263) X.x X.b dX11_ticks_238 (by decide) (fun c51 => ?_) (fun c51 => ?_)
        · have hf := wT c51 hf
          exact wX11_ticks_b263 hS X h (lv_sub hl [0, 1] rfl) hf J1 JR
        · have hf := wF c51 hf
          refine lv_aload_n X.x X.b dX11_ticks_241 rfl (lv_at hl 0 rfl) ?_
          refine gR_0_0 X h (hS 0) Nat.one_pos Nat.one_pos lk_X11_7 dX11_ticks_242 ?_
          refine lv_bipush (v := 30) X.x X.b dX11_ticks_245 (by decide) ?_
          refine lv_iload_n X.x X.b dX11_ticks_247 rfl (lv_at hl 1 rfl) ?_
          refine lv_imul X.x X.b dX11_ticks_248 ?_
          refine lv_bipush (v := 19) X.x X.b dX11_ticks_249 (by decide) ?_
          refine lv_iadd X.x X.b dX11_ticks_251 ?_
          refine lv_aload_n X.x X.b dX11_ticks_252 rfl (lv_at hl 0 rfl) ?_
          refine lv_iload_n X.x X.b dX11_ticks_253 rfl (lv_at hl 1 rfl) ?_
          obtain ⟨y53, e52, hf⟩ := wBd_s hf
          refine ro_callvI (As := [.int x1]) (g1 := g) (x := y53) X h (kX11_causeOf l hS e52) mv_X11_causeOf lk_X11_257 ⟨rfl, rfl⟩ ⟨(Nat.le_of_ble_eq_true rfl), (Nat.le_of_ble_eq_true rfl)⟩ (rR_0 X h (hS 0) Nat.one_pos Nat.one_pos) rfl hl rfl (Nat.le_of_ble_eq_true rfl) ⟨Nat.zero_le _, Nat.zero_le _⟩ dX11_ticks_254 (fun H locs h => ?_)
          refine lv_iadd X.x X.b dX11_ticks_257 ?_
          refine lv_dup2_11 X.x X.b dX11_ticks_258 rfl rfl ?_
          obtain ⟨b54, hf⟩ := wGi_s hf
          refine aR_1 X h (hS 1) Nat.one_pos Nat.one_pos b54 dX11_ticks_259 ?_
          refine lv_iconst (v := 1) X.x X.b dX11_ticks_260 (by decide) ?_
          refine lv_iadd X.x X.b dX11_ticks_261 ?_
          obtain ⟨b55, hf⟩ := wGi_s hf
          obtain ⟨g56, e57, hf⟩ := wLe_s hf
          refine bR_1 X h (hS 1) Nat.one_pos Nat.one_pos e57 b55 dX11_ticks_262 (fun H locs h => ?_)
          exact wX11_ticks_b263 hS X h (lv_sub hl [0, 1] rfl) hf J1 JR
set_option maxHeartbeats 4000000 in
set_option maxRecDepth 20000 in
theorem wX11_ticks_b189 {k : En} {S : Nat → Prop} (hS : ∀ t, S t) {res : Mm} (X : Cx YR S k p s m args meth c cX11_ticks 2 none RX11) {g : Mm} {x1 : Int32} {z0 : Int32} {z1 : Int32} {H : Heap} {locs : List Loc} {ls : Array Slot} (h : Hx YR S k s g H locs) (hl : lv_has ls 2 [(0, .ref (k.1 + adR 0 0 0)), (1, .int x1)]) {r : (Mm × Int32) ⊕ (Mm)} (hf : fX11_ticks_b189 g x1 z0 z1 = some r) (J1 : ∀ (g : Mm) (x1 : Int32), r = .inl (g, x1) → ∀ (H : Heap) (locs : List Loc) (ls : Array Slot), Hx YR S k s g H locs → lv_has ls 2 [(0, .ref (k.1 + adR 0 0 0)), (1, .int x1)] → W p l e (RmN 8 188) s m args below meth c H locs 0 0 (Fin YR S k args s below none res) (F0 m 164 ls [])) (JR : ∀ t1, r = .inr t1 → t1 = res) :
    W p l e (RmN 8 188) s m args below meth c H locs 0 0 (Fin YR S k args s below none res) (F0 m 189 ls [.int z1, .int z0]) := by
  unfold fX11_ticks_b189 at hf
  refine lv_icmp_ge (tgt := 203) X.x X.b dX11_ticks_189 (by decide) (fun c31 => ?_) (fun c31 => ?_)
  · have hf := wT c31 hf
    obtain ⟨t32, hf, e33⟩ := wEx_s hf
    have JR := JR t32 e33
    refine lv_iconst (v := 0) X.x X.b dX11_ticks_203 (by decide) ?_
    obtain ⟨y34, e35, hf⟩ := wLe_s hf
    refine lv_nmi e35 ?_
    refine lv_istore_n (lv' := [(1, .int y34), (0, .ref (k.1 + adR 0 0 0))]) X.x X.b dX11_ticks_204 rfl hl (by decide) rfl (fun ls hl => ?_)
    exact wX11_ticks_L205 hS X JR _ _ _ _ _ _ h (lv_sub hl [1, 0] rfl) hf
  · have hf := wF c31 hf
    refine lv_aload_n X.x X.b dX11_ticks_192 rfl (lv_at hl 0 rfl) ?_
    refine lv_iload_n X.x X.b dX11_ticks_193 rfl (lv_at hl 1 rfl) ?_
    obtain ⟨g60, e58, hf⟩ := wBd_s hf
    refine ro_callvV (As := [.int x1]) (g1 := g60) X h (kX11_uses l hS e58) mv_X11_uses lk_X11_254 ⟨rfl, rfl⟩ ⟨(Nat.le_of_ble_eq_true rfl), (Nat.le_of_ble_eq_true rfl)⟩ (rR_0 X h (hS 0) Nat.one_pos Nat.one_pos) rfl hl rfl (Nat.le_of_ble_eq_true rfl) ⟨Nat.zero_le _, Nat.zero_le _⟩ dX11_ticks_194 (fun H locs h => ?_)
    obtain ⟨y61, e62, hf⟩ := wLe_s hf
    refine lv_iinc (v := y61) (lv' := [(1, .int y61), (0, .ref (k.1 + adR 0 0 0))]) X.x X.b dX11_ticks_197 hl (k := 1) rfl (by rw [e62]; rfl) (by decide) rfl (fun ls hl => ?_)
    refine lv_goto (tgt := 164) X.x X.b dX11_ticks_200 (by decide) ?_
    exact J1 _ _ (Option.some.inj hf).symm _ _ _ h (lv_sub hl [1, 0] rfl)
set_option maxHeartbeats 4000000 in
set_option maxRecDepth 20000 in
theorem wX11_ticks_L164 {k : En} {S : Nat → Prop} (hS : ∀ t, S t) {res : Mm} (X : Cx YR S k p s m args meth c cX11_ticks 2 none RX11) {r : Mm} (JR : r = res) :
    ∀ (fu : Nat) (g : Mm) (x1 : Int32) (H : Heap) (locs : List Loc) (ls : Array Slot), Hx YR S k s g H locs → lv_has ls 2 [(0, .ref (k.1 + adR 0 0 0)), (1, .int x1)] → wLp (fun q => fX11_ticks_B164 q.1 q.2) fu (g, x1) = some r → W p l e (RmN 8 188) s m args below meth c H locs 0 0 (Fin YR S k args s below none res) (F0 m 164 ls []) := by
  intro fu
  induction fu with
  | zero => intro g x1 H locs ls h hl hf; exact (wLp_0 hf).elim
  | succ fu ih1 =>
    intro g x1 H locs ls h hl hf
    obtain ⟨r1, hf, hr⟩ := wLp_s hf
    have J1n : ∀ (g : Mm) (x1 : Int32), r1 = .inl (g, x1) → ∀ (H : Heap) (locs : List Loc) (ls : Array Slot), Hx YR S k s g H locs → lv_has ls 2 [(0, .ref (k.1 + adR 0 0 0)), (1, .int x1)] → W p l e (RmN 8 188) s m args below meth c H locs 0 0 (Fin YR S k args s below none res) (F0 m 164 ls []) := fun g x1 q H locs ls h hl => by subst q; exact ih1 _ _ _ _ _ h hl hr
    have JRn : ∀ t1, r1 = .inr t1 → t1 = res := fun t1 q => by subst q; obtain rfl := Option.some.inj hr; exact JR
    have J1 := J1n
    have JR := JRn
    clear J1n JRn
    have hf : fX11_ticks_B164 g x1 = some r1 := hf
    unfold fX11_ticks_B164 at hf
    refine lv_iload_n X.x X.b dX11_ticks_164 rfl (lv_at hl 1 rfl) ?_
    refine lv_aload_n X.x X.b dX11_ticks_165 rfl (lv_at hl 0 rfl) ?_
    refine gR_0_0 X h (hS 0) Nat.one_pos Nat.one_pos lk_X11_7 dX11_ticks_166 ?_
    refine lv_sipush (v := 481) X.x X.b dX11_ticks_169 (by decide) ?_
    obtain ⟨b28, hf⟩ := wGi_s hf
    refine aR_1 X h (hS 1) Nat.one_pos Nat.one_pos b28 dX11_ticks_172 ?_
    refine lv_iconst (v := 1) X.x X.b dX11_ticks_173 (by decide) ?_
    refine lv_icmp_ne (tgt := 181) X.x X.b dX11_ticks_174 (by decide) (fun c29 => ?_) (fun c29 => ?_)
    · have hf := wF c29 hf
      refine lv_aload_n X.x X.b dX11_ticks_181 rfl (lv_at hl 0 rfl) ?_
      refine gR_0_0 X h (hS 0) Nat.one_pos Nat.one_pos lk_X11_7 dX11_ticks_182 ?_
      refine lv_sipush (v := 484) X.x X.b dX11_ticks_185 (by decide) ?_
      obtain ⟨b30, hf⟩ := wGi_s hf
      refine aR_1 X h (hS 1) Nat.one_pos Nat.one_pos b30 dX11_ticks_188 ?_
      exact wX11_ticks_b189 hS X h (lv_sub hl [0, 1] rfl) hf J1 JR
    · have hf := wT c29 hf
      refine lv_iconst (v := 1) X.x X.b dX11_ticks_177 (by decide) ?_
      refine lv_goto (tgt := 189) X.x X.b dX11_ticks_178 (by decide) ?_
      exact wX11_ticks_b189 hS X h (lv_sub hl [0, 1] rfl) hf J1 JR
set_option maxHeartbeats 4000000 in
set_option maxRecDepth 20000 in
theorem wX11_ticks_b156 {k : En} {S : Nat → Prop} (hS : ∀ t, S t) {res : Mm} (X : Cx YR S k p s m args meth c cX11_ticks 2 none RX11) {g : Mm} {x1 : Int32} {H : Heap} {locs : List Loc} {ls : Array Slot} (h : Hx YR S k s g H locs) (hl : lv_has ls 2 [(0, .ref (k.1 + adR 0 0 0)), (1, .int x1)]) {r : (Mm × Int32) ⊕ (Mm)} (hf : fX11_ticks_b156 g x1 = some r) (J1 : ∀ (g : Mm) (x1 : Int32), r = .inl (g, x1) → ∀ (H : Heap) (locs : List Loc) (ls : Array Slot), Hx YR S k s g H locs → lv_has ls 2 [(0, .ref (k.1 + adR 0 0 0)), (1, .int x1)] → W p l e (RmN 8 188) s m args below meth c H locs 0 0 (Fin YR S k args s below none res) (F0 m 104 ls [])) (JR : ∀ t1, r = .inr t1 → t1 = res) :
    W p l e (RmN 8 188) s m args below meth c H locs 0 0 (Fin YR S k args s below none res) (F0 m 156 ls []) := by
  unfold fX11_ticks_b156 at hf
  obtain ⟨y66, e67, hf⟩ := wLe_s hf
  refine lv_iinc (v := y66) (lv' := [(1, .int y66), (0, .ref (k.1 + adR 0 0 0))]) X.x X.b dX11_ticks_156 hl (k := 1) rfl (by rw [e67]; rfl) (by decide) rfl (fun ls hl => ?_)
  refine lv_goto (tgt := 104) X.x X.b dX11_ticks_159 (by decide) ?_
  exact J1 _ _ (Option.some.inj hf).symm _ _ _ h (lv_sub hl [1, 0] rfl)
set_option maxHeartbeats 4000000 in
set_option maxRecDepth 20000 in
theorem wX11_ticks_L104 {k : En} {S : Nat → Prop} (hS : ∀ t, S t) {res : Mm} (X : Cx YR S k p s m args meth c cX11_ticks 2 none RX11) {r : Mm} (JR : r = res) :
    ∀ (fu : Nat) (g : Mm) (x1 : Int32) (H : Heap) (locs : List Loc) (ls : Array Slot), Hx YR S k s g H locs → lv_has ls 2 [(0, .ref (k.1 + adR 0 0 0)), (1, .int x1)] → wLp (fun q => fX11_ticks_B104 q.1 q.2) fu (g, x1) = some r → W p l e (RmN 8 188) s m args below meth c H locs 0 0 (Fin YR S k args s below none res) (F0 m 104 ls []) := by
  intro fu
  induction fu with
  | zero => intro g x1 H locs ls h hl hf; exact (wLp_0 hf).elim
  | succ fu ih1 =>
    intro g x1 H locs ls h hl hf
    obtain ⟨r1, hf, hr⟩ := wLp_s hf
    have J1n : ∀ (g : Mm) (x1 : Int32), r1 = .inl (g, x1) → ∀ (H : Heap) (locs : List Loc) (ls : Array Slot), Hx YR S k s g H locs → lv_has ls 2 [(0, .ref (k.1 + adR 0 0 0)), (1, .int x1)] → W p l e (RmN 8 188) s m args below meth c H locs 0 0 (Fin YR S k args s below none res) (F0 m 104 ls []) := fun g x1 q H locs ls h hl => by subst q; exact ih1 _ _ _ _ _ h hl hr
    have JRn : ∀ t1, r1 = .inr t1 → t1 = res := fun t1 q => by subst q; obtain rfl := Option.some.inj hr; exact JR
    have J1 := J1n
    have JR := JRn
    clear J1n JRn
    have hf : fX11_ticks_B104 g x1 = some r1 := hf
    unfold fX11_ticks_B104 at hf
    refine lv_iload_n X.x X.b dX11_ticks_104 rfl (lv_at hl 1 rfl) ?_
    refine lv_aload_n X.x X.b dX11_ticks_105 rfl (lv_at hl 0 rfl) ?_
    refine gR_0_1 X h (hS 0) Nat.one_pos Nat.one_pos lk_X11_96 dX11_ticks_106 ?_
    refine lv_icmp_ge (tgt := 162) X.x X.b dX11_ticks_109 (by decide) (fun c23 => ?_) (fun c23 => ?_)
    · have hf := wT c23 hf
      obtain ⟨t24, hf, e25⟩ := wEx_s hf
      have JR := JR t24 e25
      refine lv_iconst (v := 0) X.x X.b dX11_ticks_162 (by decide) ?_
      obtain ⟨y26, e27, hf⟩ := wLe_s hf
      refine lv_nmi e27 ?_
      refine lv_istore_n (lv' := [(1, .int y26), (0, .ref (k.1 + adR 0 0 0))]) X.x X.b dX11_ticks_163 rfl hl (by decide) rfl (fun ls hl => ?_)
      exact wX11_ticks_L164 hS X JR _ _ _ _ _ _ h (lv_sub hl [1, 0] rfl) hf
    · have hf := wF c23 hf
      refine lv_aload_n X.x X.b dX11_ticks_112 rfl (lv_at hl 0 rfl) ?_
      refine lv_iload_n X.x X.b dX11_ticks_113 rfl (lv_at hl 1 rfl) ?_
      refine lv_bipush (v := 6) X.x X.b dX11_ticks_114 (by decide) ?_
      obtain ⟨y64, e63, hf⟩ := wBd_s hf
      refine ro_callvI (As := [.int x1, .int (6 : Int32)]) (g1 := g) (x := y64) X h (kX11_of l hS e63) mv_X11_of lk_X11_106 ⟨rfl, rfl⟩ ⟨(Nat.le_of_ble_eq_true rfl), (Nat.le_of_ble_eq_true rfl)⟩ (rR_0 X h (hS 0) Nat.one_pos Nat.one_pos) rfl hl rfl (Nat.le_of_ble_eq_true rfl) ⟨Nat.zero_le _, Nat.zero_le _⟩ dX11_ticks_116 (fun H locs h => ?_)
      refine lv_iconst (v := 5) X.x X.b dX11_ticks_119 (by decide) ?_
      refine lv_icmp_ne (tgt := 156) X.x X.b dX11_ticks_120 (by decide) (fun c65 => ?_) (fun c65 => ?_)
      · have hf := wF c65 hf
        exact wX11_ticks_b156 hS X h (lv_sub hl [0, 1] rfl) hf J1 JR
      · have hf := wT c65 hf
        refine lv_aload_n X.x X.b dX11_ticks_123 rfl (lv_at hl 0 rfl) ?_
        refine lv_iload_n X.x X.b dX11_ticks_124 rfl (lv_at hl 1 rfl) ?_
        obtain ⟨y69, e68, hf⟩ := wBd_s hf
        refine ro_callvI (As := [.int x1]) (g1 := g) (x := y69) X h (kX11_needsIce l hS e68) mv_X11_needsIce lk_X11_236 ⟨rfl, rfl⟩ ⟨(Nat.le_of_ble_eq_true rfl), (Nat.le_of_ble_eq_true rfl)⟩ (rR_0 X h (hS 0) Nat.one_pos Nat.one_pos) rfl hl rfl (Nat.le_of_ble_eq_true rfl) ⟨Nat.zero_le _, Nat.zero_le _⟩ dX11_ticks_125 (fun H locs h => ?_)
        refine lv_if_eq (tgt := 156) X.x X.b dX11_ticks_128 (by decide) (fun c70 => ?_) (fun c70 => ?_)
        · have hf := wT c70 hf
          exact wX11_ticks_b156 hS X h (lv_sub hl [0, 1] rfl) hf J1 JR
        · have hf := wF c70 hf
          refine lv_aload_n X.x X.b dX11_ticks_131 rfl (lv_at hl 0 rfl) ?_
          refine lv_iload_n X.x X.b dX11_ticks_132 rfl (lv_at hl 1 rfl) ?_
          refine lv_bipush (v := 17) X.x X.b dX11_ticks_133 (by decide) ?_
          obtain ⟨y72, e71, hf⟩ := wBd_s hf
          refine ro_callvI (As := [.int x1, .int (17 : Int32)]) (g1 := g) (x := y72) X h (kX11_of l hS e71) mv_X11_of lk_X11_106 ⟨rfl, rfl⟩ ⟨(Nat.le_of_ble_eq_true rfl), (Nat.le_of_ble_eq_true rfl)⟩ (rR_0 X h (hS 0) Nat.one_pos Nat.one_pos) rfl hl rfl (Nat.le_of_ble_eq_true rfl) ⟨Nat.zero_le _, Nat.zero_le _⟩ dX11_ticks_135 (fun H locs h => ?_)
          refine lv_if_ne (tgt := 156) X.x X.b dX11_ticks_138 (by decide) (fun c73 => ?_) (fun c73 => ?_)
          · have hf := wF c73 hf
            exact wX11_ticks_b156 hS X h (lv_sub hl [0, 1] rfl) hf J1 JR
          · have hf := wT c73 hf
            refine lv_aload_n X.x X.b dX11_ticks_141 rfl (lv_at hl 0 rfl) ?_
            refine lv_iconst (v := 4) X.x X.b dX11_ticks_142 (by decide) ?_
            obtain ⟨y75, e74, hf⟩ := wBd_s hf
            refine ro_callvI (As := [.int (4 : Int32)]) (g1 := g) (x := y75) X h (kX11_isFree l hS e74) mv_X11_isFree lk_X11_224 ⟨rfl, rfl⟩ ⟨(Nat.le_of_ble_eq_true rfl), (Nat.le_of_ble_eq_true rfl)⟩ (rR_0 X h (hS 0) Nat.one_pos Nat.one_pos) rfl hl rfl (Nat.le_of_ble_eq_true rfl) ⟨Nat.zero_le _, Nat.zero_le _⟩ dX11_ticks_143 (fun H locs h => ?_)
            refine lv_if_eq (tgt := 156) X.x X.b dX11_ticks_146 (by decide) (fun c76 => ?_) (fun c76 => ?_)
            · have hf := wT c76 hf
              exact wX11_ticks_b156 hS X h (lv_sub hl [0, 1] rfl) hf J1 JR
            · have hf := wF c76 hf
              refine lv_aload_n X.x X.b dX11_ticks_149 rfl (lv_at hl 0 rfl) ?_
              refine lv_iload_n X.x X.b dX11_ticks_150 rfl (lv_at hl 1 rfl) ?_
              refine lv_bipush (v := 6) X.x X.b dX11_ticks_151 (by decide) ?_
              obtain ⟨g79, e77, hf⟩ := wBd_s hf
              refine ro_callvV (As := [.int x1, .int (6 : Int32)]) (g1 := g79) X h (kX11_begins l hS e77) mv_X11_begins lk_X11_230 ⟨rfl, rfl⟩ ⟨(Nat.le_of_ble_eq_true rfl), (Nat.le_of_ble_eq_true rfl)⟩ (rR_0 X h (hS 0) Nat.one_pos Nat.one_pos) rfl hl rfl (Nat.le_of_ble_eq_true rfl) ⟨Nat.zero_le _, Nat.zero_le _⟩ dX11_ticks_153 (fun H locs h => ?_)
              exact wX11_ticks_b156 hS X h (lv_sub hl [0, 1] rfl) hf J1 JR
set_option maxHeartbeats 4000000 in
set_option maxRecDepth 20000 in
theorem wX11_ticks_b96 {k : En} {S : Nat → Prop} (hS : ∀ t, S t) {res : Mm} (X : Cx YR S k p s m args meth c cX11_ticks 2 none RX11) {g : Mm} {x1 : Int32} {H : Heap} {locs : List Loc} {ls : Array Slot} (h : Hx YR S k s g H locs) (hl : lv_has ls 2 [(0, .ref (k.1 + adR 0 0 0)), (1, .int x1)]) {r : (Mm × Int32) ⊕ (Mm)} (hf : fX11_ticks_b96 g x1 = some r) (J1 : ∀ (g : Mm) (x1 : Int32), r = .inl (g, x1) → ∀ (H : Heap) (locs : List Loc) (ls : Array Slot), Hx YR S k s g H locs → lv_has ls 2 [(0, .ref (k.1 + adR 0 0 0)), (1, .int x1)] → W p l e (RmN 8 188) s m args below meth c H locs 0 0 (Fin YR S k args s below none res) (F0 m 72 ls [])) (JR : ∀ t1, r = .inr t1 → t1 = res) :
    W p l e (RmN 8 188) s m args below meth c H locs 0 0 (Fin YR S k args s below none res) (F0 m 96 ls []) := by
  unfold fX11_ticks_b96 at hf
  obtain ⟨y83, e84, hf⟩ := wLe_s hf
  refine lv_iinc (v := y83) (lv' := [(1, .int y83), (0, .ref (k.1 + adR 0 0 0))]) X.x X.b dX11_ticks_96 hl (k := 1) rfl (by rw [e84]; rfl) (by decide) rfl (fun ls hl => ?_)
  refine lv_goto (tgt := 72) X.x X.b dX11_ticks_99 (by decide) ?_
  exact J1 _ _ (Option.some.inj hf).symm _ _ _ h (lv_sub hl [1, 0] rfl)
set_option maxHeartbeats 4000000 in
set_option maxRecDepth 20000 in
theorem wX11_ticks_L72 {k : En} {S : Nat → Prop} (hS : ∀ t, S t) {res : Mm} (X : Cx YR S k p s m args meth c cX11_ticks 2 none RX11) {r : Mm} (JR : r = res) :
    ∀ (fu : Nat) (g : Mm) (x1 : Int32) (H : Heap) (locs : List Loc) (ls : Array Slot), Hx YR S k s g H locs → lv_has ls 2 [(0, .ref (k.1 + adR 0 0 0)), (1, .int x1)] → wLp (fun q => fX11_ticks_B72 q.1 q.2) fu (g, x1) = some r → W p l e (RmN 8 188) s m args below meth c H locs 0 0 (Fin YR S k args s below none res) (F0 m 72 ls []) := by
  intro fu
  induction fu with
  | zero => intro g x1 H locs ls h hl hf; exact (wLp_0 hf).elim
  | succ fu ih1 =>
    intro g x1 H locs ls h hl hf
    obtain ⟨r1, hf, hr⟩ := wLp_s hf
    have J1n : ∀ (g : Mm) (x1 : Int32), r1 = .inl (g, x1) → ∀ (H : Heap) (locs : List Loc) (ls : Array Slot), Hx YR S k s g H locs → lv_has ls 2 [(0, .ref (k.1 + adR 0 0 0)), (1, .int x1)] → W p l e (RmN 8 188) s m args below meth c H locs 0 0 (Fin YR S k args s below none res) (F0 m 72 ls []) := fun g x1 q H locs ls h hl => by subst q; exact ih1 _ _ _ _ _ h hl hr
    have JRn : ∀ t1, r1 = .inr t1 → t1 = res := fun t1 q => by subst q; obtain rfl := Option.some.inj hr; exact JR
    have J1 := J1n
    have JR := JRn
    clear J1n JRn
    have hf : fX11_ticks_B72 g x1 = some r1 := hf
    unfold fX11_ticks_B72 at hf
    refine lv_iload_n X.x X.b dX11_ticks_72 rfl (lv_at hl 1 rfl) ?_
    refine lv_aload_n X.x X.b dX11_ticks_73 rfl (lv_at hl 0 rfl) ?_
    refine gR_0_1 X h (hS 0) Nat.one_pos Nat.one_pos lk_X11_96 dX11_ticks_74 ?_
    refine lv_icmp_ge (tgt := 102) X.x X.b dX11_ticks_77 (by decide) (fun c18 => ?_) (fun c18 => ?_)
    · have hf := wT c18 hf
      obtain ⟨t19, hf, e20⟩ := wEx_s hf
      have JR := JR t19 e20
      refine lv_iconst (v := 0) X.x X.b dX11_ticks_102 (by decide) ?_
      obtain ⟨y21, e22, hf⟩ := wLe_s hf
      refine lv_nmi e22 ?_
      refine lv_istore_n (lv' := [(1, .int y21), (0, .ref (k.1 + adR 0 0 0))]) X.x X.b dX11_ticks_103 rfl hl (by decide) rfl (fun ls hl => ?_)
      exact wX11_ticks_L104 hS X JR _ _ _ _ _ _ h (lv_sub hl [1, 0] rfl) hf
    · have hf := wF c18 hf
      refine lv_aload_n X.x X.b dX11_ticks_80 rfl (lv_at hl 0 rfl) ?_
      refine lv_iload_n X.x X.b dX11_ticks_81 rfl (lv_at hl 1 rfl) ?_
      refine lv_bipush (v := 6) X.x X.b dX11_ticks_82 (by decide) ?_
      obtain ⟨y81, e80, hf⟩ := wBd_s hf
      refine ro_callvI (As := [.int x1, .int (6 : Int32)]) (g1 := g) (x := y81) X h (kX11_of l hS e80) mv_X11_of lk_X11_106 ⟨rfl, rfl⟩ ⟨(Nat.le_of_ble_eq_true rfl), (Nat.le_of_ble_eq_true rfl)⟩ (rR_0 X h (hS 0) Nat.one_pos Nat.one_pos) rfl hl rfl (Nat.le_of_ble_eq_true rfl) ⟨Nat.zero_le _, Nat.zero_le _⟩ dX11_ticks_84 (fun H locs h => ?_)
      refine lv_iconst (v := 4) X.x X.b dX11_ticks_87 (by decide) ?_
      refine lv_icmp_ne (tgt := 96) X.x X.b dX11_ticks_88 (by decide) (fun c82 => ?_) (fun c82 => ?_)
      · have hf := wF c82 hf
        exact wX11_ticks_b96 hS X h (lv_sub hl [0, 1] rfl) hf J1 JR
      · have hf := wT c82 hf
        refine lv_aload_n X.x X.b dX11_ticks_91 rfl (lv_at hl 0 rfl) ?_
        refine lv_iload_n X.x X.b dX11_ticks_92 rfl (lv_at hl 1 rfl) ?_
        obtain ⟨g87, e85, hf⟩ := wBd_s hf
        refine ro_callvV (As := [.int x1]) (g1 := g87) X h (kX11_serves l hS e85) mv_X11_serves lk_X11_251 ⟨rfl, rfl⟩ ⟨(Nat.le_of_ble_eq_true rfl), (Nat.le_of_ble_eq_true rfl)⟩ (rR_0 X h (hS 0) Nat.one_pos Nat.one_pos) rfl hl rfl (Nat.le_of_ble_eq_true rfl) ⟨Nat.zero_le _, Nat.zero_le _⟩ dX11_ticks_93 (fun H locs h => ?_)
        exact wX11_ticks_b96 hS X h (lv_sub hl [0, 1] rfl) hf J1 JR
set_option maxHeartbeats 4000000 in
set_option maxRecDepth 20000 in
theorem wX11_ticks_L44 {k : En} {S : Nat → Prop} (hS : ∀ t, S t) {res : Mm} (X : Cx YR S k p s m args meth c cX11_ticks 2 none RX11) {r : Mm} (JR : r = res) :
    ∀ (fu : Nat) (g : Mm) (x1 : Int32) (H : Heap) (locs : List Loc) (ls : Array Slot), Hx YR S k s g H locs → lv_has ls 2 [(0, .ref (k.1 + adR 0 0 0)), (1, .int x1)] → wLp (fun q => fX11_ticks_B44 q.1 q.2) fu (g, x1) = some r → W p l e (RmN 8 188) s m args below meth c H locs 0 0 (Fin YR S k args s below none res) (F0 m 44 ls []) := by
  intro fu
  induction fu with
  | zero => intro g x1 H locs ls h hl hf; exact (wLp_0 hf).elim
  | succ fu ih1 =>
    intro g x1 H locs ls h hl hf
    obtain ⟨r1, hf, hr⟩ := wLp_s hf
    have J1n : ∀ (g : Mm) (x1 : Int32), r1 = .inl (g, x1) → ∀ (H : Heap) (locs : List Loc) (ls : Array Slot), Hx YR S k s g H locs → lv_has ls 2 [(0, .ref (k.1 + adR 0 0 0)), (1, .int x1)] → W p l e (RmN 8 188) s m args below meth c H locs 0 0 (Fin YR S k args s below none res) (F0 m 44 ls []) := fun g x1 q H locs ls h hl => by subst q; exact ih1 _ _ _ _ _ h hl hr
    have JRn : ∀ t1, r1 = .inr t1 → t1 = res := fun t1 q => by subst q; obtain rfl := Option.some.inj hr; exact JR
    have J1 := J1n
    have JR := JRn
    clear J1n JRn
    have hf : fX11_ticks_B44 g x1 = some r1 := hf
    unfold fX11_ticks_B44 at hf
    refine lv_iload_n X.x X.b dX11_ticks_44 rfl (lv_at hl 1 rfl) ?_
    refine lv_aload_n X.x X.b dX11_ticks_45 rfl (lv_at hl 0 rfl) ?_
    refine gR_0_2 X h (hS 0) Nat.one_pos Nat.one_pos lk_X11_124 dX11_ticks_46 ?_
    refine lv_icmp_ge (tgt := 70) X.x X.b dX11_ticks_49 (by decide) (fun c13 => ?_) (fun c13 => ?_)
    · have hf := wT c13 hf
      obtain ⟨t14, hf, e15⟩ := wEx_s hf
      have JR := JR t14 e15
      refine lv_iconst (v := 0) X.x X.b dX11_ticks_70 (by decide) ?_
      obtain ⟨y16, e17, hf⟩ := wLe_s hf
      refine lv_nmi e17 ?_
      refine lv_istore_n (lv' := [(1, .int y16), (0, .ref (k.1 + adR 0 0 0))]) X.x X.b dX11_ticks_71 rfl hl (by decide) rfl (fun ls hl => ?_)
      exact wX11_ticks_L72 hS X JR _ _ _ _ _ _ h (lv_sub hl [1, 0] rfl) hf
    · have hf := wF c13 hf
      refine lv_aload_n X.x X.b dX11_ticks_52 rfl (lv_at hl 0 rfl) ?_
      refine lv_sipush (v := 360) X.x X.b dX11_ticks_53 (by decide) ?_
      refine lv_bipush (v := 6) X.x X.b dX11_ticks_56 (by decide) ?_
      refine lv_iload_n X.x X.b dX11_ticks_58 rfl (lv_at hl 1 rfl) ?_
      refine lv_imul X.x X.b dX11_ticks_59 ?_
      refine lv_iadd X.x X.b dX11_ticks_60 ?_
      obtain ⟨g90, e88, hf⟩ := wBd_s hf
      refine ro_callvV (As := [.int ((360 : Int32) + ((6 : Int32) * x1))]) (g1 := g90) X h (kX11_feedGoes l hS e88) mv_X11_feedGoes lk_X11_248 ⟨rfl, rfl⟩ ⟨(Nat.le_of_ble_eq_true rfl), (Nat.le_of_ble_eq_true rfl)⟩ (rR_0 X h (hS 0) Nat.one_pos Nat.one_pos) rfl hl rfl (Nat.le_of_ble_eq_true rfl) ⟨Nat.zero_le _, Nat.zero_le _⟩ dX11_ticks_61 (fun H locs h => ?_)
      obtain ⟨y91, e92, hf⟩ := wLe_s hf
      refine lv_iinc (v := y91) (lv' := [(1, .int y91), (0, .ref (k.1 + adR 0 0 0))]) X.x X.b dX11_ticks_64 hl (k := 1) rfl (by rw [e92]; rfl) (by decide) rfl (fun ls hl => ?_)
      refine lv_goto (tgt := 44) X.x X.b dX11_ticks_67 (by decide) ?_
      exact J1 _ _ (Option.some.inj hf).symm _ _ _ h (lv_sub hl [1, 0] rfl)
set_option maxHeartbeats 4000000 in
set_option maxRecDepth 20000 in
theorem wX11_ticks_L23 {k : En} {S : Nat → Prop} (hS : ∀ t, S t) {res : Mm} (X : Cx YR S k p s m args meth c cX11_ticks 2 none RX11) {r : Mm} (JR : r = res) :
    ∀ (fu : Nat) (g : Mm) (x1 : Int32) (H : Heap) (locs : List Loc) (ls : Array Slot), Hx YR S k s g H locs → lv_has ls 2 [(0, .ref (k.1 + adR 0 0 0)), (1, .int x1)] → wLp (fun q => fX11_ticks_B23 q.1 q.2) fu (g, x1) = some r → W p l e (RmN 8 188) s m args below meth c H locs 0 0 (Fin YR S k args s below none res) (F0 m 23 ls []) := by
  intro fu
  induction fu with
  | zero => intro g x1 H locs ls h hl hf; exact (wLp_0 hf).elim
  | succ fu ih1 =>
    intro g x1 H locs ls h hl hf
    obtain ⟨r1, hf, hr⟩ := wLp_s hf
    have J1n : ∀ (g : Mm) (x1 : Int32), r1 = .inl (g, x1) → ∀ (H : Heap) (locs : List Loc) (ls : Array Slot), Hx YR S k s g H locs → lv_has ls 2 [(0, .ref (k.1 + adR 0 0 0)), (1, .int x1)] → W p l e (RmN 8 188) s m args below meth c H locs 0 0 (Fin YR S k args s below none res) (F0 m 23 ls []) := fun g x1 q H locs ls h hl => by subst q; exact ih1 _ _ _ _ _ h hl hr
    have JRn : ∀ t1, r1 = .inr t1 → t1 = res := fun t1 q => by subst q; obtain rfl := Option.some.inj hr; exact JR
    have J1 := J1n
    have JR := JRn
    clear J1n JRn
    have hf : fX11_ticks_B23 g x1 = some r1 := hf
    unfold fX11_ticks_B23 at hf
    refine lv_iload_n X.x X.b dX11_ticks_23 rfl (lv_at hl 1 rfl) ?_
    refine lv_aload_n X.x X.b dX11_ticks_24 rfl (lv_at hl 0 rfl) ?_
    refine gR_0_1 X h (hS 0) Nat.one_pos Nat.one_pos lk_X11_96 dX11_ticks_25 ?_
    refine lv_icmp_ge (tgt := 42) X.x X.b dX11_ticks_28 (by decide) (fun c8 => ?_) (fun c8 => ?_)
    · have hf := wT c8 hf
      obtain ⟨t9, hf, e10⟩ := wEx_s hf
      have JR := JR t9 e10
      refine lv_iconst (v := 0) X.x X.b dX11_ticks_42 (by decide) ?_
      obtain ⟨y11, e12, hf⟩ := wLe_s hf
      refine lv_nmi e12 ?_
      refine lv_istore_n (lv' := [(1, .int y11), (0, .ref (k.1 + adR 0 0 0))]) X.x X.b dX11_ticks_43 rfl hl (by decide) rfl (fun ls hl => ?_)
      exact wX11_ticks_L44 hS X JR _ _ _ _ _ _ h (lv_sub hl [1, 0] rfl) hf
    · have hf := wF c8 hf
      refine lv_aload_n X.x X.b dX11_ticks_31 rfl (lv_at hl 0 rfl) ?_
      refine lv_iload_n X.x X.b dX11_ticks_32 rfl (lv_at hl 1 rfl) ?_
      obtain ⟨g95, e93, hf⟩ := wBd_s hf
      refine ro_callvV (As := [.int x1]) (g1 := g95) X h (kX11_works l hS e93) mv_X11_works lk_X11_245 ⟨rfl, rfl⟩ ⟨(Nat.le_of_ble_eq_true rfl), (Nat.le_of_ble_eq_true rfl)⟩ (rR_0 X h (hS 0) Nat.one_pos Nat.one_pos) rfl hl rfl (Nat.le_of_ble_eq_true rfl) ⟨Nat.zero_le _, Nat.zero_le _⟩ dX11_ticks_33 (fun H locs h => ?_)
      obtain ⟨y96, e97, hf⟩ := wLe_s hf
      refine lv_iinc (v := y96) (lv' := [(1, .int y96), (0, .ref (k.1 + adR 0 0 0))]) X.x X.b dX11_ticks_36 hl (k := 1) rfl (by rw [e97]; rfl) (by decide) rfl (fun ls hl => ?_)
      refine lv_goto (tgt := 23) X.x X.b dX11_ticks_39 (by decide) ?_
      exact J1 _ _ (Option.some.inj hf).symm _ _ _ h (lv_sub hl [1, 0] rfl)
set_option maxHeartbeats 4000000 in
set_option maxRecDepth 20000 in
theorem wX11_ticks_L2 {k : En} {S : Nat → Prop} (hS : ∀ t, S t) {res : Mm} (X : Cx YR S k p s m args meth c cX11_ticks 2 none RX11) {r : Mm} (JR : r = res) :
    ∀ (fu : Nat) (g : Mm) (x1 : Int32) (H : Heap) (locs : List Loc) (ls : Array Slot), Hx YR S k s g H locs → lv_has ls 2 [(0, .ref (k.1 + adR 0 0 0)), (1, .int x1)] → wLp (fun q => fX11_ticks_B2 q.1 q.2) fu (g, x1) = some r → W p l e (RmN 8 188) s m args below meth c H locs 0 0 (Fin YR S k args s below none res) (F0 m 2 ls []) := by
  intro fu
  induction fu with
  | zero => intro g x1 H locs ls h hl hf; exact (wLp_0 hf).elim
  | succ fu ih1 =>
    intro g x1 H locs ls h hl hf
    obtain ⟨r1, hf, hr⟩ := wLp_s hf
    have J1n : ∀ (g : Mm) (x1 : Int32), r1 = .inl (g, x1) → ∀ (H : Heap) (locs : List Loc) (ls : Array Slot), Hx YR S k s g H locs → lv_has ls 2 [(0, .ref (k.1 + adR 0 0 0)), (1, .int x1)] → W p l e (RmN 8 188) s m args below meth c H locs 0 0 (Fin YR S k args s below none res) (F0 m 2 ls []) := fun g x1 q H locs ls h hl => by subst q; exact ih1 _ _ _ _ _ h hl hr
    have JRn : ∀ t1, r1 = .inr t1 → t1 = res := fun t1 q => by subst q; obtain rfl := Option.some.inj hr; exact JR
    have J1 := J1n
    have JR := JRn
    clear J1n JRn
    have hf : fX11_ticks_B2 g x1 = some r1 := hf
    unfold fX11_ticks_B2 at hf
    refine lv_iload_n X.x X.b dX11_ticks_2 rfl (lv_at hl 1 rfl) ?_
    refine lv_aload_n X.x X.b dX11_ticks_3 rfl (lv_at hl 0 rfl) ?_
    refine gR_0_1 X h (hS 0) Nat.one_pos Nat.one_pos lk_X11_96 dX11_ticks_4 ?_
    refine lv_icmp_ge (tgt := 21) X.x X.b dX11_ticks_7 (by decide) (fun c3 => ?_) (fun c3 => ?_)
    · have hf := wT c3 hf
      obtain ⟨t4, hf, e5⟩ := wEx_s hf
      have JR := JR t4 e5
      refine lv_iconst (v := 0) X.x X.b dX11_ticks_21 (by decide) ?_
      obtain ⟨y6, e7, hf⟩ := wLe_s hf
      refine lv_nmi e7 ?_
      refine lv_istore_n (lv' := [(1, .int y6), (0, .ref (k.1 + adR 0 0 0))]) X.x X.b dX11_ticks_22 rfl hl (by decide) rfl (fun ls hl => ?_)
      exact wX11_ticks_L23 hS X JR _ _ _ _ _ _ h (lv_sub hl [1, 0] rfl) hf
    · have hf := wF c3 hf
      refine lv_aload_n X.x X.b dX11_ticks_10 rfl (lv_at hl 0 rfl) ?_
      refine lv_iload_n X.x X.b dX11_ticks_11 rfl (lv_at hl 1 rfl) ?_
      obtain ⟨g100, e98, hf⟩ := wBd_s hf
      refine ro_callvV (As := [.int x1]) (g1 := g100) X h (kX11_goesOn l hS e98) mv_X11_goesOn lk_X11_242 ⟨rfl, rfl⟩ ⟨(Nat.le_of_ble_eq_true rfl), (Nat.le_of_ble_eq_true rfl)⟩ (rR_0 X h (hS 0) Nat.one_pos Nat.one_pos) rfl hl rfl (Nat.le_of_ble_eq_true rfl) ⟨Nat.zero_le _, Nat.zero_le _⟩ dX11_ticks_12 (fun H locs h => ?_)
      obtain ⟨y101, e102, hf⟩ := wLe_s hf
      refine lv_iinc (v := y101) (lv' := [(1, .int y101), (0, .ref (k.1 + adR 0 0 0))]) X.x X.b dX11_ticks_15 hl (k := 1) rfl (by rw [e102]; rfl) (by decide) rfl (fun ls hl => ?_)
      refine lv_goto (tgt := 2) X.x X.b dX11_ticks_18 (by decide) ?_
      exact J1 _ _ (Option.some.inj hf).symm _ _ _ h (lv_sub hl [1, 0] rfl)
set_option maxHeartbeats 4000000 in
set_option maxRecDepth 20000 in
theorem kX11_ticks (l : Launch) {k : En} {S : Nat → Prop} (hS : ∀ t, S t) {res : Mm} {g : Mm} (hf : fX11_ticks g = some res) : Mt l yX11_ticks cX11_ticks 2 none (RmN 8 188) YR S k [.ref (k.1 + adR 0 0 0)] g none res := by
  refine Mt.of (by decide) (Nat.le_of_ble_eq_true rfl) ?_
  intro p e s m args below meth c ls X _ h hl
  have X : Cx YR S k p s m args meth c cX11_ticks 2 none RX11 := X
  have hl : lv_has ls 2 [(0, .ref (k.1 + adR 0 0 0))] := hl
  have JR : res = res := rfl
  unfold fX11_ticks at hf
  refine lv_iconst (v := 0) X.x X.b dX11_ticks_0 (by decide) ?_
  obtain ⟨y1, e2, hf⟩ := wLe_s hf
  refine lv_nmi e2 ?_
  refine lv_istore_n (lv' := [(1, .int y1), (0, .ref (k.1 + adR 0 0 0))]) X.x X.b dX11_ticks_1 rfl hl (by decide) rfl (fun ls hl => ?_)
  exact wX11_ticks_L2 hS X JR _ _ _ _ _ _ h (lv_sub hl [1, 0] rfl) hf
set_option maxHeartbeats 4000000 in
set_option maxRecDepth 20000 in
theorem wX11_run_L35 {k : En} {S : Nat → Prop} (hS : ∀ t, S t) {a1 : Int32} {res : Mm × Int32} (X : Cx YR S k p s m args meth c cX11_run 3 (some .int) RX11) {r : Mm × Int32} (JR : r = res) :
    ∀ (fu : Nat) (g : Mm) (x2 : Int32) (H : Heap) (locs : List Loc) (ls : Array Slot), Hx YR S k s g H locs → lv_has ls 3 [(0, .ref (k.1 + adR 0 0 0)), (1, .int a1), (2, .int x2)] → wLp (fun q => fX11_run_B35 q.1 a1 q.2) fu (g, x2) = some r → W p l e (RmN 9 209) s m args below meth c H locs 0 0 (Fin YR S k args s below (some (.int res.2)) res.1) (F0 m 35 ls []) := by
  intro fu
  induction fu with
  | zero => intro g x2 H locs ls h hl hf; exact (wLp_0 hf).elim
  | succ fu ih1 =>
    intro g x2 H locs ls h hl hf
    obtain ⟨r1, hf, hr⟩ := wLp_s hf
    have J1n : ∀ (g : Mm) (x2 : Int32), r1 = .inl (g, x2) → ∀ (H : Heap) (locs : List Loc) (ls : Array Slot), Hx YR S k s g H locs → lv_has ls 3 [(0, .ref (k.1 + adR 0 0 0)), (1, .int a1), (2, .int x2)] → W p l e (RmN 9 209) s m args below meth c H locs 0 0 (Fin YR S k args s below (some (.int res.2)) res.1) (F0 m 35 ls []) := fun g x2 q H locs ls h hl => by subst q; exact ih1 _ _ _ _ _ h hl hr
    have JRn : ∀ t1, r1 = .inr t1 → t1 = res := fun t1 q => by subst q; obtain rfl := Option.some.inj hr; exact JR
    have J1 := J1n
    have JR := JRn
    clear J1n JRn
    have hf : fX11_run_B35 g a1 x2 = some r1 := hf
    unfold fX11_run_B35 at hf
    refine lv_iload_n X.x X.b dX11_run_35 rfl (lv_at hl 2 rfl) ?_
    refine lv_iload_n X.x X.b dX11_run_36 rfl (lv_at hl 1 rfl) ?_
    refine lv_icmp_ge (tgt := 50) X.x X.b dX11_run_37 (by decide) (fun c8 => ?_) (fun c8 => ?_)
    · have hf := wT c8 hf
      obtain ⟨t9, hf, e10⟩ := wEx_s hf
      have JR := JR t9 e10
      refine lv_aload_n X.x X.b dX11_run_50 rfl (lv_at hl 0 rfl) ?_
      refine gR_0_0 X h (hS 0) Nat.one_pos Nat.one_pos lk_X11_7 dX11_run_51 ?_
      refine lv_sipush (v := 480) X.x X.b dX11_run_54 (by decide) ?_
      obtain ⟨b11, hf⟩ := wGi_s hf
      refine aR_1 X h (hS 1) Nat.one_pos Nat.one_pos b11 dX11_run_57 ?_
      cases (Option.some.inj hf).trans JR
      exact ro_iret X h dX11_run_58
    · have hf := wF c8 hf
      refine lv_aload_n X.x X.b dX11_run_40 rfl (lv_at hl 0 rfl) ?_
      obtain ⟨g14, e12, hf⟩ := wBd_s hf
      refine ro_callvV (As := []) (g1 := g14) X h (kX11_ticks l hS e12) mv_X11_ticks lk_X11_260 ⟨rfl, rfl⟩ ⟨(Nat.le_of_ble_eq_true rfl), (Nat.le_of_ble_eq_true rfl)⟩ (rR_0 X h (hS 0) Nat.one_pos Nat.one_pos) rfl hl rfl (Nat.le_of_ble_eq_true rfl) ⟨Nat.zero_le _, Nat.zero_le _⟩ dX11_run_41 (fun H locs h => ?_)
      obtain ⟨y15, e16, hf⟩ := wLe_s hf
      refine lv_iinc (v := y15) (lv' := [(2, .int y15), (0, .ref (k.1 + adR 0 0 0)), (1, .int a1)]) X.x X.b dX11_run_44 hl (k := 2) rfl (by rw [e16]; rfl) (by decide) rfl (fun ls hl => ?_)
      refine lv_goto (tgt := 35) X.x X.b dX11_run_47 (by decide) ?_
      exact J1 _ _ (Option.some.inj hf).symm _ _ _ h (lv_sub hl [1, 2, 0] rfl)
set_option maxHeartbeats 4000000 in
set_option maxRecDepth 20000 in
theorem kX11_run (l : Launch) {k : En} {S : Nat → Prop} (hS : ∀ t, S t) {a1 : Int32} {res : Mm × Int32} {g : Mm} (hf : fX11_run g a1 = some res) : Mt l yX11_run cX11_run 3 (some .int) (RmN 9 209) YR S k [.ref (k.1 + adR 0 0 0), .int a1] g (some (.int res.2)) res.1 := by
  refine Mt.of (by decide) (Nat.le_of_ble_eq_true rfl) ?_
  intro p e s m args below meth c ls X _ h hl
  have X : Cx YR S k p s m args meth c cX11_run 3 (some .int) RX11 := X
  have hl : lv_has ls 3 [(0, .ref (k.1 + adR 0 0 0)), (1, .int a1)] := hl
  have JR : res = res := rfl
  unfold fX11_run at hf
  refine lv_iload_n X.x X.b dX11_run_0 rfl (lv_at hl 1 rfl) ?_
  refine lv_iconst (v := 1) X.x X.b dX11_run_1 (by decide) ?_
  refine lv_sipush (v := 200) X.x X.b dX11_run_2 (by decide) ?_
  obtain ⟨y2, e1, hf⟩ := wBd_s hf
  refine ro_callsI (As := [.int a1, .int (1 : Int32), .int (200 : Int32)]) (g1 := g) (x := y2) X h (kX11_in l hS e1) mv_X11_in lk_X11_99 ⟨rfl, rfl⟩ ⟨(Nat.le_of_ble_eq_true rfl), (Nat.le_of_ble_eq_true rfl)⟩ rfl hl rfl (Nat.le_of_ble_eq_true rfl) ⟨Nat.zero_le _, Nat.zero_le _⟩ dX11_run_5 (fun H locs h => ?_)
  refine lv_if_ne (tgt := 14) X.x X.b dX11_run_8 (by decide) (fun c3 => ?_) (fun c3 => ?_)
  · have hf := wF c3 hf
    refine lv_aload_n X.x X.b dX11_run_14 rfl (lv_at hl 0 rfl) ?_
    refine gR_0_0 X h (hS 0) Nat.one_pos Nat.one_pos lk_X11_7 dX11_run_15 ?_
    refine lv_sipush (v := 480) X.x X.b dX11_run_18 (by decide) ?_
    obtain ⟨b4, hf⟩ := wGi_s hf
    refine aR_1 X h (hS 1) Nat.one_pos Nat.one_pos b4 dX11_run_21 ?_
    refine lv_iload_n X.x X.b dX11_run_22 rfl (lv_at hl 1 rfl) ?_
    refine lv_iadd X.x X.b dX11_run_23 ?_
    refine lv_sipush (v := 9999) X.x X.b dX11_run_24 (by decide) ?_
    refine lv_icmp_le (tgt := 33) X.x X.b dX11_run_27 (by decide) (fun c5 => ?_) (fun c5 => ?_)
    · have hf := wT c5 hf
      refine lv_iconst (v := 0) X.x X.b dX11_run_33 (by decide) ?_
      obtain ⟨y6, e7, hf⟩ := wLe_s hf
      refine lv_nmi e7 ?_
      refine lv_istore_n (lv' := [(2, .int y6), (0, .ref (k.1 + adR 0 0 0)), (1, .int a1)]) X.x X.b dX11_run_34 rfl hl (by decide) rfl (fun ls hl => ?_)
      exact wX11_run_L35 hS X JR _ _ _ _ _ _ h (lv_sub hl [1, 2, 0] rfl) hf
    · have hf := wF c5 hf
      refine lv_bipush (v := (-4)) X.x X.b dX11_run_30 (by decide) ?_
      cases (Option.some.inj hf).trans JR
      exact ro_iret X h dX11_run_32
  · have hf := wT c3 hf
    refine lv_bipush (v := (-2)) X.x X.b dX11_run_11 (by decide) ?_
    cases (Option.some.inj hf).trans JR
    exact ro_iret X h dX11_run_13
set_option maxHeartbeats 4000000 in
set_option maxRecDepth 20000 in
theorem wX11_lateOf_L4 {k : En} {S : Nat → Prop} (hS : ∀ t, S t) {g0 : Mm} {a1 : Int32} {res : Int32} (X : Cx YR S k p s m args meth c cX11_lateOf 4 (some .int) RX11) {r : Int32} (JR : r = res) :
    ∀ (fu : Nat) (x2 : Int32) (x3 : Int32) (H : Heap) (locs : List Loc) (ls : Array Slot), Hx YR S k s g0 H locs → lv_has ls 4 [(0, .ref (k.1 + adR 0 0 0)), (1, .int a1), (2, .int x2), (3, .int x3)] → wLp (fun q => fX11_lateOf_B4 g0 a1 q.1 q.2) fu (x2, x3) = some r → W p l e (RmN 1 22) s m args below meth c H locs 0 0 (Fin YR S k args s below (some (.int res)) g0) (F0 m 4 ls []) := by
  intro fu
  induction fu with
  | zero => intro x2 x3 H locs ls h hl hf; exact (wLp_0 hf).elim
  | succ fu ih1 =>
    intro x2 x3 H locs ls h hl hf
    obtain ⟨r1, hf, hr⟩ := wLp_s hf
    have J1n : ∀ (x2 : Int32) (x3 : Int32), r1 = .inl (x2, x3) → ∀ (H : Heap) (locs : List Loc) (ls : Array Slot), Hx YR S k s g0 H locs → lv_has ls 4 [(0, .ref (k.1 + adR 0 0 0)), (1, .int a1), (2, .int x2), (3, .int x3)] → W p l e (RmN 1 22) s m args below meth c H locs 0 0 (Fin YR S k args s below (some (.int res)) g0) (F0 m 4 ls []) := fun x2 x3 q H locs ls h hl => by subst q; exact ih1 _ _ _ _ _ h hl hr
    have JRn : ∀ t1, r1 = .inr t1 → t1 = res := fun t1 q => by subst q; obtain rfl := Option.some.inj hr; exact JR
    have J1 := J1n
    have JR := JRn
    clear J1n JRn
    have hf : fX11_lateOf_B4 g0 a1 x2 x3 = some r1 := hf
    unfold fX11_lateOf_B4 at hf
    refine lv_iload_n X.x X.b dX11_lateOf_4 rfl (lv_at hl 3 rfl) ?_
    refine lv_bipush (v := 9) X.x X.b dX11_lateOf_5 (by decide) ?_
    refine lv_icmp_ge (tgt := 28) X.x X.b dX11_lateOf_7 (by decide) (fun c5 => ?_) (fun c5 => ?_)
    · have hf := wT c5 hf
      obtain ⟨t6, hf, e7⟩ := wEx_s hf
      have JR := JR t6 e7
      refine lv_iload_n X.x X.b dX11_lateOf_28 rfl (lv_at hl 2 rfl) ?_
      cases (Option.some.inj hf).trans JR
      exact ro_iret X h dX11_lateOf_29
    · have hf := wF c5 hf
      refine lv_iload_n X.x X.b dX11_lateOf_10 rfl (lv_at hl 2 rfl) ?_
      refine lv_aload_n X.x X.b dX11_lateOf_11 rfl (lv_at hl 0 rfl) ?_
      refine lv_iload_n X.x X.b dX11_lateOf_12 rfl (lv_at hl 1 rfl) ?_
      refine lv_bipush (v := 19) X.x X.b dX11_lateOf_13 (by decide) ?_
      refine lv_iload_n X.x X.b dX11_lateOf_15 rfl (lv_at hl 3 rfl) ?_
      refine lv_iadd X.x X.b dX11_lateOf_16 ?_
      obtain ⟨y9, e8, hf⟩ := wBd_s hf
      refine ro_callvI (As := [.int a1, .int ((19 : Int32) + x3)]) (g1 := g0) (x := y9) X h (kX11_of l hS e8) mv_X11_of lk_X11_106 ⟨rfl, rfl⟩ ⟨(Nat.le_of_ble_eq_true rfl), (Nat.le_of_ble_eq_true rfl)⟩ (rR_0 X h (hS 0) Nat.one_pos Nat.one_pos) rfl hl rfl (Nat.le_of_ble_eq_true rfl) ⟨Nat.zero_le _, Nat.zero_le _⟩ dX11_lateOf_17 (fun H locs h => ?_)
      refine lv_iadd X.x X.b dX11_lateOf_20 ?_
      obtain ⟨y10, e11, hf⟩ := wLe_s hf
      refine lv_nmi e11 ?_
      refine lv_istore_n (lv' := [(2, .int y10), (0, .ref (k.1 + adR 0 0 0)), (1, .int a1), (3, .int x3)]) X.x X.b dX11_lateOf_21 rfl hl (by decide) rfl (fun ls hl => ?_)
      obtain ⟨y12, e13, hf⟩ := wLe_s hf
      refine lv_iinc (v := y12) (lv' := [(3, .int y12), (2, .int y10), (0, .ref (k.1 + adR 0 0 0)), (1, .int a1)]) X.x X.b dX11_lateOf_22 hl (k := 3) rfl (by rw [e13]; rfl) (by decide) rfl (fun ls hl => ?_)
      refine lv_goto (tgt := 4) X.x X.b dX11_lateOf_25 (by decide) ?_
      exact J1 _ _ (Option.some.inj hf).symm _ _ _ h (lv_sub hl [2, 3, 1, 0] rfl)
set_option maxHeartbeats 4000000 in
set_option maxRecDepth 20000 in
theorem kX11_lateOf (l : Launch) {k : En} {S : Nat → Prop} (hS : ∀ t, S t) {g0 : Mm} {a1 : Int32} {res : Int32} (hf : fX11_lateOf g0 a1 = some res) : Mt l yX11_lateOf cX11_lateOf 4 (some .int) (RmN 1 22) YR S k [.ref (k.1 + adR 0 0 0), .int a1] g0 (some (.int res)) g0 := by
  refine Mt.of (by decide) (Nat.le_of_ble_eq_true rfl) ?_
  intro p e s m args below meth c ls X _ h hl
  have X : Cx YR S k p s m args meth c cX11_lateOf 4 (some .int) RX11 := X
  have hl : lv_has ls 4 [(0, .ref (k.1 + adR 0 0 0)), (1, .int a1)] := hl
  have JR : res = res := rfl
  unfold fX11_lateOf at hf
  refine lv_iconst (v := 0) X.x X.b dX11_lateOf_0 (by decide) ?_
  obtain ⟨y1, e2, hf⟩ := wLe_s hf
  refine lv_nmi e2 ?_
  refine lv_istore_n (lv' := [(2, .int y1), (0, .ref (k.1 + adR 0 0 0)), (1, .int a1)]) X.x X.b dX11_lateOf_1 rfl hl (by decide) rfl (fun ls hl => ?_)
  refine lv_iconst (v := 0) X.x X.b dX11_lateOf_2 (by decide) ?_
  obtain ⟨y3, e4, hf⟩ := wLe_s hf
  refine lv_nmi e4 ?_
  refine lv_istore_n (lv' := [(3, .int y3), (2, .int y1), (0, .ref (k.1 + adR 0 0 0)), (1, .int a1)]) X.x X.b dX11_lateOf_3 rfl hl (by decide) rfl (fun ls hl => ?_)
  exact wX11_lateOf_L4 hS X JR _ _ _ _ _ _ h (lv_sub hl [2, 3, 1, 0] rfl) hf
set_option maxHeartbeats 4000000 in
set_option maxRecDepth 20000 in
theorem wX11_lateOfAll_L4 {k : En} {S : Nat → Prop} (hS : ∀ t, S t) {g0 : Mm} {res : Int32} (X : Cx YR S k p s m args meth c cX11_lateOfAll 3 (some .int) RX11) {r : Int32} (JR : r = res) :
    ∀ (fu : Nat) (x1 : Int32) (x2 : Int32) (H : Heap) (locs : List Loc) (ls : Array Slot), Hx YR S k s g0 H locs → lv_has ls 3 [(0, .ref (k.1 + adR 0 0 0)), (1, .int x1), (2, .int x2)] → wLp (fun q => fX11_lateOfAll_B4 g0 q.1 q.2) fu (x1, x2) = some r → W p l e (RmN 2 45) s m args below meth c H locs 0 0 (Fin YR S k args s below (some (.int res)) g0) (F0 m 4 ls []) := by
  intro fu
  induction fu with
  | zero => intro x1 x2 H locs ls h hl hf; exact (wLp_0 hf).elim
  | succ fu ih1 =>
    intro x1 x2 H locs ls h hl hf
    obtain ⟨r1, hf, hr⟩ := wLp_s hf
    have J1n : ∀ (x1 : Int32) (x2 : Int32), r1 = .inl (x1, x2) → ∀ (H : Heap) (locs : List Loc) (ls : Array Slot), Hx YR S k s g0 H locs → lv_has ls 3 [(0, .ref (k.1 + adR 0 0 0)), (1, .int x1), (2, .int x2)] → W p l e (RmN 2 45) s m args below meth c H locs 0 0 (Fin YR S k args s below (some (.int res)) g0) (F0 m 4 ls []) := fun x1 x2 q H locs ls h hl => by subst q; exact ih1 _ _ _ _ _ h hl hr
    have JRn : ∀ t1, r1 = .inr t1 → t1 = res := fun t1 q => by subst q; obtain rfl := Option.some.inj hr; exact JR
    have J1 := J1n
    have JR := JRn
    clear J1n JRn
    have hf : fX11_lateOfAll_B4 g0 x1 x2 = some r1 := hf
    unfold fX11_lateOfAll_B4 at hf
    refine lv_iload_n X.x X.b dX11_lateOfAll_4 rfl (lv_at hl 2 rfl) ?_
    refine lv_aload_n X.x X.b dX11_lateOfAll_5 rfl (lv_at hl 0 rfl) ?_
    refine gR_0_1 X h (hS 0) Nat.one_pos Nat.one_pos lk_X11_96 dX11_lateOfAll_6 ?_
    refine lv_icmp_ge (tgt := 26) X.x X.b dX11_lateOfAll_9 (by decide) (fun c5 => ?_) (fun c5 => ?_)
    · have hf := wT c5 hf
      obtain ⟨t6, hf, e7⟩ := wEx_s hf
      have JR := JR t6 e7
      refine lv_iload_n X.x X.b dX11_lateOfAll_26 rfl (lv_at hl 1 rfl) ?_
      cases (Option.some.inj hf).trans JR
      exact ro_iret X h dX11_lateOfAll_27
    · have hf := wF c5 hf
      refine lv_iload_n X.x X.b dX11_lateOfAll_12 rfl (lv_at hl 1 rfl) ?_
      refine lv_aload_n X.x X.b dX11_lateOfAll_13 rfl (lv_at hl 0 rfl) ?_
      refine lv_iload_n X.x X.b dX11_lateOfAll_14 rfl (lv_at hl 2 rfl) ?_
      obtain ⟨y9, e8, hf⟩ := wBd_s hf
      refine ro_callvI (As := [.int x2]) (g1 := g0) (x := y9) X h (kX11_lateOf l hS e8) mv_X11_lateOf lk_X11_263 ⟨rfl, rfl⟩ ⟨(Nat.le_of_ble_eq_true rfl), (Nat.le_of_ble_eq_true rfl)⟩ (rR_0 X h (hS 0) Nat.one_pos Nat.one_pos) rfl hl rfl (Nat.le_of_ble_eq_true rfl) ⟨Nat.zero_le _, Nat.zero_le _⟩ dX11_lateOfAll_15 (fun H locs h => ?_)
      refine lv_iadd X.x X.b dX11_lateOfAll_18 ?_
      obtain ⟨y10, e11, hf⟩ := wLe_s hf
      refine lv_nmi e11 ?_
      refine lv_istore_n (lv' := [(1, .int y10), (0, .ref (k.1 + adR 0 0 0)), (2, .int x2)]) X.x X.b dX11_lateOfAll_19 rfl hl (by decide) rfl (fun ls hl => ?_)
      obtain ⟨y12, e13, hf⟩ := wLe_s hf
      refine lv_iinc (v := y12) (lv' := [(2, .int y12), (1, .int y10), (0, .ref (k.1 + adR 0 0 0))]) X.x X.b dX11_lateOfAll_20 hl (k := 2) rfl (by rw [e13]; rfl) (by decide) rfl (fun ls hl => ?_)
      refine lv_goto (tgt := 4) X.x X.b dX11_lateOfAll_23 (by decide) ?_
      exact J1 _ _ (Option.some.inj hf).symm _ _ _ h (lv_sub hl [2, 1, 0] rfl)
set_option maxHeartbeats 4000000 in
set_option maxRecDepth 20000 in
theorem kX11_lateOfAll (l : Launch) {k : En} {S : Nat → Prop} (hS : ∀ t, S t) {g0 : Mm} {res : Int32} (hf : fX11_lateOfAll g0 = some res) : Mt l yX11_lateOfAll cX11_lateOfAll 3 (some .int) (RmN 2 45) YR S k [.ref (k.1 + adR 0 0 0)] g0 (some (.int res)) g0 := by
  refine Mt.of (by decide) (Nat.le_of_ble_eq_true rfl) ?_
  intro p e s m args below meth c ls X _ h hl
  have X : Cx YR S k p s m args meth c cX11_lateOfAll 3 (some .int) RX11 := X
  have hl : lv_has ls 3 [(0, .ref (k.1 + adR 0 0 0))] := hl
  have JR : res = res := rfl
  unfold fX11_lateOfAll at hf
  refine lv_iconst (v := 0) X.x X.b dX11_lateOfAll_0 (by decide) ?_
  obtain ⟨y1, e2, hf⟩ := wLe_s hf
  refine lv_nmi e2 ?_
  refine lv_istore_n (lv' := [(1, .int y1), (0, .ref (k.1 + adR 0 0 0))]) X.x X.b dX11_lateOfAll_1 rfl hl (by decide) rfl (fun ls hl => ?_)
  refine lv_iconst (v := 0) X.x X.b dX11_lateOfAll_2 (by decide) ?_
  obtain ⟨y3, e4, hf⟩ := wLe_s hf
  refine lv_nmi e4 ?_
  refine lv_istore_n (lv' := [(2, .int y3), (1, .int y1), (0, .ref (k.1 + adR 0 0 0))]) X.x X.b dX11_lateOfAll_3 rfl hl (by decide) rfl (fun ls hl => ?_)
  exact wX11_lateOfAll_L4 hS X JR _ _ _ _ _ _ h (lv_sub hl [2, 1, 0] rfl) hf
set_option maxHeartbeats 4000000 in
set_option maxRecDepth 20000 in
theorem wX11_missed_b46 {k : En} {S : Nat → Prop} (hS : ∀ t, S t) {g0 : Mm} {res : Int32} (X : Cx YR S k p s m args meth c cX11_missed 3 (some .int) RX11) {x2 : Int32} {z0 : Int32} {z1 : Int32} {H : Heap} {locs : List Loc} {ls : Array Slot} (h : Hx YR S k s g0 H locs) (hl : lv_has ls 3 [(0, .ref (k.1 + adR 0 0 0)), (2, .int x2)]) {r : (Int32 × Int32) ⊕ (Int32)} (hf : fX11_missed_b46 g0 x2 z0 z1 = some r) (J1 : ∀ (x1 : Int32) (x2 : Int32), r = .inl (x1, x2) → ∀ (H : Heap) (locs : List Loc) (ls : Array Slot), Hx YR S k s g0 H locs → lv_has ls 3 [(0, .ref (k.1 + adR 0 0 0)), (1, .int x1), (2, .int x2)] → W p l e (RmN 0 0) s m args below meth c H locs 0 0 (Fin YR S k args s below (some (.int res)) g0) (F0 m 6 ls [])) (JR : ∀ t1, r = .inr t1 → t1 = res) :
    W p l e (RmN 0 0) s m args below meth c H locs 0 0 (Fin YR S k args s below (some (.int res)) g0) (F0 m 46 ls [.int z1, .int z0]) := by
  unfold fX11_missed_b46 at hf
  refine lv_iadd X.x X.b dX11_missed_46 ?_
  obtain ⟨y10, e11, hf⟩ := wLe_s hf
  refine lv_nmi e11 ?_
  refine lv_istore_n (lv' := [(1, .int y10), (0, .ref (k.1 + adR 0 0 0)), (2, .int x2)]) X.x X.b dX11_missed_47 rfl hl (by decide) rfl (fun ls hl => ?_)
  obtain ⟨y12, e13, hf⟩ := wLe_s hf
  refine lv_iinc (v := y12) (lv' := [(2, .int y12), (1, .int y10), (0, .ref (k.1 + adR 0 0 0))]) X.x X.b dX11_missed_48 hl (k := 2) rfl (by rw [e13]; rfl) (by decide) rfl (fun ls hl => ?_)
  refine lv_goto (tgt := 6) X.x X.b dX11_missed_51 (by decide) ?_
  exact J1 _ _ (Option.some.inj hf).symm _ _ _ h (lv_sub hl [2, 1, 0] rfl)
set_option maxHeartbeats 4000000 in
set_option maxRecDepth 20000 in
theorem wX11_missed_L6 {k : En} {S : Nat → Prop} (hS : ∀ t, S t) {g0 : Mm} {res : Int32} (X : Cx YR S k p s m args meth c cX11_missed 3 (some .int) RX11) {r : Int32} (JR : r = res) :
    ∀ (fu : Nat) (x1 : Int32) (x2 : Int32) (H : Heap) (locs : List Loc) (ls : Array Slot), Hx YR S k s g0 H locs → lv_has ls 3 [(0, .ref (k.1 + adR 0 0 0)), (1, .int x1), (2, .int x2)] → wLp (fun q => fX11_missed_B6 g0 q.1 q.2) fu (x1, x2) = some r → W p l e (RmN 0 0) s m args below meth c H locs 0 0 (Fin YR S k args s below (some (.int res)) g0) (F0 m 6 ls []) := by
  intro fu
  induction fu with
  | zero => intro x1 x2 H locs ls h hl hf; exact (wLp_0 hf).elim
  | succ fu ih1 =>
    intro x1 x2 H locs ls h hl hf
    obtain ⟨r1, hf, hr⟩ := wLp_s hf
    have J1n : ∀ (x1 : Int32) (x2 : Int32), r1 = .inl (x1, x2) → ∀ (H : Heap) (locs : List Loc) (ls : Array Slot), Hx YR S k s g0 H locs → lv_has ls 3 [(0, .ref (k.1 + adR 0 0 0)), (1, .int x1), (2, .int x2)] → W p l e (RmN 0 0) s m args below meth c H locs 0 0 (Fin YR S k args s below (some (.int res)) g0) (F0 m 6 ls []) := fun x1 x2 q H locs ls h hl => by subst q; exact ih1 _ _ _ _ _ h hl hr
    have JRn : ∀ t1, r1 = .inr t1 → t1 = res := fun t1 q => by subst q; obtain rfl := Option.some.inj hr; exact JR
    have J1 := J1n
    have JR := JRn
    clear J1n JRn
    have hf : fX11_missed_B6 g0 x1 x2 = some r1 := hf
    unfold fX11_missed_B6 at hf
    refine lv_iload_n X.x X.b dX11_missed_6 rfl (lv_at hl 2 rfl) ?_
    refine lv_sipush (v := 360) X.x X.b dX11_missed_7 (by decide) ?_
    refine lv_bipush (v := 6) X.x X.b dX11_missed_10 (by decide) ?_
    refine lv_aload_n X.x X.b dX11_missed_12 rfl (lv_at hl 0 rfl) ?_
    refine gR_0_2 X h (hS 0) Nat.one_pos Nat.one_pos lk_X11_124 dX11_missed_13 ?_
    refine lv_imul X.x X.b dX11_missed_16 ?_
    refine lv_iadd X.x X.b dX11_missed_17 ?_
    refine lv_icmp_ge (tgt := 54) X.x X.b dX11_missed_18 (by decide) (fun c5 => ?_) (fun c5 => ?_)
    · have hf := wT c5 hf
      obtain ⟨t6, hf, e7⟩ := wEx_s hf
      have JR := JR t6 e7
      refine lv_iload_n X.x X.b dX11_missed_54 rfl (lv_at hl 1 rfl) ?_
      cases (Option.some.inj hf).trans JR
      exact ro_iret X h dX11_missed_55
    · have hf := wF c5 hf
      refine lv_iload_n X.x X.b dX11_missed_21 rfl (lv_at hl 1 rfl) ?_
      refine lv_aload_n X.x X.b dX11_missed_22 rfl (lv_at hl 0 rfl) ?_
      refine gR_0_0 X h (hS 0) Nat.one_pos Nat.one_pos lk_X11_7 dX11_missed_23 ?_
      refine lv_iload_n X.x X.b dX11_missed_26 rfl (lv_at hl 2 rfl) ?_
      refine lv_iconst (v := 4) X.x X.b dX11_missed_27 (by decide) ?_
      refine lv_iadd X.x X.b dX11_missed_28 ?_
      obtain ⟨b8, hf⟩ := wGi_s hf
      refine aR_1 X h (hS 1) Nat.one_pos Nat.one_pos b8 dX11_missed_29 ?_
      refine lv_iconst (v := 3) X.x X.b dX11_missed_30 (by decide) ?_
      refine lv_icmp_ne (tgt := 45) X.x X.b dX11_missed_31 (by decide) (fun c9 => ?_) (fun c9 => ?_)
      · have hf := wF c9 hf
        refine lv_iconst (v := 0) X.x X.b dX11_missed_45 (by decide) ?_
        exact wX11_missed_b46 hS X h (lv_sub hl [0, 2] rfl) hf J1 JR
      · have hf := wT c9 hf
        refine lv_aload_n X.x X.b dX11_missed_34 rfl (lv_at hl 0 rfl) ?_
        refine gR_0_0 X h (hS 0) Nat.one_pos Nat.one_pos lk_X11_7 dX11_missed_35 ?_
        refine lv_iload_n X.x X.b dX11_missed_38 rfl (lv_at hl 2 rfl) ?_
        refine lv_iconst (v := 2) X.x X.b dX11_missed_39 (by decide) ?_
        refine lv_iadd X.x X.b dX11_missed_40 ?_
        obtain ⟨b14, hf⟩ := wGi_s hf
        refine aR_1 X h (hS 1) Nat.one_pos Nat.one_pos b14 dX11_missed_41 ?_
        refine lv_goto (tgt := 46) X.x X.b dX11_missed_42 (by decide) ?_
        exact wX11_missed_b46 hS X h (lv_sub hl [0, 2] rfl) hf J1 JR
set_option maxHeartbeats 4000000 in
set_option maxRecDepth 20000 in
theorem kX11_missed (l : Launch) {k : En} {S : Nat → Prop} (hS : ∀ t, S t) {g0 : Mm} {res : Int32} (hf : fX11_missed g0 = some res) : Mt l yX11_missed cX11_missed 3 (some .int) (RmN 0 0) YR S k [.ref (k.1 + adR 0 0 0)] g0 (some (.int res)) g0 := by
  refine Mt.of (by decide) (Nat.le_of_ble_eq_true rfl) ?_
  intro p e s m args below meth c ls X _ h hl
  have X : Cx YR S k p s m args meth c cX11_missed 3 (some .int) RX11 := X
  have hl : lv_has ls 3 [(0, .ref (k.1 + adR 0 0 0))] := hl
  have JR : res = res := rfl
  unfold fX11_missed at hf
  refine lv_iconst (v := 0) X.x X.b dX11_missed_0 (by decide) ?_
  obtain ⟨y1, e2, hf⟩ := wLe_s hf
  refine lv_nmi e2 ?_
  refine lv_istore_n (lv' := [(1, .int y1), (0, .ref (k.1 + adR 0 0 0))]) X.x X.b dX11_missed_1 rfl hl (by decide) rfl (fun ls hl => ?_)
  refine lv_sipush (v := 360) X.x X.b dX11_missed_2 (by decide) ?_
  obtain ⟨y3, e4, hf⟩ := wLe_s hf
  refine lv_nmi e4 ?_
  refine lv_istore_n (lv' := [(2, .int y3), (1, .int y1), (0, .ref (k.1 + adR 0 0 0))]) X.x X.b dX11_missed_5 rfl hl (by decide) rfl (fun ls hl => ?_)
  exact wX11_missed_L6 hS X JR _ _ _ _ _ _ h (lv_sub hl [2, 1, 0] rfl) hf
set_option maxHeartbeats 4000000 in
set_option maxRecDepth 20000 in
theorem wX11_visitTold_b162 {k : En} {S : Nat → Prop} (hS : ∀ t, S t) {g0 : Mm} {a1 : Int32} {a2 : Int32} {res : Int32} (X : Cx YR S k p s m args meth c cX11_visitTold 5 (some .int) RX11) {x4 : Int32} {z0 : Int32} {z1 : Int32} {H : Heap} {locs : List Loc} {ls : Array Slot} (h : Hx YR S k s g0 H locs) (hl : lv_has ls 5 [(0, .ref (k.1 + adR 0 0 0)), (1, .int a1), (4, .int x4)]) {r : (Int32 × Int32) ⊕ (Int32)} (hf : fX11_visitTold_b162 g0 a1 a2 x4 z0 z1 = some r) (J1 : ∀ (x3 : Int32) (x4 : Int32), r = .inl (x3, x4) → ∀ (H : Heap) (locs : List Loc) (ls : Array Slot), Hx YR S k s g0 H locs → lv_has ls 5 [(0, .ref (k.1 + adR 0 0 0)), (1, .int a1), (3, .int x3), (4, .int x4)] → W p l e (RmN 3 64) s m args below meth c H locs 0 0 (Fin YR S k args s below (some (.int res)) g0) (F0 m 133 ls [])) (JR : ∀ t1, r = .inr t1 → t1 = res) :
    W p l e (RmN 3 64) s m args below meth c H locs 0 0 (Fin YR S k args s below (some (.int res)) g0) (F0 m 162 ls [.int z1, .int z0]) := by
  unfold fX11_visitTold_b162 at hf
  refine lv_ior X.x X.b dX11_visitTold_162 ?_
  obtain ⟨y39, e40, hf⟩ := wLe_s hf
  refine lv_nmi e40 ?_
  refine lv_istore_n (lv' := [(3, .int y39), (0, .ref (k.1 + adR 0 0 0)), (1, .int a1), (4, .int x4)]) X.x X.b dX11_visitTold_163 rfl hl (by decide) rfl (fun ls hl => ?_)
  obtain ⟨y41, e42, hf⟩ := wLe_s hf
  refine lv_iinc (v := y41) (lv' := [(4, .int y41), (3, .int y39), (0, .ref (k.1 + adR 0 0 0)), (1, .int a1)]) X.x X.b dX11_visitTold_164 hl (k := 3) rfl (by rw [e42]; rfl) (by decide) rfl (fun ls hl => ?_)
  refine lv_goto (tgt := 133) X.x X.b dX11_visitTold_167 (by decide) ?_
  exact J1 _ _ (Option.some.inj hf).symm _ _ _ h (lv_sub hl [2, 3, 1, 0] rfl)
set_option maxHeartbeats 4000000 in
set_option maxRecDepth 20000 in
theorem wX11_visitTold_L133 {k : En} {S : Nat → Prop} (hS : ∀ t, S t) {g0 : Mm} {a1 : Int32} {a2 : Int32} {res : Int32} (X : Cx YR S k p s m args meth c cX11_visitTold 5 (some .int) RX11) {r : Int32} (JR : r = res) :
    ∀ (fu : Nat) (x3 : Int32) (x4 : Int32) (H : Heap) (locs : List Loc) (ls : Array Slot), Hx YR S k s g0 H locs → lv_has ls 5 [(0, .ref (k.1 + adR 0 0 0)), (1, .int a1), (3, .int x3), (4, .int x4)] → wLp (fun q => fX11_visitTold_B133 g0 a1 a2 q.1 q.2) fu (x3, x4) = some r → W p l e (RmN 3 64) s m args below meth c H locs 0 0 (Fin YR S k args s below (some (.int res)) g0) (F0 m 133 ls []) := by
  intro fu
  induction fu with
  | zero => intro x3 x4 H locs ls h hl hf; exact (wLp_0 hf).elim
  | succ fu ih1 =>
    intro x3 x4 H locs ls h hl hf
    obtain ⟨r1, hf, hr⟩ := wLp_s hf
    have J1n : ∀ (x3 : Int32) (x4 : Int32), r1 = .inl (x3, x4) → ∀ (H : Heap) (locs : List Loc) (ls : Array Slot), Hx YR S k s g0 H locs → lv_has ls 5 [(0, .ref (k.1 + adR 0 0 0)), (1, .int a1), (3, .int x3), (4, .int x4)] → W p l e (RmN 3 64) s m args below meth c H locs 0 0 (Fin YR S k args s below (some (.int res)) g0) (F0 m 133 ls []) := fun x3 x4 q H locs ls h hl => by subst q; exact ih1 _ _ _ _ _ h hl hr
    have JRn : ∀ t1, r1 = .inr t1 → t1 = res := fun t1 q => by subst q; obtain rfl := Option.some.inj hr; exact JR
    have J1 := J1n
    have JR := JRn
    clear J1n JRn
    have hf : fX11_visitTold_B133 g0 a1 a2 x3 x4 = some r1 := hf
    unfold fX11_visitTold_B133 at hf
    refine lv_iload X.x X.b dX11_visitTold_133 (lv_at hl 3 rfl) ?_
    refine lv_bipush (v := 8) X.x X.b dX11_visitTold_135 (by decide) ?_
    refine lv_icmp_ge (tgt := 170) X.x X.b dX11_visitTold_137 (by decide) (fun c33 => ?_) (fun c33 => ?_)
    · have hf := wT c33 hf
      obtain ⟨t34, hf, e35⟩ := wEx_s hf
      have JR := JR t34 e35
      refine lv_iload_n X.x X.b dX11_visitTold_170 rfl (lv_at hl 2 rfl) ?_
      cases (Option.some.inj hf).trans JR
      exact ro_iret X h dX11_visitTold_171
    · have hf := wF c33 hf
      refine lv_iload_n X.x X.b dX11_visitTold_140 rfl (lv_at hl 2 rfl) ?_
      refine lv_aload_n X.x X.b dX11_visitTold_141 rfl (lv_at hl 0 rfl) ?_
      refine lv_iload_n X.x X.b dX11_visitTold_142 rfl (lv_at hl 1 rfl) ?_
      refine lv_bipush (v := 11) X.x X.b dX11_visitTold_143 (by decide) ?_
      refine lv_iload X.x X.b dX11_visitTold_145 (lv_at hl 3 rfl) ?_
      refine lv_iadd X.x X.b dX11_visitTold_147 ?_
      obtain ⟨y37, e36, hf⟩ := wBd_s hf
      refine ro_callvI (As := [.int a1, .int ((11 : Int32) + x4)]) (g1 := g0) (x := y37) X h (kX11_of l hS e36) mv_X11_of lk_X11_106 ⟨rfl, rfl⟩ ⟨(Nat.le_of_ble_eq_true rfl), (Nat.le_of_ble_eq_true rfl)⟩ (rR_0 X h (hS 0) Nat.one_pos Nat.one_pos) rfl hl rfl (Nat.le_of_ble_eq_true rfl) ⟨Nat.zero_le _, Nat.zero_le _⟩ dX11_visitTold_148 (fun H locs h => ?_)
      refine lv_if_le (tgt := 161) X.x X.b dX11_visitTold_151 (by decide) (fun c38 => ?_) (fun c38 => ?_)
      · have hf := wT c38 hf
        refine lv_iconst (v := 0) X.x X.b dX11_visitTold_161 (by decide) ?_
        exact wX11_visitTold_b162 hS X h (lv_sub hl [0, 1, 3] rfl) hf J1 JR
      · have hf := wF c38 hf
        refine lv_iconst (v := 1) X.x X.b dX11_visitTold_154 (by decide) ?_
        refine lv_iload X.x X.b dX11_visitTold_155 (lv_at hl 3 rfl) ?_
        refine lv_ishl X.x X.b dX11_visitTold_157 ?_
        refine lv_goto (tgt := 162) X.x X.b dX11_visitTold_158 (by decide) ?_
        exact wX11_visitTold_b162 hS X h (lv_sub hl [0, 1, 3] rfl) hf J1 JR
set_option maxHeartbeats 4000000 in
set_option maxRecDepth 20000 in
theorem kX11_visitTold (l : Launch) {k : En} {S : Nat → Prop} (hS : ∀ t, S t) {g0 : Mm} {a1 : Int32} {a2 : Int32} {res : Int32} (hf : fX11_visitTold g0 a1 a2 = some res) : Mt l yX11_visitTold cX11_visitTold 5 (some .int) (RmN 3 64) YR S k [.ref (k.1 + adR 0 0 0), .int a1, .int a2] g0 (some (.int res)) g0 := by
  refine Mt.of (by decide) (Nat.le_of_ble_eq_true rfl) ?_
  intro p e s m args below meth c ls X _ h hl
  have X : Cx YR S k p s m args meth c cX11_visitTold 5 (some .int) RX11 := X
  have hl : lv_has ls 5 [(0, .ref (k.1 + adR 0 0 0)), (1, .int a1), (2, .int a2)] := hl
  have JR : res = res := rfl
  unfold fX11_visitTold at hf
  refine lv_aload_n X.x X.b dX11_visitTold_0 rfl (lv_at hl 0 rfl) ?_
  refine lv_iload_n X.x X.b dX11_visitTold_1 rfl (lv_at hl 1 rfl) ?_
  obtain ⟨y2, e1, hf⟩ := wBd_s hf
  refine ro_callvI (As := [.int a1]) (g1 := g0) (x := y2) X h (kX11_isVisit l hS e1) mv_X11_isVisit lk_X11_114 ⟨rfl, rfl⟩ ⟨(Nat.le_of_ble_eq_true rfl), (Nat.le_of_ble_eq_true rfl)⟩ (rR_0 X h (hS 0) Nat.one_pos Nat.one_pos) rfl hl rfl (Nat.le_of_ble_eq_true rfl) ⟨Nat.zero_le _, Nat.zero_le _⟩ dX11_visitTold_2 (fun H locs h => ?_)
  refine lv_if_ne (tgt := 10) X.x X.b dX11_visitTold_5 (by decide) (fun c3 => ?_) (fun c3 => ?_)
  · have hf := wF c3 hf
    refine lv_iconst (v := 0) X.x X.b dX11_visitTold_10 (by decide) ?_
    obtain ⟨y4, e5, hf⟩ := wLe_s hf
    refine lv_nmi e5 ?_
    refine lv_istore_n (lv' := [(3, .int y4), (0, .ref (k.1 + adR 0 0 0)), (1, .int a1), (2, .int a2)]) X.x X.b dX11_visitTold_11 rfl hl (by decide) rfl (fun ls hl => ?_)
    refine lv_iload_n X.x X.b dX11_visitTold_12 rfl (lv_at hl 3 rfl) ?_
    by_cases c6 : a2 = (0 : Int32)
    · have hf := wT c6 hf
      refine lv_tableIn (off := 59) (tgt := 72) X.x X.b dX11_visitTold_13 (by rw [c6]; decide) (by rw [c6]; decide) (by rw [c6]; rfl) (by decide) ?_
      refine lv_aload_n X.x X.b dX11_visitTold_72 rfl (lv_at hl 1 rfl) ?_
      refine lv_iload_n X.x X.b dX11_visitTold_73 rfl (lv_at hl 2 rfl) ?_
      refine lv_iconst (v := 0) X.x X.b dX11_visitTold_74 (by decide) ?_
      obtain ⟨y8, e7, hf⟩ := wBd_s hf
      refine ro_callvI (As := [.int a1, .int (0 : Int32)]) (g1 := g0) (x := y8) X h (kX11_of l hS e7) mv_X11_of lk_X11_106 ⟨rfl, rfl⟩ ⟨(Nat.le_of_ble_eq_true rfl), (Nat.le_of_ble_eq_true rfl)⟩ (rR_0 X h (hS 0) Nat.one_pos Nat.one_pos) rfl hl rfl (Nat.le_of_ble_eq_true rfl) ⟨Nat.zero_le _, Nat.zero_le _⟩ dX11_visitTold_75 (fun H locs h => ?_)
      cases (Option.some.inj hf).trans JR
      exact ro_iret X h dX11_visitTold_78
    · have hf := wF c6 hf
      by_cases c9 : a2 = (1 : Int32)
      · have hf := wT c9 hf
        refine lv_tableIn (off := 66) (tgt := 79) X.x X.b dX11_visitTold_13 (by rw [c9]; decide) (by rw [c9]; decide) (by rw [c9]; rfl) (by decide) ?_
        refine lv_aload_n X.x X.b dX11_visitTold_79 rfl (lv_at hl 1 rfl) ?_
        refine lv_iload_n X.x X.b dX11_visitTold_80 rfl (lv_at hl 2 rfl) ?_
        refine lv_bipush (v := 6) X.x X.b dX11_visitTold_81 (by decide) ?_
        obtain ⟨y11, e10, hf⟩ := wBd_s hf
        refine ro_callvI (As := [.int a1, .int (6 : Int32)]) (g1 := g0) (x := y11) X h (kX11_of l hS e10) mv_X11_of lk_X11_106 ⟨rfl, rfl⟩ ⟨(Nat.le_of_ble_eq_true rfl), (Nat.le_of_ble_eq_true rfl)⟩ (rR_0 X h (hS 0) Nat.one_pos Nat.one_pos) rfl hl rfl (Nat.le_of_ble_eq_true rfl) ⟨Nat.zero_le _, Nat.zero_le _⟩ dX11_visitTold_83 (fun H locs h => ?_)
        cases (Option.some.inj hf).trans JR
        exact ro_iret X h dX11_visitTold_86
      · have hf := wF c9 hf
        by_cases c12 : a2 = (2 : Int32)
        · have hf := wT c12 hf
          refine lv_tableIn (off := 74) (tgt := 87) X.x X.b dX11_visitTold_13 (by rw [c12]; decide) (by rw [c12]; decide) (by rw [c12]; rfl) (by decide) ?_
          refine lv_aload_n X.x X.b dX11_visitTold_87 rfl (lv_at hl 1 rfl) ?_
          refine lv_iload_n X.x X.b dX11_visitTold_88 rfl (lv_at hl 2 rfl) ?_
          refine lv_bipush (v := 7) X.x X.b dX11_visitTold_89 (by decide) ?_
          obtain ⟨y14, e13, hf⟩ := wBd_s hf
          refine ro_callvI (As := [.int a1, .int (7 : Int32)]) (g1 := g0) (x := y14) X h (kX11_of l hS e13) mv_X11_of lk_X11_106 ⟨rfl, rfl⟩ ⟨(Nat.le_of_ble_eq_true rfl), (Nat.le_of_ble_eq_true rfl)⟩ (rR_0 X h (hS 0) Nat.one_pos Nat.one_pos) rfl hl rfl (Nat.le_of_ble_eq_true rfl) ⟨Nat.zero_le _, Nat.zero_le _⟩ dX11_visitTold_91 (fun H locs h => ?_)
          cases (Option.some.inj hf).trans JR
          exact ro_iret X h dX11_visitTold_94
        · have hf := wF c12 hf
          by_cases c15 : a2 = (3 : Int32)
          · have hf := wT c15 hf
            refine lv_tableIn (off := 82) (tgt := 95) X.x X.b dX11_visitTold_13 (by rw [c15]; decide) (by rw [c15]; decide) (by rw [c15]; rfl) (by decide) ?_
            refine lv_aload_n X.x X.b dX11_visitTold_95 rfl (lv_at hl 1 rfl) ?_
            refine lv_iload_n X.x X.b dX11_visitTold_96 rfl (lv_at hl 2 rfl) ?_
            refine lv_bipush (v := 8) X.x X.b dX11_visitTold_97 (by decide) ?_
            obtain ⟨y17, e16, hf⟩ := wBd_s hf
            refine ro_callvI (As := [.int a1, .int (8 : Int32)]) (g1 := g0) (x := y17) X h (kX11_of l hS e16) mv_X11_of lk_X11_106 ⟨rfl, rfl⟩ ⟨(Nat.le_of_ble_eq_true rfl), (Nat.le_of_ble_eq_true rfl)⟩ (rR_0 X h (hS 0) Nat.one_pos Nat.one_pos) rfl hl rfl (Nat.le_of_ble_eq_true rfl) ⟨Nat.zero_le _, Nat.zero_le _⟩ dX11_visitTold_99 (fun H locs h => ?_)
            cases (Option.some.inj hf).trans JR
            exact ro_iret X h dX11_visitTold_102
          · have hf := wF c15 hf
            by_cases c18 : a2 = (4 : Int32)
            · have hf := wT c18 hf
              refine lv_tableIn (off := 90) (tgt := 103) X.x X.b dX11_visitTold_13 (by rw [c18]; decide) (by rw [c18]; decide) (by rw [c18]; rfl) (by decide) ?_
              refine lv_aload_n X.x X.b dX11_visitTold_103 rfl (lv_at hl 1 rfl) ?_
              refine lv_iload_n X.x X.b dX11_visitTold_104 rfl (lv_at hl 2 rfl) ?_
              obtain ⟨y20, e19, hf⟩ := wBd_s hf
              refine ro_callvI (As := [.int a1]) (g1 := g0) (x := y20) X h (kX11_come l hS e19) mv_X11_come lk_X11_110 ⟨rfl, rfl⟩ ⟨(Nat.le_of_ble_eq_true rfl), (Nat.le_of_ble_eq_true rfl)⟩ (rR_0 X h (hS 0) Nat.one_pos Nat.one_pos) rfl hl rfl (Nat.le_of_ble_eq_true rfl) ⟨Nat.zero_le _, Nat.zero_le _⟩ dX11_visitTold_105 (fun H locs h => ?_)
              cases (Option.some.inj hf).trans JR
              exact ro_iret X h dX11_visitTold_108
            · have hf := wF c18 hf
              by_cases c21 : a2 = (5 : Int32)
              · have hf := wT c21 hf
                refine lv_tableIn (off := 96) (tgt := 109) X.x X.b dX11_visitTold_13 (by rw [c21]; decide) (by rw [c21]; decide) (by rw [c21]; rfl) (by decide) ?_
                refine lv_aload_n X.x X.b dX11_visitTold_109 rfl (lv_at hl 1 rfl) ?_
                refine lv_iload_n X.x X.b dX11_visitTold_110 rfl (lv_at hl 2 rfl) ?_
                refine lv_iconst (v := 2) X.x X.b dX11_visitTold_111 (by decide) ?_
                obtain ⟨y23, e22, hf⟩ := wBd_s hf
                refine ro_callvI (As := [.int a1, .int (2 : Int32)]) (g1 := g0) (x := y23) X h (kX11_of l hS e22) mv_X11_of lk_X11_106 ⟨rfl, rfl⟩ ⟨(Nat.le_of_ble_eq_true rfl), (Nat.le_of_ble_eq_true rfl)⟩ (rR_0 X h (hS 0) Nat.one_pos Nat.one_pos) rfl hl rfl (Nat.le_of_ble_eq_true rfl) ⟨Nat.zero_le _, Nat.zero_le _⟩ dX11_visitTold_112 (fun H locs h => ?_)
                cases (Option.some.inj hf).trans JR
                exact ro_iret X h dX11_visitTold_115
              · have hf := wF c21 hf
                by_cases c24 : a2 = (6 : Int32)
                · have hf := wT c24 hf
                  refine lv_tableIn (off := 103) (tgt := 116) X.x X.b dX11_visitTold_13 (by rw [c24]; decide) (by rw [c24]; decide) (by rw [c24]; rfl) (by decide) ?_
                  refine lv_aload_n X.x X.b dX11_visitTold_116 rfl (lv_at hl 1 rfl) ?_
                  refine lv_iload_n X.x X.b dX11_visitTold_117 rfl (lv_at hl 2 rfl) ?_
                  refine lv_bipush (v := 9) X.x X.b dX11_visitTold_118 (by decide) ?_
                  obtain ⟨y26, e25, hf⟩ := wBd_s hf
                  refine ro_callvI (As := [.int a1, .int (9 : Int32)]) (g1 := g0) (x := y26) X h (kX11_of l hS e25) mv_X11_of lk_X11_106 ⟨rfl, rfl⟩ ⟨(Nat.le_of_ble_eq_true rfl), (Nat.le_of_ble_eq_true rfl)⟩ (rR_0 X h (hS 0) Nat.one_pos Nat.one_pos) rfl hl rfl (Nat.le_of_ble_eq_true rfl) ⟨Nat.zero_le _, Nat.zero_le _⟩ dX11_visitTold_120 (fun H locs h => ?_)
                  cases (Option.some.inj hf).trans JR
                  exact ro_iret X h dX11_visitTold_123
                · have hf := wF c24 hf
                  by_cases c27 : a2 = (7 : Int32)
                  · have hf := wT c27 hf
                    refine lv_tableIn (off := 111) (tgt := 124) X.x X.b dX11_visitTold_13 (by rw [c27]; decide) (by rw [c27]; decide) (by rw [c27]; rfl) (by decide) ?_
                    refine lv_aload_n X.x X.b dX11_visitTold_124 rfl (lv_at hl 1 rfl) ?_
                    refine lv_iload_n X.x X.b dX11_visitTold_125 rfl (lv_at hl 2 rfl) ?_
                    obtain ⟨y29, e28, hf⟩ := wBd_s hf
                    refine ro_callvI (As := [.int a1]) (g1 := g0) (x := y29) X h (kX11_lateOf l hS e28) mv_X11_lateOf lk_X11_263 ⟨rfl, rfl⟩ ⟨(Nat.le_of_ble_eq_true rfl), (Nat.le_of_ble_eq_true rfl)⟩ (rR_0 X h (hS 0) Nat.one_pos Nat.one_pos) rfl hl rfl (Nat.le_of_ble_eq_true rfl) ⟨Nat.zero_le _, Nat.zero_le _⟩ dX11_visitTold_126 (fun H locs h => ?_)
                    cases (Option.some.inj hf).trans JR
                    exact ro_iret X h dX11_visitTold_129
                  · have hf := wF c27 hf
                    by_cases c30 : a2 = (8 : Int32)
                    · have hf := wT c30 hf
                      refine lv_tableIn (off := 117) (tgt := 130) X.x X.b dX11_visitTold_13 (by rw [c30]; decide) (by rw [c30]; decide) (by rw [c30]; rfl) (by decide) ?_
                      refine lv_iconst (v := 0) X.x X.b dX11_visitTold_130 (by decide) ?_
                      obtain ⟨y31, e32, hf⟩ := wLe_s hf
                      refine lv_nmi e32 ?_
                      refine lv_istore (lv' := [(4, .int y31), (3, .int y4), (0, .ref (k.1 + adR 0 0 0)), (1, .int a1), (2, .int a2)]) X.x X.b dX11_visitTold_131 hl (by decide) rfl (fun ls hl => ?_)
                      exact wX11_visitTold_L133 hS X JR _ _ _ _ _ _ h (lv_sub hl [2, 3, 1, 0] rfl) hf
                    · have hf := wF c30 hf
                      by_cases c43 : a2 = (9 : Int32)
                      · have hf := wT c43 hf
                        refine lv_tableIn (off := 159) (tgt := 172) X.x X.b dX11_visitTold_13 (by rw [c43]; decide) (by rw [c43]; decide) (by rw [c43]; rfl) (by decide) ?_
                        refine lv_aload_n X.x X.b dX11_visitTold_172 rfl (lv_at hl 1 rfl) ?_
                        refine lv_iload_n X.x X.b dX11_visitTold_173 rfl (lv_at hl 2 rfl) ?_
                        refine lv_iconst (v := 4) X.x X.b dX11_visitTold_174 (by decide) ?_
                        obtain ⟨y45, e44, hf⟩ := wBd_s hf
                        refine ro_callvI (As := [.int a1, .int (4 : Int32)]) (g1 := g0) (x := y45) X h (kX11_of l hS e44) mv_X11_of lk_X11_106 ⟨rfl, rfl⟩ ⟨(Nat.le_of_ble_eq_true rfl), (Nat.le_of_ble_eq_true rfl)⟩ (rR_0 X h (hS 0) Nat.one_pos Nat.one_pos) rfl hl rfl (Nat.le_of_ble_eq_true rfl) ⟨Nat.zero_le _, Nat.zero_le _⟩ dX11_visitTold_175 (fun H locs h => ?_)
                        cases (Option.some.inj hf).trans JR
                        exact ro_iret X h dX11_visitTold_178
                      · have hf := wF c43 hf
                        by_cases c46 : a2 = (10 : Int32)
                        · have hf := wT c46 hf
                          refine lv_tableIn (off := 166) (tgt := 179) X.x X.b dX11_visitTold_13 (by rw [c46]; decide) (by rw [c46]; decide) (by rw [c46]; rfl) (by decide) ?_
                          refine lv_aload_n X.x X.b dX11_visitTold_179 rfl (lv_at hl 1 rfl) ?_
                          refine lv_iload_n X.x X.b dX11_visitTold_180 rfl (lv_at hl 2 rfl) ?_
                          obtain ⟨y48, e47, hf⟩ := wBd_s hf
                          refine ro_callvI (As := [.int a1]) (g1 := g0) (x := y48) X h (kX11_limit l hS e47) mv_X11_limit lk_X11_192 ⟨rfl, rfl⟩ ⟨(Nat.le_of_ble_eq_true rfl), (Nat.le_of_ble_eq_true rfl)⟩ (rR_0 X h (hS 0) Nat.one_pos Nat.one_pos) rfl hl rfl (Nat.le_of_ble_eq_true rfl) ⟨Nat.zero_le _, Nat.zero_le _⟩ dX11_visitTold_181 (fun H locs h => ?_)
                          cases (Option.some.inj hf).trans JR
                          exact ro_iret X h dX11_visitTold_184
                        · have hf := wF c46 hf
                          refine lv_tableOut (tgt := 185) X.x X.b dX11_visitTold_13 (by have q0 := lv_neT c6 (a := 0) rfl; have q1 := lv_neT c9 (a := 1) rfl; have q2 := lv_neT c12 (a := 2) rfl; have q3 := lv_neT c15 (a := 3) rfl; have q4 := lv_neT c18 (a := 4) rfl; have q5 := lv_neT c21 (a := 5) rfl; have q6 := lv_neT c24 (a := 6) rfl; have q7 := lv_neT c27 (a := 7) rfl; have q8 := lv_neT c30 (a := 8) rfl; have q9 := lv_neT c43 (a := 9) rfl; have q10 := lv_neT c46 (a := 10) rfl; omega) (by decide) ?_
                          refine lv_bipush (v := (-2)) X.x X.b dX11_visitTold_185 (by decide) ?_
                          cases (Option.some.inj hf).trans JR
                          exact ro_iret X h dX11_visitTold_187
  · have hf := wT c3 hf
    refine lv_iconst (v := (-1)) X.x X.b dX11_visitTold_8 (by decide) ?_
    cases (Option.some.inj hf).trans JR
    exact ro_iret X h dX11_visitTold_9
set_option maxHeartbeats 4000000 in
set_option maxRecDepth 20000 in
theorem kX11_cause (l : Launch) {k : En} {S : Nat → Prop} (hS : ∀ t, S t) {g0 : Mm} {a1 : Int32} {a2 : Int32} {res : Int32} (hf : fX11_cause g0 a1 a2 = some res) : Mt l yX11_cause cX11_cause 3 (some .int) (RmN 2 43) YR S k [.ref (k.1 + adR 0 0 0), .int a1, .int a2] g0 (some (.int res)) g0 := by
  refine Mt.of (by decide) (Nat.le_of_ble_eq_true rfl) ?_
  intro p e s m args below meth c ls X _ h hl
  have X : Cx YR S k p s m args meth c cX11_cause 3 (some .int) RX11 := X
  have hl : lv_has ls 3 [(0, .ref (k.1 + adR 0 0 0)), (1, .int a1), (2, .int a2)] := hl
  have JR : res = res := rfl
  unfold fX11_cause at hf
  refine lv_aload_n X.x X.b dX11_cause_0 rfl (lv_at hl 0 rfl) ?_
  refine lv_iload_n X.x X.b dX11_cause_1 rfl (lv_at hl 1 rfl) ?_
  obtain ⟨y2, e1, hf⟩ := wBd_s hf
  refine ro_callvI (As := [.int a1]) (g1 := g0) (x := y2) X h (kX11_isVisit l hS e1) mv_X11_isVisit lk_X11_114 ⟨rfl, rfl⟩ ⟨(Nat.le_of_ble_eq_true rfl), (Nat.le_of_ble_eq_true rfl)⟩ (rR_0 X h (hS 0) Nat.one_pos Nat.one_pos) rfl hl rfl (Nat.le_of_ble_eq_true rfl) ⟨Nat.zero_le _, Nat.zero_le _⟩ dX11_cause_2 (fun H locs h => ?_)
  refine lv_if_ne (tgt := 12) X.x X.b dX11_cause_5 (by decide) (fun c3 => ?_) (fun c3 => ?_)
  · have hf := wF c3 hf
    refine lv_iload_n X.x X.b dX11_cause_12 rfl (lv_at hl 2 rfl) ?_
    refine lv_iconst (v := 0) X.x X.b dX11_cause_13 (by decide) ?_
    refine lv_bipush (v := 8) X.x X.b dX11_cause_14 (by decide) ?_
    obtain ⟨y5, e4, hf⟩ := wBd_s hf
    refine ro_callsI (As := [.int a2, .int (0 : Int32), .int (8 : Int32)]) (g1 := g0) (x := y5) X h (kX11_in l hS e4) mv_X11_in lk_X11_99 ⟨rfl, rfl⟩ ⟨(Nat.le_of_ble_eq_true rfl), (Nat.le_of_ble_eq_true rfl)⟩ rfl hl rfl (Nat.le_of_ble_eq_true rfl) ⟨Nat.zero_le _, Nat.zero_le _⟩ dX11_cause_16 (fun H locs h => ?_)
    refine lv_if_eq (tgt := 34) X.x X.b dX11_cause_19 (by decide) (fun c6 => ?_) (fun c6 => ?_)
    · have hf := wT c6 hf
      refine lv_bipush (v := (-2)) X.x X.b dX11_cause_34 (by decide) ?_
      cases (Option.some.inj hf).trans JR
      exact ro_iret X h dX11_cause_36
    · have hf := wF c6 hf
      refine lv_aload_n X.x X.b dX11_cause_22 rfl (lv_at hl 0 rfl) ?_
      refine lv_iload_n X.x X.b dX11_cause_23 rfl (lv_at hl 1 rfl) ?_
      refine lv_bipush (v := 19) X.x X.b dX11_cause_24 (by decide) ?_
      refine lv_iload_n X.x X.b dX11_cause_26 rfl (lv_at hl 2 rfl) ?_
      refine lv_iadd X.x X.b dX11_cause_27 ?_
      obtain ⟨y8, e7, hf⟩ := wBd_s hf
      refine ro_callvI (As := [.int a1, .int ((19 : Int32) + a2)]) (g1 := g0) (x := y8) X h (kX11_of l hS e7) mv_X11_of lk_X11_106 ⟨rfl, rfl⟩ ⟨(Nat.le_of_ble_eq_true rfl), (Nat.le_of_ble_eq_true rfl)⟩ (rR_0 X h (hS 0) Nat.one_pos Nat.one_pos) rfl hl rfl (Nat.le_of_ble_eq_true rfl) ⟨Nat.zero_le _, Nat.zero_le _⟩ dX11_cause_28 (fun H locs h => ?_)
      refine lv_goto (tgt := 36) X.x X.b dX11_cause_31 (by decide) ?_
      cases (Option.some.inj hf).trans JR
      exact ro_iret X h dX11_cause_36
  · have hf := wT c3 hf
    refine lv_iconst (v := (-1)) X.x X.b dX11_cause_8 (by decide) ?_
    refine lv_goto (tgt := 36) X.x X.b dX11_cause_9 (by decide) ?_
    cases (Option.some.inj hf).trans JR
    exact ro_iret X h dX11_cause_36
set_option maxHeartbeats 4000000 in
set_option maxRecDepth 20000 in
theorem kX11_feedTold (l : Launch) {k : En} {S : Nat → Prop} (hS : ∀ t, S t) {g0 : Mm} {a1 : Int32} {a2 : Int32} {res : Int32} (hf : fX11_feedTold g0 a1 a2 = some res) : Mt l yX11_feedTold cX11_feedTold 4 (some .int) (RmN 1 22) YR S k [.ref (k.1 + adR 0 0 0), .int a1, .int a2] g0 (some (.int res)) g0 := by
  refine Mt.of (by decide) (Nat.le_of_ble_eq_true rfl) ?_
  intro p e s m args below meth c ls X _ h hl
  have X : Cx YR S k p s m args meth c cX11_feedTold 4 (some .int) RX11 := X
  have hl : lv_has ls 4 [(0, .ref (k.1 + adR 0 0 0)), (1, .int a1), (2, .int a2)] := hl
  have JR : res = res := rfl
  unfold fX11_feedTold at hf
  refine lv_iload_n X.x X.b dX11_feedTold_0 rfl (lv_at hl 1 rfl) ?_
  refine lv_iconst (v := 0) X.x X.b dX11_feedTold_1 (by decide) ?_
  refine lv_aload_n X.x X.b dX11_feedTold_2 rfl (lv_at hl 0 rfl) ?_
  refine gR_0_2 X h (hS 0) Nat.one_pos Nat.one_pos lk_X11_124 dX11_feedTold_3 ?_
  refine lv_iconst (v := 1) X.x X.b dX11_feedTold_6 (by decide) ?_
  refine lv_isub X.x X.b dX11_feedTold_7 ?_
  obtain ⟨y2, e1, hf⟩ := wBd_s hf
  refine ro_callsI (As := [.int a1, .int (0 : Int32), .int ((g0 0 0 0 2) - (1 : Int32))]) (g1 := g0) (x := y2) X h (kX11_in l hS e1) mv_X11_in lk_X11_99 ⟨rfl, rfl⟩ ⟨(Nat.le_of_ble_eq_true rfl), (Nat.le_of_ble_eq_true rfl)⟩ rfl hl rfl (Nat.le_of_ble_eq_true rfl) ⟨Nat.zero_le _, Nat.zero_le _⟩ dX11_feedTold_8 (fun H locs h => ?_)
  refine lv_if_ne (tgt := 16) X.x X.b dX11_feedTold_11 (by decide) (fun c3 => ?_) (fun c3 => ?_)
  · have hf := wF c3 hf
    refine lv_sipush (v := 360) X.x X.b dX11_feedTold_16 (by decide) ?_
    refine lv_bipush (v := 6) X.x X.b dX11_feedTold_19 (by decide) ?_
    refine lv_iload_n X.x X.b dX11_feedTold_21 rfl (lv_at hl 1 rfl) ?_
    refine lv_imul X.x X.b dX11_feedTold_22 ?_
    refine lv_iadd X.x X.b dX11_feedTold_23 ?_
    obtain ⟨y4, e5, hf⟩ := wLe_s hf
    refine lv_nmi e5 ?_
    refine lv_istore_n (lv' := [(3, .int y4), (0, .ref (k.1 + adR 0 0 0)), (1, .int a1), (2, .int a2)]) X.x X.b dX11_feedTold_24 rfl hl (by decide) rfl (fun ls hl => ?_)
    refine lv_iload_n X.x X.b dX11_feedTold_25 rfl (lv_at hl 3 rfl) ?_
    by_cases c6 : a2 = (0 : Int32)
    · have hf := wT c6 hf
      refine lv_tableIn (off := 34) (tgt := 60) X.x X.b dX11_feedTold_26 (by rw [c6]; decide) (by rw [c6]; decide) (by rw [c6]; rfl) (by decide) ?_
      refine lv_aload_n X.x X.b dX11_feedTold_60 rfl (lv_at hl 1 rfl) ?_
      refine gR_0_0 X h (hS 0) Nat.one_pos Nat.one_pos lk_X11_7 dX11_feedTold_61 ?_
      refine lv_iload_n X.x X.b dX11_feedTold_64 rfl (lv_at hl 0 rfl) ?_
      refine lv_iload_n X.x X.b dX11_feedTold_65 rfl (lv_at hl 3 rfl) ?_
      refine lv_iadd X.x X.b dX11_feedTold_66 ?_
      obtain ⟨b7, hf⟩ := wGi_s hf
      refine aR_1 X h (hS 1) Nat.one_pos Nat.one_pos b7 dX11_feedTold_67 ?_
      cases (Option.some.inj hf).trans JR
      exact ro_iret X h dX11_feedTold_68
    · have hf := wF c6 hf
      by_cases c8 : a2 = (1 : Int32)
      · have hf := wT c8 hf
        refine lv_tableIn (off := 34) (tgt := 60) X.x X.b dX11_feedTold_26 (by rw [c8]; decide) (by rw [c8]; decide) (by rw [c8]; rfl) (by decide) ?_
        refine lv_aload_n X.x X.b dX11_feedTold_60 rfl (lv_at hl 1 rfl) ?_
        refine gR_0_0 X h (hS 0) Nat.one_pos Nat.one_pos lk_X11_7 dX11_feedTold_61 ?_
        refine lv_iload_n X.x X.b dX11_feedTold_64 rfl (lv_at hl 0 rfl) ?_
        refine lv_iload_n X.x X.b dX11_feedTold_65 rfl (lv_at hl 3 rfl) ?_
        refine lv_iadd X.x X.b dX11_feedTold_66 ?_
        obtain ⟨b9, hf⟩ := wGi_s hf
        refine aR_1 X h (hS 1) Nat.one_pos Nat.one_pos b9 dX11_feedTold_67 ?_
        cases (Option.some.inj hf).trans JR
        exact ro_iret X h dX11_feedTold_68
      · have hf := wF c8 hf
        by_cases c10 : a2 = (2 : Int32)
        · have hf := wT c10 hf
          refine lv_tableIn (off := 34) (tgt := 60) X.x X.b dX11_feedTold_26 (by rw [c10]; decide) (by rw [c10]; decide) (by rw [c10]; rfl) (by decide) ?_
          refine lv_aload_n X.x X.b dX11_feedTold_60 rfl (lv_at hl 1 rfl) ?_
          refine gR_0_0 X h (hS 0) Nat.one_pos Nat.one_pos lk_X11_7 dX11_feedTold_61 ?_
          refine lv_iload_n X.x X.b dX11_feedTold_64 rfl (lv_at hl 0 rfl) ?_
          refine lv_iload_n X.x X.b dX11_feedTold_65 rfl (lv_at hl 3 rfl) ?_
          refine lv_iadd X.x X.b dX11_feedTold_66 ?_
          obtain ⟨b11, hf⟩ := wGi_s hf
          refine aR_1 X h (hS 1) Nat.one_pos Nat.one_pos b11 dX11_feedTold_67 ?_
          cases (Option.some.inj hf).trans JR
          exact ro_iret X h dX11_feedTold_68
        · have hf := wF c10 hf
          by_cases c12 : a2 = (3 : Int32)
          · have hf := wT c12 hf
            refine lv_tableIn (off := 43) (tgt := 69) X.x X.b dX11_feedTold_26 (by rw [c12]; decide) (by rw [c12]; decide) (by rw [c12]; rfl) (by decide) ?_
            refine lv_aload_n X.x X.b dX11_feedTold_69 rfl (lv_at hl 1 rfl) ?_
            refine gR_0_0 X h (hS 0) Nat.one_pos Nat.one_pos lk_X11_7 dX11_feedTold_70 ?_
            refine lv_iload_n X.x X.b dX11_feedTold_73 rfl (lv_at hl 0 rfl) ?_
            refine lv_iconst (v := 4) X.x X.b dX11_feedTold_74 (by decide) ?_
            refine lv_iadd X.x X.b dX11_feedTold_75 ?_
            obtain ⟨b13, hf⟩ := wGi_s hf
            refine aR_1 X h (hS 1) Nat.one_pos Nat.one_pos b13 dX11_feedTold_76 ?_
            cases (Option.some.inj hf).trans JR
            exact ro_iret X h dX11_feedTold_77
          · have hf := wF c12 hf
            by_cases c14 : a2 = (4 : Int32)
            · have hf := wT c14 hf
              refine lv_tableIn (off := 52) (tgt := 78) X.x X.b dX11_feedTold_26 (by rw [c14]; decide) (by rw [c14]; decide) (by rw [c14]; rfl) (by decide) ?_
              refine lv_aload_n X.x X.b dX11_feedTold_78 rfl (lv_at hl 1 rfl) ?_
              refine gR_0_0 X h (hS 0) Nat.one_pos Nat.one_pos lk_X11_7 dX11_feedTold_79 ?_
              refine lv_iload_n X.x X.b dX11_feedTold_82 rfl (lv_at hl 0 rfl) ?_
              refine lv_iconst (v := 5) X.x X.b dX11_feedTold_83 (by decide) ?_
              refine lv_iadd X.x X.b dX11_feedTold_84 ?_
              obtain ⟨b15, hf⟩ := wGi_s hf
              refine aR_1 X h (hS 1) Nat.one_pos Nat.one_pos b15 dX11_feedTold_85 ?_
              cases (Option.some.inj hf).trans JR
              exact ro_iret X h dX11_feedTold_86
            · have hf := wF c14 hf
              refine lv_tableOut (tgt := 87) X.x X.b dX11_feedTold_26 (by have q0 := lv_neT c6 (a := 0) rfl; have q1 := lv_neT c8 (a := 1) rfl; have q2 := lv_neT c10 (a := 2) rfl; have q3 := lv_neT c12 (a := 3) rfl; have q4 := lv_neT c14 (a := 4) rfl; omega) (by decide) ?_
              refine lv_bipush (v := (-2)) X.x X.b dX11_feedTold_87 (by decide) ?_
              cases (Option.some.inj hf).trans JR
              exact ro_iret X h dX11_feedTold_89
  · have hf := wT c3 hf
    refine lv_iconst (v := (-1)) X.x X.b dX11_feedTold_14 (by decide) ?_
    cases (Option.some.inj hf).trans JR
    exact ro_iret X h dX11_feedTold_15
end WK
