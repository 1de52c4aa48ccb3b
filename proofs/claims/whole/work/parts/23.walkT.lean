theorem dX5_isBlank_0 : decode cX5_isBlank 0 = .ok (.iload_n 0, 1) := by decide +kernel
theorem dX5_isBlank_1 : decode cX5_isBlank 1 = .ok (.bipush 32, 2) := by decide +kernel
theorem dX5_isBlank_3 : decode cX5_isBlank 3 = .ok (.if_icmp .eq 9, 3) := by decide +kernel
theorem dX5_isBlank_6 : decode cX5_isBlank 6 = .ok (.iload_n 0, 1) := by decide +kernel
theorem dX5_isBlank_7 : decode cX5_isBlank 7 = .ok (.bipush 10, 2) := by decide +kernel
theorem dX5_isBlank_9 : decode cX5_isBlank 9 = .ok (.if_icmp .ne 7, 3) := by decide +kernel
theorem dX5_isBlank_12 : decode cX5_isBlank 12 = .ok (.iconst 1, 1) := by decide +kernel
theorem dX5_isBlank_13 : decode cX5_isBlank 13 = .ok (.goto 4, 3) := by decide +kernel
theorem dX5_isBlank_16 : decode cX5_isBlank 16 = .ok (.iconst 0, 1) := by decide +kernel
theorem dX5_isBlank_17 : decode cX5_isBlank 17 = .ok (.ireturn, 1) := by decide +kernel
theorem dX5_isLetter_0 : decode cX5_isLetter 0 = .ok (.iload_n 0, 1) := by decide +kernel
theorem dX5_isLetter_1 : decode cX5_isLetter 1 = .ok (.bipush 97, 2) := by decide +kernel
theorem dX5_isLetter_3 : decode cX5_isLetter 3 = .ok (.if_icmp .lt 13, 3) := by decide +kernel
theorem dX5_isLetter_6 : decode cX5_isLetter 6 = .ok (.iload_n 0, 1) := by decide +kernel
theorem dX5_isLetter_7 : decode cX5_isLetter 7 = .ok (.bipush 122, 2) := by decide +kernel
theorem dX5_isLetter_9 : decode cX5_isLetter 9 = .ok (.if_icmp .gt 7, 3) := by decide +kernel
theorem dX5_isLetter_12 : decode cX5_isLetter 12 = .ok (.iconst 1, 1) := by decide +kernel
theorem dX5_isLetter_13 : decode cX5_isLetter 13 = .ok (.goto 4, 3) := by decide +kernel
theorem dX5_isLetter_16 : decode cX5_isLetter 16 = .ok (.iconst 0, 1) := by decide +kernel
theorem dX5_isLetter_17 : decode cX5_isLetter 17 = .ok (.ireturn, 1) := by decide +kernel
theorem dX5_wordOf_0 : decode cX5_wordOf 0 = .ok (.iconst 0, 1) := by decide +kernel
theorem dX5_wordOf_1 : decode cX5_wordOf 1 = .ok (.istore_n 3, 1) := by decide +kernel
theorem dX5_wordOf_2 : decode cX5_wordOf 2 = .ok (.iload_n 3, 1) := by decide +kernel
theorem dX5_wordOf_3 : decode cX5_wordOf 3 = .ok (.bipush 14, 2) := by decide +kernel
theorem dX5_wordOf_5 : decode cX5_wordOf 5 = .ok (.if_icmp .ge 89, 3) := by decide +kernel
theorem dX5_wordOf_8 : decode cX5_wordOf 8 = .ok (.iload_n 2, 1) := by decide +kernel
theorem dX5_wordOf_9 : decode cX5_wordOf 9 = .ok (.iconst 5, 1) := by decide +kernel
theorem dX5_wordOf_10 : decode cX5_wordOf 10 = .ok (.if_icmp .ge 84, 3) := by decide +kernel
theorem dX5_wordOf_13 : decode cX5_wordOf 13 = .ok (.iconst 1, 1) := by decide +kernel
theorem dX5_wordOf_14 : decode cX5_wordOf 14 = .ok (.istore 4, 2) := by decide +kernel
theorem dX5_wordOf_16 : decode cX5_wordOf 16 = .ok (.iconst 0, 1) := by decide +kernel
theorem dX5_wordOf_17 : decode cX5_wordOf 17 = .ok (.istore 5, 2) := by decide +kernel
theorem dX5_wordOf_19 : decode cX5_wordOf 19 = .ok (.iload 5, 2) := by decide +kernel
theorem dX5_wordOf_21 : decode cX5_wordOf 21 = .ok (.iconst 5, 1) := by decide +kernel
theorem dX5_wordOf_22 : decode cX5_wordOf 22 = .ok (.if_icmp .ge 59, 3) := by decide +kernel
theorem dX5_wordOf_25 : decode cX5_wordOf 25 = .ok (.iload 4, 2) := by decide +kernel
theorem dX5_wordOf_27 : decode cX5_wordOf 27 = .ok (.ifCond .eq 54, 3) := by decide +kernel
theorem dX5_wordOf_30 : decode cX5_wordOf 30 = .ok (.iload 5, 2) := by decide +kernel
theorem dX5_wordOf_32 : decode cX5_wordOf 32 = .ok (.iload_n 2, 1) := by decide +kernel
theorem dX5_wordOf_33 : decode cX5_wordOf 33 = .ok (.if_icmp .ge 15, 3) := by decide +kernel
theorem dX5_wordOf_36 : decode cX5_wordOf 36 = .ok (.aload_n 0, 1) := by decide +kernel
theorem dX5_wordOf_37 : decode cX5_wordOf 37 = .ok (.getfield 9, 3) := by decide +kernel
theorem dX5_wordOf_40 : decode cX5_wordOf 40 = .ok (.iload_n 1, 1) := by decide +kernel
theorem dX5_wordOf_41 : decode cX5_wordOf 41 = .ok (.iload 5, 2) := by decide +kernel
theorem dX5_wordOf_43 : decode cX5_wordOf 43 = .ok (.iadd, 1) := by decide +kernel
theorem dX5_wordOf_44 : decode cX5_wordOf 44 = .ok (.iaload, 1) := by decide +kernel
theorem dX5_wordOf_45 : decode cX5_wordOf 45 = .ok (.goto 5, 3) := by decide +kernel
theorem dX5_wordOf_48 : decode cX5_wordOf 48 = .ok (.bipush 32, 2) := by decide +kernel
theorem dX5_wordOf_50 : decode cX5_wordOf 50 = .ok (.istore 6, 2) := by decide +kernel
theorem dX5_wordOf_52 : decode cX5_wordOf 52 = .ok (.ldc 108, 2) := by decide +kernel
theorem dX5_wordOf_54 : decode cX5_wordOf 54 = .ok (.iload_n 3, 1) := by decide +kernel
theorem dX5_wordOf_55 : decode cX5_wordOf 55 = .ok (.iconst 5, 1) := by decide +kernel
theorem dX5_wordOf_56 : decode cX5_wordOf 56 = .ok (.imul, 1) := by decide +kernel
theorem dX5_wordOf_57 : decode cX5_wordOf 57 = .ok (.iload 5, 2) := by decide +kernel
theorem dX5_wordOf_59 : decode cX5_wordOf 59 = .ok (.iadd, 1) := by decide +kernel
theorem dX5_wordOf_60 : decode cX5_wordOf 60 = .ok (.invokevirtual 110, 3) := by decide +kernel
theorem dX5_wordOf_63 : decode cX5_wordOf 63 = .ok (.iload 6, 2) := by decide +kernel
theorem dX5_wordOf_65 : decode cX5_wordOf 65 = .ok (.if_icmp .ne 7, 3) := by decide +kernel
theorem dX5_wordOf_68 : decode cX5_wordOf 68 = .ok (.iconst 1, 1) := by decide +kernel
theorem dX5_wordOf_69 : decode cX5_wordOf 69 = .ok (.goto 4, 3) := by decide +kernel
theorem dX5_wordOf_72 : decode cX5_wordOf 72 = .ok (.iconst 0, 1) := by decide +kernel
theorem dX5_wordOf_73 : decode cX5_wordOf 73 = .ok (.istore 4, 2) := by decide +kernel
theorem dX5_wordOf_75 : decode cX5_wordOf 75 = .ok (.iinc 5 1, 3) := by decide +kernel
theorem dX5_wordOf_78 : decode cX5_wordOf 78 = .ok (.goto (-59), 3) := by decide +kernel
theorem dX5_wordOf_81 : decode cX5_wordOf 81 = .ok (.iload 4, 2) := by decide +kernel
theorem dX5_wordOf_83 : decode cX5_wordOf 83 = .ok (.ifCond .eq 5, 3) := by decide +kernel
theorem dX5_wordOf_86 : decode cX5_wordOf 86 = .ok (.iload_n 3, 1) := by decide +kernel
theorem dX5_wordOf_87 : decode cX5_wordOf 87 = .ok (.ireturn, 1) := by decide +kernel
theorem dX5_wordOf_88 : decode cX5_wordOf 88 = .ok (.iinc 3 1, 3) := by decide +kernel
theorem dX5_wordOf_91 : decode cX5_wordOf 91 = .ok (.goto (-89), 3) := by decide +kernel
theorem dX5_wordOf_94 : decode cX5_wordOf 94 = .ok (.iconst (-1), 1) := by decide +kernel
theorem dX5_wordOf_95 : decode cX5_wordOf 95 = .ok (.ireturn, 1) := by decide +kernel
theorem dX5_readWord_0 : decode cX5_readWord 0 = .ok (.aload_n 0, 1) := by decide +kernel
theorem dX5_readWord_1 : decode cX5_readWord 1 = .ok (.getfield 19, 3) := by decide +kernel
theorem dX5_readWord_4 : decode cX5_readWord 4 = .ok (.aload_n 0, 1) := by decide +kernel
theorem dX5_readWord_5 : decode cX5_readWord 5 = .ok (.getfield 15, 3) := by decide +kernel
theorem dX5_readWord_8 : decode cX5_readWord 8 = .ok (.if_icmp .ge 31, 3) := by decide +kernel
theorem dX5_readWord_11 : decode cX5_readWord 11 = .ok (.aload_n 0, 1) := by decide +kernel
theorem dX5_readWord_12 : decode cX5_readWord 12 = .ok (.getfield 9, 3) := by decide +kernel
theorem dX5_readWord_15 : decode cX5_readWord 15 = .ok (.aload_n 0, 1) := by decide +kernel
theorem dX5_readWord_16 : decode cX5_readWord 16 = .ok (.getfield 19, 3) := by decide +kernel
theorem dX5_readWord_19 : decode cX5_readWord 19 = .ok (.iaload, 1) := by decide +kernel
theorem dX5_readWord_20 : decode cX5_readWord 20 = .ok (.invokestatic 84, 3) := by decide +kernel
theorem dX5_readWord_23 : decode cX5_readWord 23 = .ok (.ifCond .eq 16, 3) := by decide +kernel
theorem dX5_readWord_26 : decode cX5_readWord 26 = .ok (.aload_n 0, 1) := by decide +kernel
theorem dX5_readWord_27 : decode cX5_readWord 27 = .ok (.dup, 1) := by decide +kernel
theorem dX5_readWord_28 : decode cX5_readWord 28 = .ok (.getfield 19, 3) := by decide +kernel
theorem dX5_readWord_31 : decode cX5_readWord 31 = .ok (.iconst 1, 1) := by decide +kernel
theorem dX5_readWord_32 : decode cX5_readWord 32 = .ok (.iadd, 1) := by decide +kernel
theorem dX5_readWord_33 : decode cX5_readWord 33 = .ok (.putfield 19, 3) := by decide +kernel
theorem dX5_readWord_36 : decode cX5_readWord 36 = .ok (.goto (-36), 3) := by decide +kernel
theorem dX5_readWord_39 : decode cX5_readWord 39 = .ok (.aload_n 0, 1) := by decide +kernel
theorem dX5_readWord_40 : decode cX5_readWord 40 = .ok (.aload_n 0, 1) := by decide +kernel
theorem dX5_readWord_41 : decode cX5_readWord 41 = .ok (.aload_n 0, 1) := by decide +kernel
theorem dX5_readWord_42 : decode cX5_readWord 42 = .ok (.getfield 38, 3) := by decide +kernel
theorem dX5_readWord_45 : decode cX5_readWord 45 = .ok (.aload_n 0, 1) := by decide +kernel
theorem dX5_readWord_46 : decode cX5_readWord 46 = .ok (.getfield 19, 3) := by decide +kernel
theorem dX5_readWord_49 : decode cX5_readWord 49 = .ok (.aload_n 0, 1) := by decide +kernel
theorem dX5_readWord_50 : decode cX5_readWord 50 = .ok (.getfield 38, 3) := by decide +kernel
theorem dX5_readWord_53 : decode cX5_readWord 53 = .ok (.isub, 1) := by decide +kernel
theorem dX5_readWord_54 : decode cX5_readWord 54 = .ok (.invokevirtual 104, 3) := by decide +kernel
theorem dX5_readWord_57 : decode cX5_readWord 57 = .ok (.putfield 72, 3) := by decide +kernel
theorem dX5_readWord_60 : decode cX5_readWord 60 = .ok (.aload_n 0, 1) := by decide +kernel
theorem dX5_readWord_61 : decode cX5_readWord 61 = .ok (.aload_n 0, 1) := by decide +kernel
theorem dX5_readWord_62 : decode cX5_readWord 62 = .ok (.getfield 72, 3) := by decide +kernel
theorem dX5_readWord_65 : decode cX5_readWord 65 = .ok (.ifCond .ge 9, 3) := by decide +kernel
theorem dX5_readWord_68 : decode cX5_readWord 68 = .ok (.sipush 257, 3) := by decide +kernel
theorem dX5_readWord_71 : decode cX5_readWord 71 = .ok (.goto 6, 3) := by decide +kernel
theorem dX5_readWord_74 : decode cX5_readWord 74 = .ok (.sipush 259, 3) := by decide +kernel
theorem dX5_readWord_77 : decode cX5_readWord 77 = .ok (.putfield 44, 3) := by decide +kernel
theorem dX5_readWord_80 : decode cX5_readWord 80 = .ok (.return_, 1) := by decide +kernel
theorem dX5_isDigit_0 : decode cX5_isDigit 0 = .ok (.iload_n 0, 1) := by decide +kernel
theorem dX5_isDigit_1 : decode cX5_isDigit 1 = .ok (.bipush 48, 2) := by decide +kernel
theorem dX5_isDigit_3 : decode cX5_isDigit 3 = .ok (.if_icmp .lt 13, 3) := by decide +kernel
theorem dX5_isDigit_6 : decode cX5_isDigit 6 = .ok (.iload_n 0, 1) := by decide +kernel
theorem dX5_isDigit_7 : decode cX5_isDigit 7 = .ok (.bipush 57, 2) := by decide +kernel
theorem dX5_isDigit_9 : decode cX5_isDigit 9 = .ok (.if_icmp .gt 7, 3) := by decide +kernel
theorem dX5_isDigit_12 : decode cX5_isDigit 12 = .ok (.iconst 1, 1) := by decide +kernel
theorem dX5_isDigit_13 : decode cX5_isDigit 13 = .ok (.goto 4, 3) := by decide +kernel
theorem dX5_isDigit_16 : decode cX5_isDigit 16 = .ok (.iconst 0, 1) := by decide +kernel
theorem dX5_isDigit_17 : decode cX5_isDigit 17 = .ok (.ireturn, 1) := by decide +kernel
theorem dX5_readNumber_0 : decode cX5_readNumber 0 = .ok (.aload_n 0, 1) := by decide +kernel
theorem dX5_readNumber_1 : decode cX5_readNumber 1 = .ok (.iconst 0, 1) := by decide +kernel
theorem dX5_readNumber_2 : decode cX5_readNumber 2 = .ok (.putfield 72, 3) := by decide +kernel
theorem dX5_readNumber_5 : decode cX5_readNumber 5 = .ok (.aload_n 0, 1) := by decide +kernel
theorem dX5_readNumber_6 : decode cX5_readNumber 6 = .ok (.getfield 19, 3) := by decide +kernel
theorem dX5_readNumber_9 : decode cX5_readNumber 9 = .ok (.aload_n 0, 1) := by decide +kernel
theorem dX5_readNumber_10 : decode cX5_readNumber 10 = .ok (.getfield 15, 3) := by decide +kernel
theorem dX5_readNumber_13 : decode cX5_readNumber 13 = .ok (.if_icmp .ge 68, 3) := by decide +kernel
theorem dX5_readNumber_16 : decode cX5_readNumber 16 = .ok (.aload_n 0, 1) := by decide +kernel
theorem dX5_readNumber_17 : decode cX5_readNumber 17 = .ok (.getfield 9, 3) := by decide +kernel
theorem dX5_readNumber_20 : decode cX5_readNumber 20 = .ok (.aload_n 0, 1) := by decide +kernel
theorem dX5_readNumber_21 : decode cX5_readNumber 21 = .ok (.getfield 19, 3) := by decide +kernel
theorem dX5_readNumber_24 : decode cX5_readNumber 24 = .ok (.iaload, 1) := by decide +kernel
theorem dX5_readNumber_25 : decode cX5_readNumber 25 = .ok (.invokestatic 90, 3) := by decide +kernel
theorem dX5_readNumber_28 : decode cX5_readNumber 28 = .ok (.ifCond .eq 53, 3) := by decide +kernel
theorem dX5_readNumber_31 : decode cX5_readNumber 31 = .ok (.aload_n 0, 1) := by decide +kernel
theorem dX5_readNumber_32 : decode cX5_readNumber 32 = .ok (.getfield 19, 3) := by decide +kernel
theorem dX5_readNumber_35 : decode cX5_readNumber 35 = .ok (.aload_n 0, 1) := by decide +kernel
theorem dX5_readNumber_36 : decode cX5_readNumber 36 = .ok (.getfield 38, 3) := by decide +kernel
theorem dX5_readNumber_39 : decode cX5_readNumber 39 = .ok (.isub, 1) := by decide +kernel
theorem dX5_readNumber_40 : decode cX5_readNumber 40 = .ok (.iconst 4, 1) := by decide +kernel
theorem dX5_readNumber_41 : decode cX5_readNumber 41 = .ok (.if_icmp .ge 27, 3) := by decide +kernel
theorem dX5_readNumber_44 : decode cX5_readNumber 44 = .ok (.aload_n 0, 1) := by decide +kernel
theorem dX5_readNumber_45 : decode cX5_readNumber 45 = .ok (.aload_n 0, 1) := by decide +kernel
theorem dX5_readNumber_46 : decode cX5_readNumber 46 = .ok (.getfield 72, 3) := by decide +kernel
theorem dX5_readNumber_49 : decode cX5_readNumber 49 = .ok (.bipush 10, 2) := by decide +kernel
theorem dX5_readNumber_51 : decode cX5_readNumber 51 = .ok (.imul, 1) := by decide +kernel
theorem dX5_readNumber_52 : decode cX5_readNumber 52 = .ok (.aload_n 0, 1) := by decide +kernel
theorem dX5_readNumber_53 : decode cX5_readNumber 53 = .ok (.getfield 9, 3) := by decide +kernel
theorem dX5_readNumber_56 : decode cX5_readNumber 56 = .ok (.aload_n 0, 1) := by decide +kernel
theorem dX5_readNumber_57 : decode cX5_readNumber 57 = .ok (.getfield 19, 3) := by decide +kernel
theorem dX5_readNumber_60 : decode cX5_readNumber 60 = .ok (.iaload, 1) := by decide +kernel
theorem dX5_readNumber_61 : decode cX5_readNumber 61 = .ok (.iadd, 1) := by decide +kernel
theorem dX5_readNumber_62 : decode cX5_readNumber 62 = .ok (.bipush 48, 2) := by decide +kernel
theorem dX5_readNumber_64 : decode cX5_readNumber 64 = .ok (.isub, 1) := by decide +kernel
theorem dX5_readNumber_65 : decode cX5_readNumber 65 = .ok (.putfield 72, 3) := by decide +kernel
theorem dX5_readNumber_68 : decode cX5_readNumber 68 = .ok (.aload_n 0, 1) := by decide +kernel
theorem dX5_readNumber_69 : decode cX5_readNumber 69 = .ok (.dup, 1) := by decide +kernel
theorem dX5_readNumber_70 : decode cX5_readNumber 70 = .ok (.getfield 19, 3) := by decide +kernel
theorem dX5_readNumber_73 : decode cX5_readNumber 73 = .ok (.iconst 1, 1) := by decide +kernel
theorem dX5_readNumber_74 : decode cX5_readNumber 74 = .ok (.iadd, 1) := by decide +kernel
theorem dX5_readNumber_75 : decode cX5_readNumber 75 = .ok (.putfield 19, 3) := by decide +kernel
theorem dX5_readNumber_78 : decode cX5_readNumber 78 = .ok (.goto (-73), 3) := by decide +kernel
theorem dX5_readNumber_81 : decode cX5_readNumber 81 = .ok (.aload_n 0, 1) := by decide +kernel
theorem dX5_readNumber_82 : decode cX5_readNumber 82 = .ok (.aload_n 0, 1) := by decide +kernel
theorem dX5_readNumber_83 : decode cX5_readNumber 83 = .ok (.getfield 19, 3) := by decide +kernel
theorem dX5_readNumber_86 : decode cX5_readNumber 86 = .ok (.aload_n 0, 1) := by decide +kernel
theorem dX5_readNumber_87 : decode cX5_readNumber 87 = .ok (.getfield 38, 3) := by decide +kernel
theorem dX5_readNumber_90 : decode cX5_readNumber 90 = .ok (.isub, 1) := by decide +kernel
theorem dX5_readNumber_91 : decode cX5_readNumber 91 = .ok (.iconst 4, 1) := by decide +kernel
theorem dX5_readNumber_92 : decode cX5_readNumber 92 = .ok (.if_icmp .le 9, 3) := by decide +kernel
theorem dX5_readNumber_95 : decode cX5_readNumber 95 = .ok (.sipush 257, 3) := by decide +kernel
theorem dX5_readNumber_98 : decode cX5_readNumber 98 = .ok (.goto 6, 3) := by decide +kernel
theorem dX5_readNumber_101 : decode cX5_readNumber 101 = .ok (.sipush 258, 3) := by decide +kernel
theorem dX5_readNumber_104 : decode cX5_readNumber 104 = .ok (.putfield 44, 3) := by decide +kernel
theorem dX5_readNumber_107 : decode cX5_readNumber 107 = .ok (.return_, 1) := by decide +kernel
theorem dX5_next_0 : decode cX5_next 0 = .ok (.aload_n 0, 1) := by decide +kernel
theorem dX5_next_1 : decode cX5_next 1 = .ok (.getfield 19, 3) := by decide +kernel
theorem dX5_next_4 : decode cX5_next 4 = .ok (.aload_n 0, 1) := by decide +kernel
theorem dX5_next_5 : decode cX5_next 5 = .ok (.getfield 15, 3) := by decide +kernel
theorem dX5_next_8 : decode cX5_next 8 = .ok (.if_icmp .ge 31, 3) := by decide +kernel
theorem dX5_next_11 : decode cX5_next 11 = .ok (.aload_n 0, 1) := by decide +kernel
theorem dX5_next_12 : decode cX5_next 12 = .ok (.getfield 9, 3) := by decide +kernel
theorem dX5_next_15 : decode cX5_next 15 = .ok (.aload_n 0, 1) := by decide +kernel
theorem dX5_next_16 : decode cX5_next 16 = .ok (.getfield 19, 3) := by decide +kernel
theorem dX5_next_19 : decode cX5_next 19 = .ok (.iaload, 1) := by decide +kernel
theorem dX5_next_20 : decode cX5_next 20 = .ok (.invokestatic 81, 3) := by decide +kernel
theorem dX5_next_23 : decode cX5_next 23 = .ok (.ifCond .eq 16, 3) := by decide +kernel
theorem dX5_next_26 : decode cX5_next 26 = .ok (.aload_n 0, 1) := by decide +kernel
theorem dX5_next_27 : decode cX5_next 27 = .ok (.dup, 1) := by decide +kernel
theorem dX5_next_28 : decode cX5_next 28 = .ok (.getfield 19, 3) := by decide +kernel
theorem dX5_next_31 : decode cX5_next 31 = .ok (.iconst 1, 1) := by decide +kernel
theorem dX5_next_32 : decode cX5_next 32 = .ok (.iadd, 1) := by decide +kernel
theorem dX5_next_33 : decode cX5_next 33 = .ok (.putfield 19, 3) := by decide +kernel
theorem dX5_next_36 : decode cX5_next 36 = .ok (.goto (-36), 3) := by decide +kernel
theorem dX5_next_39 : decode cX5_next 39 = .ok (.aload_n 0, 1) := by decide +kernel
theorem dX5_next_40 : decode cX5_next 40 = .ok (.aload_n 0, 1) := by decide +kernel
theorem dX5_next_41 : decode cX5_next 41 = .ok (.getfield 19, 3) := by decide +kernel
theorem dX5_next_44 : decode cX5_next 44 = .ok (.putfield 38, 3) := by decide +kernel
theorem dX5_next_47 : decode cX5_next 47 = .ok (.aload_n 0, 1) := by decide +kernel
theorem dX5_next_48 : decode cX5_next 48 = .ok (.getfield 19, 3) := by decide +kernel
theorem dX5_next_51 : decode cX5_next 51 = .ok (.aload_n 0, 1) := by decide +kernel
theorem dX5_next_52 : decode cX5_next 52 = .ok (.getfield 15, 3) := by decide +kernel
theorem dX5_next_55 : decode cX5_next 55 = .ok (.if_icmp .lt 13, 3) := by decide +kernel
theorem dX5_next_58 : decode cX5_next 58 = .ok (.aload_n 0, 1) := by decide +kernel
theorem dX5_next_59 : decode cX5_next 59 = .ok (.sipush 256, 3) := by decide +kernel
theorem dX5_next_62 : decode cX5_next 62 = .ok (.putfield 44, 3) := by decide +kernel
theorem dX5_next_65 : decode cX5_next 65 = .ok (.goto 94, 3) := by decide +kernel
theorem dX5_next_68 : decode cX5_next 68 = .ok (.aload_n 0, 1) := by decide +kernel
theorem dX5_next_69 : decode cX5_next 69 = .ok (.getfield 9, 3) := by decide +kernel
theorem dX5_next_72 : decode cX5_next 72 = .ok (.aload_n 0, 1) := by decide +kernel
theorem dX5_next_73 : decode cX5_next 73 = .ok (.getfield 19, 3) := by decide +kernel
theorem dX5_next_76 : decode cX5_next 76 = .ok (.iaload, 1) := by decide +kernel
theorem dX5_next_77 : decode cX5_next 77 = .ok (.invokestatic 84, 3) := by decide +kernel
theorem dX5_next_80 : decode cX5_next 80 = .ok (.ifCond .eq 10, 3) := by decide +kernel
theorem dX5_next_83 : decode cX5_next 83 = .ok (.aload_n 0, 1) := by decide +kernel
theorem dX5_next_84 : decode cX5_next 84 = .ok (.invokevirtual 87, 3) := by decide +kernel
theorem dX5_next_87 : decode cX5_next 87 = .ok (.goto 72, 3) := by decide +kernel
theorem dX5_next_90 : decode cX5_next 90 = .ok (.aload_n 0, 1) := by decide +kernel
theorem dX5_next_91 : decode cX5_next 91 = .ok (.getfield 9, 3) := by decide +kernel
theorem dX5_next_94 : decode cX5_next 94 = .ok (.aload_n 0, 1) := by decide +kernel
theorem dX5_next_95 : decode cX5_next 95 = .ok (.getfield 19, 3) := by decide +kernel
theorem dX5_next_98 : decode cX5_next 98 = .ok (.iaload, 1) := by decide +kernel
theorem dX5_next_99 : decode cX5_next 99 = .ok (.invokestatic 90, 3) := by decide +kernel
theorem dX5_next_102 : decode cX5_next 102 = .ok (.ifCond .eq 10, 3) := by decide +kernel
theorem dX5_next_105 : decode cX5_next 105 = .ok (.aload_n 0, 1) := by decide +kernel
theorem dX5_next_106 : decode cX5_next 106 = .ok (.invokevirtual 93, 3) := by decide +kernel
theorem dX5_next_109 : decode cX5_next 109 = .ok (.goto 50, 3) := by decide +kernel
theorem dX5_next_112 : decode cX5_next 112 = .ok (.aload_n 0, 1) := by decide +kernel
theorem dX5_next_113 : decode cX5_next 113 = .ok (.ldc 96, 2) := by decide +kernel
theorem dX5_next_115 : decode cX5_next 115 = .ok (.aload_n 0, 1) := by decide +kernel
theorem dX5_next_116 : decode cX5_next 116 = .ok (.getfield 9, 3) := by decide +kernel
theorem dX5_next_119 : decode cX5_next 119 = .ok (.aload_n 0, 1) := by decide +kernel
theorem dX5_next_120 : decode cX5_next 120 = .ok (.getfield 19, 3) := by decide +kernel
theorem dX5_next_123 : decode cX5_next 123 = .ok (.iaload, 1) := by decide +kernel
theorem dX5_next_124 : decode cX5_next 124 = .ok (.i2c, 1) := by decide +kernel
theorem dX5_next_125 : decode cX5_next 125 = .ok (.invokevirtual 98, 3) := by decide +kernel
theorem dX5_next_128 : decode cX5_next 128 = .ok (.ifCond .ge 9, 3) := by decide +kernel
theorem dX5_next_131 : decode cX5_next 131 = .ok (.sipush 257, 3) := by decide +kernel
theorem dX5_next_134 : decode cX5_next 134 = .ok (.goto 12, 3) := by decide +kernel
theorem dX5_next_137 : decode cX5_next 137 = .ok (.aload_n 0, 1) := by decide +kernel
theorem dX5_next_138 : decode cX5_next 138 = .ok (.getfield 9, 3) := by decide +kernel
theorem dX5_next_141 : decode cX5_next 141 = .ok (.aload_n 0, 1) := by decide +kernel
theorem dX5_next_142 : decode cX5_next 142 = .ok (.getfield 19, 3) := by decide +kernel
theorem dX5_next_145 : decode cX5_next 145 = .ok (.iaload, 1) := by decide +kernel
theorem dX5_next_146 : decode cX5_next 146 = .ok (.putfield 44, 3) := by decide +kernel
theorem dX5_next_149 : decode cX5_next 149 = .ok (.aload_n 0, 1) := by decide +kernel
theorem dX5_next_150 : decode cX5_next 150 = .ok (.dup, 1) := by decide +kernel
theorem dX5_next_151 : decode cX5_next 151 = .ok (.getfield 19, 3) := by decide +kernel
theorem dX5_next_154 : decode cX5_next 154 = .ok (.iconst 1, 1) := by decide +kernel
theorem dX5_next_155 : decode cX5_next 155 = .ok (.iadd, 1) := by decide +kernel
theorem dX5_next_156 : decode cX5_next 156 = .ok (.putfield 19, 3) := by decide +kernel
theorem dX5_next_159 : decode cX5_next 159 = .ok (.return_, 1) := by decide +kernel
theorem dX5_isWord_0 : decode cX5_isWord 0 = .ok (.aload_n 0, 1) := by decide +kernel
theorem dX5_isWord_1 : decode cX5_isWord 1 = .ok (.getfield 44, 3) := by decide +kernel
theorem dX5_isWord_4 : decode cX5_isWord 4 = .ok (.sipush 259, 3) := by decide +kernel
theorem dX5_isWord_7 : decode cX5_isWord 7 = .ok (.if_icmp .ne 15, 3) := by decide +kernel
theorem dX5_isWord_10 : decode cX5_isWord 10 = .ok (.aload_n 0, 1) := by decide +kernel
theorem dX5_isWord_11 : decode cX5_isWord 11 = .ok (.getfield 72, 3) := by decide +kernel
theorem dX5_isWord_14 : decode cX5_isWord 14 = .ok (.iload_n 1, 1) := by decide +kernel
theorem dX5_isWord_15 : decode cX5_isWord 15 = .ok (.if_icmp .ne 7, 3) := by decide +kernel
theorem dX5_isWord_18 : decode cX5_isWord 18 = .ok (.iconst 1, 1) := by decide +kernel
theorem dX5_isWord_19 : decode cX5_isWord 19 = .ok (.goto 4, 3) := by decide +kernel
theorem dX5_isWord_22 : decode cX5_isWord 22 = .ok (.iconst 0, 1) := by decide +kernel
theorem dX5_isWord_23 : decode cX5_isWord 23 = .ok (.ireturn, 1) := by decide +kernel
theorem dX5_enclosed_0 : decode cX5_enclosed 0 = .ok (.aload_n 0, 1) := by decide +kernel
theorem dX5_enclosed_1 : decode cX5_enclosed 1 = .ok (.invokevirtual 31, 3) := by decide +kernel
theorem dX5_enclosed_4 : decode cX5_enclosed 4 = .ok (.aload_n 0, 1) := by decide +kernel
theorem dX5_enclosed_5 : decode cX5_enclosed 5 = .ok (.iload_n 1, 1) := by decide +kernel
theorem dX5_enclosed_6 : decode cX5_enclosed 6 = .ok (.invokevirtual 41, 3) := by decide +kernel
theorem dX5_enclosed_9 : decode cX5_enclosed 9 = .ok (.ifCond .eq 12, 3) := by decide +kernel
theorem dX5_enclosed_12 : decode cX5_enclosed 12 = .ok (.aload_n 0, 1) := by decide +kernel
theorem dX5_enclosed_13 : decode cX5_enclosed 13 = .ok (.getfield 44, 3) := by decide +kernel
theorem dX5_enclosed_16 : decode cX5_enclosed 16 = .ok (.bipush 41, 2) := by decide +kernel
theorem dX5_enclosed_18 : decode cX5_enclosed 18 = .ok (.if_icmp .eq 5, 3) := by decide +kernel
theorem dX5_enclosed_21 : decode cX5_enclosed 21 = .ok (.iconst 0, 1) := by decide +kernel
theorem dX5_enclosed_22 : decode cX5_enclosed 22 = .ok (.ireturn, 1) := by decide +kernel
theorem dX5_enclosed_23 : decode cX5_enclosed 23 = .ok (.aload_n 0, 1) := by decide +kernel
theorem dX5_enclosed_24 : decode cX5_enclosed 24 = .ok (.invokevirtual 31, 3) := by decide +kernel
theorem dX5_enclosed_27 : decode cX5_enclosed 27 = .ok (.iconst 1, 1) := by decide +kernel
theorem dX5_enclosed_28 : decode cX5_enclosed 28 = .ok (.ireturn, 1) := by decide +kernel
theorem dX5_negative_0 : decode cX5_negative 0 = .ok (.aload_n 0, 1) := by decide +kernel
theorem dX5_negative_1 : decode cX5_negative 1 = .ok (.invokevirtual 31, 3) := by decide +kernel
theorem dX5_negative_4 : decode cX5_negative 4 = .ok (.aload_n 0, 1) := by decide +kernel
theorem dX5_negative_5 : decode cX5_negative 5 = .ok (.iload_n 1, 1) := by decide +kernel
theorem dX5_negative_6 : decode cX5_negative 6 = .ok (.invokevirtual 69, 3) := by decide +kernel
theorem dX5_negative_9 : decode cX5_negative 9 = .ok (.ifCond .ne 5, 3) := by decide +kernel
theorem dX5_negative_12 : decode cX5_negative 12 = .ok (.iconst 0, 1) := by decide +kernel
theorem dX5_negative_13 : decode cX5_negative 13 = .ok (.ireturn, 1) := by decide +kernel
theorem dX5_negative_14 : decode cX5_negative 14 = .ok (.aload_n 0, 1) := by decide +kernel
theorem dX5_negative_15 : decode cX5_negative 15 = .ok (.getfield 22, 3) := by decide +kernel
theorem dX5_negative_18 : decode cX5_negative 18 = .ok (.sipush 10016, 3) := by decide +kernel
theorem dX5_negative_21 : decode cX5_negative 21 = .ok (.invokevirtual 54, 3) := by decide +kernel
theorem dX5_negative_24 : decode cX5_negative 24 = .ok (.iconst 1, 1) := by decide +kernel
theorem dX5_negative_25 : decode cX5_negative 25 = .ok (.ireturn, 1) := by decide +kernel
theorem dX5_one_0 : decode cX5_one 0 = .ok (.aload_n 0, 1) := by decide +kernel
theorem dX5_one_1 : decode cX5_one 1 = .ok (.getfield 44, 3) := by decide +kernel
theorem dX5_one_4 : decode cX5_one 4 = .ok (.sipush 258, 3) := by decide +kernel
theorem dX5_one_7 : decode cX5_one 7 = .ok (.if_icmp .eq 22, 3) := by decide +kernel
theorem dX5_one_10 : decode cX5_one 10 = .ok (.aload_n 0, 1) := by decide +kernel
theorem dX5_one_11 : decode cX5_one 11 = .ok (.getfield 44, 3) := by decide +kernel
theorem dX5_one_14 : decode cX5_one 14 = .ok (.sipush 259, 3) := by decide +kernel
theorem dX5_one_17 : decode cX5_one 17 = .ok (.if_icmp .ne 53, 3) := by decide +kernel
theorem dX5_one_20 : decode cX5_one 20 = .ok (.aload_n 0, 1) := by decide +kernel
theorem dX5_one_21 : decode cX5_one 21 = .ok (.getfield 72, 3) := by decide +kernel
theorem dX5_one_24 : decode cX5_one 24 = .ok (.bipush 6, 2) := by decide +kernel
theorem dX5_one_26 : decode cX5_one 26 = .ok (.if_icmp .lt 44, 3) := by decide +kernel
theorem dX5_one_29 : decode cX5_one 29 = .ok (.aload_n 0, 1) := by decide +kernel
theorem dX5_one_30 : decode cX5_one 30 = .ok (.getfield 22, 3) := by decide +kernel
theorem dX5_one_33 : decode cX5_one 33 = .ok (.aload_n 0, 1) := by decide +kernel
theorem dX5_one_34 : decode cX5_one 34 = .ok (.getfield 44, 3) := by decide +kernel
theorem dX5_one_37 : decode cX5_one 37 = .ok (.sipush 258, 3) := by decide +kernel
theorem dX5_one_40 : decode cX5_one 40 = .ok (.if_icmp .ne 10, 3) := by decide +kernel
theorem dX5_one_43 : decode cX5_one 43 = .ok (.aload_n 0, 1) := by decide +kernel
theorem dX5_one_44 : decode cX5_one 44 = .ok (.getfield 72, 3) := by decide +kernel
theorem dX5_one_47 : decode cX5_one 47 = .ok (.goto 14, 3) := by decide +kernel
theorem dX5_one_50 : decode cX5_one 50 = .ok (.sipush 10000, 3) := by decide +kernel
theorem dX5_one_53 : decode cX5_one 53 = .ok (.aload_n 0, 1) := by decide +kernel
theorem dX5_one_54 : decode cX5_one 54 = .ok (.getfield 72, 3) := by decide +kernel
theorem dX5_one_57 : decode cX5_one 57 = .ok (.iadd, 1) := by decide +kernel
theorem dX5_one_58 : decode cX5_one 58 = .ok (.bipush 6, 2) := by decide +kernel
theorem dX5_one_60 : decode cX5_one 60 = .ok (.isub, 1) := by decide +kernel
theorem dX5_one_61 : decode cX5_one 61 = .ok (.invokevirtual 54, 3) := by decide +kernel
theorem dX5_one_64 : decode cX5_one 64 = .ok (.aload_n 0, 1) := by decide +kernel
theorem dX5_one_65 : decode cX5_one 65 = .ok (.invokevirtual 31, 3) := by decide +kernel
theorem dX5_one_68 : decode cX5_one 68 = .ok (.iconst 1, 1) := by decide +kernel
theorem dX5_one_69 : decode cX5_one 69 = .ok (.ireturn, 1) := by decide +kernel
theorem dX5_one_70 : decode cX5_one 70 = .ok (.aload_n 0, 1) := by decide +kernel
theorem dX5_one_71 : decode cX5_one 71 = .ok (.getfield 44, 3) := by decide +kernel
theorem dX5_one_74 : decode cX5_one 74 = .ok (.bipush 40, 2) := by decide +kernel
theorem dX5_one_76 : decode cX5_one 76 = .ok (.if_icmp .eq 12, 3) := by decide +kernel
theorem dX5_one_79 : decode cX5_one 79 = .ok (.aload_n 0, 1) := by decide +kernel
theorem dX5_one_80 : decode cX5_one 80 = .ok (.getfield 44, 3) := by decide +kernel
theorem dX5_one_83 : decode cX5_one 83 = .ok (.bipush 45, 2) := by decide +kernel
theorem dX5_one_85 : decode cX5_one 85 = .ok (.if_icmp .ne 8, 3) := by decide +kernel
theorem dX5_one_88 : decode cX5_one 88 = .ok (.iload_n 1, 1) := by decide +kernel
theorem dX5_one_89 : decode cX5_one 89 = .ok (.iconst 5, 1) := by decide +kernel
theorem dX5_one_90 : decode cX5_one 90 = .ok (.if_icmp .lt 5, 3) := by decide +kernel
theorem dX5_one_93 : decode cX5_one 93 = .ok (.iconst 0, 1) := by decide +kernel
theorem dX5_one_94 : decode cX5_one 94 = .ok (.ireturn, 1) := by decide +kernel
theorem dX5_one_95 : decode cX5_one 95 = .ok (.aload_n 0, 1) := by decide +kernel
theorem dX5_one_96 : decode cX5_one 96 = .ok (.getfield 44, 3) := by decide +kernel
theorem dX5_one_99 : decode cX5_one 99 = .ok (.bipush 40, 2) := by decide +kernel
theorem dX5_one_101 : decode cX5_one 101 = .ok (.if_icmp .ne 13, 3) := by decide +kernel
theorem dX5_one_104 : decode cX5_one 104 = .ok (.aload_n 0, 1) := by decide +kernel
theorem dX5_one_105 : decode cX5_one 105 = .ok (.iload_n 1, 1) := by decide +kernel
theorem dX5_one_106 : decode cX5_one 106 = .ok (.iconst 1, 1) := by decide +kernel
theorem dX5_one_107 : decode cX5_one 107 = .ok (.iadd, 1) := by decide +kernel
theorem dX5_one_108 : decode cX5_one 108 = .ok (.invokevirtual 75, 3) := by decide +kernel
theorem dX5_one_111 : decode cX5_one 111 = .ok (.goto 10, 3) := by decide +kernel
theorem dX5_one_114 : decode cX5_one 114 = .ok (.aload_n 0, 1) := by decide +kernel
theorem dX5_one_115 : decode cX5_one 115 = .ok (.iload_n 1, 1) := by decide +kernel
theorem dX5_one_116 : decode cX5_one 116 = .ok (.iconst 1, 1) := by decide +kernel
theorem dX5_one_117 : decode cX5_one 117 = .ok (.iadd, 1) := by decide +kernel
theorem dX5_one_118 : decode cX5_one 118 = .ok (.invokevirtual 78, 3) := by decide +kernel
theorem dX5_one_121 : decode cX5_one 121 = .ok (.ireturn, 1) := by decide +kernel
theorem dX5_term_0 : decode cX5_term 0 = .ok (.aload_n 0, 1) := by decide +kernel
theorem dX5_term_1 : decode cX5_term 1 = .ok (.iload_n 1, 1) := by decide +kernel
theorem dX5_term_2 : decode cX5_term 2 = .ok (.invokevirtual 69, 3) := by decide +kernel
theorem dX5_term_5 : decode cX5_term 5 = .ok (.ifCond .ne 5, 3) := by decide +kernel
theorem dX5_term_8 : decode cX5_term 8 = .ok (.iconst 0, 1) := by decide +kernel
theorem dX5_term_9 : decode cX5_term 9 = .ok (.ireturn, 1) := by decide +kernel
theorem dX5_term_10 : decode cX5_term 10 = .ok (.iconst 0, 1) := by decide +kernel
theorem dX5_term_11 : decode cX5_term 11 = .ok (.istore_n 2, 1) := by decide +kernel
theorem dX5_term_12 : decode cX5_term 12 = .ok (.iload_n 2, 1) := by decide +kernel
theorem dX5_term_13 : decode cX5_term 13 = .ok (.sipush 160, 3) := by decide +kernel
theorem dX5_term_16 : decode cX5_term 16 = .ok (.if_icmp .ge 42, 3) := by decide +kernel
theorem dX5_term_19 : decode cX5_term 19 = .ok (.aload_n 0, 1) := by decide +kernel
theorem dX5_term_20 : decode cX5_term 20 = .ok (.getfield 44, 3) := by decide +kernel
theorem dX5_term_23 : decode cX5_term 23 = .ok (.bipush 42, 2) := by decide +kernel
theorem dX5_term_25 : decode cX5_term 25 = .ok (.if_icmp .ne 33, 3) := by decide +kernel
theorem dX5_term_28 : decode cX5_term 28 = .ok (.aload_n 0, 1) := by decide +kernel
theorem dX5_term_29 : decode cX5_term 29 = .ok (.invokevirtual 31, 3) := by decide +kernel
theorem dX5_term_32 : decode cX5_term 32 = .ok (.aload_n 0, 1) := by decide +kernel
theorem dX5_term_33 : decode cX5_term 33 = .ok (.iload_n 1, 1) := by decide +kernel
theorem dX5_term_34 : decode cX5_term 34 = .ok (.invokevirtual 69, 3) := by decide +kernel
theorem dX5_term_37 : decode cX5_term 37 = .ok (.ifCond .ne 5, 3) := by decide +kernel
theorem dX5_term_40 : decode cX5_term 40 = .ok (.iconst 0, 1) := by decide +kernel
theorem dX5_term_41 : decode cX5_term 41 = .ok (.ireturn, 1) := by decide +kernel
theorem dX5_term_42 : decode cX5_term 42 = .ok (.aload_n 0, 1) := by decide +kernel
theorem dX5_term_43 : decode cX5_term 43 = .ok (.getfield 22, 3) := by decide +kernel
theorem dX5_term_46 : decode cX5_term 46 = .ok (.sipush 10015, 3) := by decide +kernel
theorem dX5_term_49 : decode cX5_term 49 = .ok (.invokevirtual 54, 3) := by decide +kernel
theorem dX5_term_52 : decode cX5_term 52 = .ok (.iinc 2 1, 3) := by decide +kernel
theorem dX5_term_55 : decode cX5_term 55 = .ok (.goto (-43), 3) := by decide +kernel
theorem dX5_term_58 : decode cX5_term 58 = .ok (.iconst 1, 1) := by decide +kernel
theorem dX5_term_59 : decode cX5_term 59 = .ok (.ireturn, 1) := by decide +kernel
theorem dX5_sum_0 : decode cX5_sum 0 = .ok (.aload_n 0, 1) := by decide +kernel
theorem dX5_sum_1 : decode cX5_sum 1 = .ok (.iload_n 1, 1) := by decide +kernel
theorem dX5_sum_2 : decode cX5_sum 2 = .ok (.invokevirtual 66, 3) := by decide +kernel
theorem dX5_sum_5 : decode cX5_sum 5 = .ok (.ifCond .ne 5, 3) := by decide +kernel
theorem dX5_sum_8 : decode cX5_sum 8 = .ok (.iconst 0, 1) := by decide +kernel
theorem dX5_sum_9 : decode cX5_sum 9 = .ok (.ireturn, 1) := by decide +kernel
theorem dX5_sum_10 : decode cX5_sum 10 = .ok (.iconst 0, 1) := by decide +kernel
theorem dX5_sum_11 : decode cX5_sum 11 = .ok (.istore_n 2, 1) := by decide +kernel
theorem dX5_sum_12 : decode cX5_sum 12 = .ok (.iload_n 2, 1) := by decide +kernel
theorem dX5_sum_13 : decode cX5_sum 13 = .ok (.sipush 160, 3) := by decide +kernel
theorem dX5_sum_16 : decode cX5_sum 16 = .ok (.if_icmp .ge 68, 3) := by decide +kernel
theorem dX5_sum_19 : decode cX5_sum 19 = .ok (.aload_n 0, 1) := by decide +kernel
theorem dX5_sum_20 : decode cX5_sum 20 = .ok (.getfield 44, 3) := by decide +kernel
theorem dX5_sum_23 : decode cX5_sum 23 = .ok (.bipush 43, 2) := by decide +kernel
theorem dX5_sum_25 : decode cX5_sum 25 = .ok (.if_icmp .eq 12, 3) := by decide +kernel
theorem dX5_sum_28 : decode cX5_sum 28 = .ok (.aload_n 0, 1) := by decide +kernel
theorem dX5_sum_29 : decode cX5_sum 29 = .ok (.getfield 44, 3) := by decide +kernel
theorem dX5_sum_32 : decode cX5_sum 32 = .ok (.bipush 45, 2) := by decide +kernel
theorem dX5_sum_34 : decode cX5_sum 34 = .ok (.if_icmp .ne 50, 3) := by decide +kernel
theorem dX5_sum_37 : decode cX5_sum 37 = .ok (.aload_n 0, 1) := by decide +kernel
theorem dX5_sum_38 : decode cX5_sum 38 = .ok (.getfield 44, 3) := by decide +kernel
theorem dX5_sum_41 : decode cX5_sum 41 = .ok (.bipush 43, 2) := by decide +kernel
theorem dX5_sum_43 : decode cX5_sum 43 = .ok (.if_icmp .ne 9, 3) := by decide +kernel
theorem dX5_sum_46 : decode cX5_sum 46 = .ok (.sipush 10013, 3) := by decide +kernel
theorem dX5_sum_49 : decode cX5_sum 49 = .ok (.goto 6, 3) := by decide +kernel
theorem dX5_sum_52 : decode cX5_sum 52 = .ok (.sipush 10014, 3) := by decide +kernel
theorem dX5_sum_55 : decode cX5_sum 55 = .ok (.istore_n 3, 1) := by decide +kernel
theorem dX5_sum_56 : decode cX5_sum 56 = .ok (.aload_n 0, 1) := by decide +kernel
theorem dX5_sum_57 : decode cX5_sum 57 = .ok (.invokevirtual 31, 3) := by decide +kernel
theorem dX5_sum_60 : decode cX5_sum 60 = .ok (.aload_n 0, 1) := by decide +kernel
theorem dX5_sum_61 : decode cX5_sum 61 = .ok (.iload_n 1, 1) := by decide +kernel
theorem dX5_sum_62 : decode cX5_sum 62 = .ok (.invokevirtual 66, 3) := by decide +kernel
theorem dX5_sum_65 : decode cX5_sum 65 = .ok (.ifCond .ne 5, 3) := by decide +kernel
theorem dX5_sum_68 : decode cX5_sum 68 = .ok (.iconst 0, 1) := by decide +kernel
theorem dX5_sum_69 : decode cX5_sum 69 = .ok (.ireturn, 1) := by decide +kernel
theorem dX5_sum_70 : decode cX5_sum 70 = .ok (.aload_n 0, 1) := by decide +kernel
theorem dX5_sum_71 : decode cX5_sum 71 = .ok (.getfield 22, 3) := by decide +kernel
theorem dX5_sum_74 : decode cX5_sum 74 = .ok (.iload_n 3, 1) := by decide +kernel
theorem dX5_sum_75 : decode cX5_sum 75 = .ok (.invokevirtual 54, 3) := by decide +kernel
theorem dX5_sum_78 : decode cX5_sum 78 = .ok (.iinc 2 1, 3) := by decide +kernel
theorem dX5_sum_81 : decode cX5_sum 81 = .ok (.goto (-69), 3) := by decide +kernel
theorem dX5_sum_84 : decode cX5_sum 84 = .ok (.iconst 1, 1) := by decide +kernel
theorem dX5_sum_85 : decode cX5_sum 85 = .ok (.ireturn, 1) := by decide +kernel
theorem dX5_compared_0 : decode cX5_compared 0 = .ok (.aload_n 0, 1) := by decide +kernel
theorem dX5_compared_1 : decode cX5_compared 1 = .ok (.iload_n 1, 1) := by decide +kernel
theorem dX5_compared_2 : decode cX5_compared 2 = .ok (.invokevirtual 63, 3) := by decide +kernel
theorem dX5_compared_5 : decode cX5_compared 5 = .ok (.ifCond .ne 5, 3) := by decide +kernel
theorem dX5_compared_8 : decode cX5_compared 8 = .ok (.iconst 0, 1) := by decide +kernel
theorem dX5_compared_9 : decode cX5_compared 9 = .ok (.ireturn, 1) := by decide +kernel
theorem dX5_compared_10 : decode cX5_compared 10 = .ok (.aload_n 0, 1) := by decide +kernel
theorem dX5_compared_11 : decode cX5_compared 11 = .ok (.getfield 44, 3) := by decide +kernel
theorem dX5_compared_14 : decode cX5_compared 14 = .ok (.bipush 60, 2) := by decide +kernel
theorem dX5_compared_16 : decode cX5_compared 16 = .ok (.if_icmp .eq 14, 3) := by decide +kernel
theorem dX5_compared_19 : decode cX5_compared 19 = .ok (.aload_n 0, 1) := by decide +kernel
theorem dX5_compared_20 : decode cX5_compared 20 = .ok (.getfield 44, 3) := by decide +kernel
theorem dX5_compared_23 : decode cX5_compared 23 = .ok (.bipush 61, 2) := by decide +kernel
theorem dX5_compared_25 : decode cX5_compared 25 = .ok (.if_icmp .eq 5, 3) := by decide +kernel
theorem dX5_compared_28 : decode cX5_compared 28 = .ok (.iconst 1, 1) := by decide +kernel
theorem dX5_compared_29 : decode cX5_compared 29 = .ok (.ireturn, 1) := by decide +kernel
theorem dX5_compared_30 : decode cX5_compared 30 = .ok (.aload_n 0, 1) := by decide +kernel
theorem dX5_compared_31 : decode cX5_compared 31 = .ok (.getfield 44, 3) := by decide +kernel
theorem dX5_compared_34 : decode cX5_compared 34 = .ok (.bipush 60, 2) := by decide +kernel
theorem dX5_compared_36 : decode cX5_compared 36 = .ok (.if_icmp .ne 9, 3) := by decide +kernel
theorem dX5_compared_39 : decode cX5_compared 39 = .ok (.sipush 10011, 3) := by decide +kernel
theorem dX5_compared_42 : decode cX5_compared 42 = .ok (.goto 6, 3) := by decide +kernel
theorem dX5_compared_45 : decode cX5_compared 45 = .ok (.sipush 10012, 3) := by decide +kernel
theorem dX5_compared_48 : decode cX5_compared 48 = .ok (.istore_n 2, 1) := by decide +kernel
theorem dX5_compared_49 : decode cX5_compared 49 = .ok (.aload_n 0, 1) := by decide +kernel
theorem dX5_compared_50 : decode cX5_compared 50 = .ok (.invokevirtual 31, 3) := by decide +kernel
theorem dX5_compared_53 : decode cX5_compared 53 = .ok (.aload_n 0, 1) := by decide +kernel
theorem dX5_compared_54 : decode cX5_compared 54 = .ok (.iload_n 1, 1) := by decide +kernel
theorem dX5_compared_55 : decode cX5_compared 55 = .ok (.invokevirtual 63, 3) := by decide +kernel
theorem dX5_compared_58 : decode cX5_compared 58 = .ok (.ifCond .ne 5, 3) := by decide +kernel
theorem dX5_compared_61 : decode cX5_compared 61 = .ok (.iconst 0, 1) := by decide +kernel
theorem dX5_compared_62 : decode cX5_compared 62 = .ok (.ireturn, 1) := by decide +kernel
theorem dX5_compared_63 : decode cX5_compared 63 = .ok (.aload_n 0, 1) := by decide +kernel
theorem dX5_compared_64 : decode cX5_compared 64 = .ok (.getfield 22, 3) := by decide +kernel
theorem dX5_compared_67 : decode cX5_compared 67 = .ok (.iload_n 2, 1) := by decide +kernel
theorem dX5_compared_68 : decode cX5_compared 68 = .ok (.invokevirtual 54, 3) := by decide +kernel
theorem dX5_compared_71 : decode cX5_compared 71 = .ok (.iconst 1, 1) := by decide +kernel
theorem dX5_compared_72 : decode cX5_compared 72 = .ok (.ireturn, 1) := by decide +kernel
theorem dX5_negated_0 : decode cX5_negated 0 = .ok (.aload_n 0, 1) := by decide +kernel
theorem dX5_negated_1 : decode cX5_negated 1 = .ok (.iconst 5, 1) := by decide +kernel
theorem dX5_negated_2 : decode cX5_negated 2 = .ok (.invokevirtual 34, 3) := by decide +kernel
theorem dX5_negated_5 : decode cX5_negated 5 = .ok (.ifCond .ne 9, 3) := by decide +kernel
theorem dX5_negated_8 : decode cX5_negated 8 = .ok (.aload_n 0, 1) := by decide +kernel
theorem dX5_negated_9 : decode cX5_negated 9 = .ok (.iload_n 1, 1) := by decide +kernel
theorem dX5_negated_10 : decode cX5_negated 10 = .ok (.invokevirtual 60, 3) := by decide +kernel
theorem dX5_negated_13 : decode cX5_negated 13 = .ok (.ireturn, 1) := by decide +kernel
theorem dX5_negated_14 : decode cX5_negated 14 = .ok (.iload_n 1, 1) := by decide +kernel
theorem dX5_negated_15 : decode cX5_negated 15 = .ok (.iconst 5, 1) := by decide +kernel
theorem dX5_negated_16 : decode cX5_negated 16 = .ok (.if_icmp .lt 5, 3) := by decide +kernel
theorem dX5_negated_19 : decode cX5_negated 19 = .ok (.iconst 0, 1) := by decide +kernel
theorem dX5_negated_20 : decode cX5_negated 20 = .ok (.ireturn, 1) := by decide +kernel
theorem dX5_negated_21 : decode cX5_negated 21 = .ok (.aload_n 0, 1) := by decide +kernel
theorem dX5_negated_22 : decode cX5_negated 22 = .ok (.invokevirtual 31, 3) := by decide +kernel
theorem dX5_negated_25 : decode cX5_negated 25 = .ok (.aload_n 0, 1) := by decide +kernel
theorem dX5_negated_26 : decode cX5_negated 26 = .ok (.iload_n 1, 1) := by decide +kernel
theorem dX5_negated_27 : decode cX5_negated 27 = .ok (.iconst 1, 1) := by decide +kernel
theorem dX5_negated_28 : decode cX5_negated 28 = .ok (.iadd, 1) := by decide +kernel
theorem dX5_negated_29 : decode cX5_negated 29 = .ok (.invokevirtual 57, 3) := by decide +kernel
theorem dX5_negated_32 : decode cX5_negated 32 = .ok (.ifCond .ne 5, 3) := by decide +kernel
theorem dX5_negated_35 : decode cX5_negated 35 = .ok (.iconst 0, 1) := by decide +kernel
theorem dX5_negated_36 : decode cX5_negated 36 = .ok (.ireturn, 1) := by decide +kernel
theorem dX5_negated_37 : decode cX5_negated 37 = .ok (.aload_n 0, 1) := by decide +kernel
theorem dX5_negated_38 : decode cX5_negated 38 = .ok (.getfield 22, 3) := by decide +kernel
theorem dX5_negated_41 : decode cX5_negated 41 = .ok (.sipush 10010, 3) := by decide +kernel
theorem dX5_negated_44 : decode cX5_negated 44 = .ok (.invokevirtual 54, 3) := by decide +kernel
theorem dX5_negated_47 : decode cX5_negated 47 = .ok (.iconst 1, 1) := by decide +kernel
theorem dX5_negated_48 : decode cX5_negated 48 = .ok (.ireturn, 1) := by decide +kernel
theorem dX5_both_0 : decode cX5_both 0 = .ok (.aload_n 0, 1) := by decide +kernel
theorem dX5_both_1 : decode cX5_both 1 = .ok (.iload_n 1, 1) := by decide +kernel
theorem dX5_both_2 : decode cX5_both 2 = .ok (.invokevirtual 57, 3) := by decide +kernel
theorem dX5_both_5 : decode cX5_both 5 = .ok (.ifCond .ne 5, 3) := by decide +kernel
theorem dX5_both_8 : decode cX5_both 8 = .ok (.iconst 0, 1) := by decide +kernel
theorem dX5_both_9 : decode cX5_both 9 = .ok (.ireturn, 1) := by decide +kernel
theorem dX5_both_10 : decode cX5_both 10 = .ok (.iconst 0, 1) := by decide +kernel
theorem dX5_both_11 : decode cX5_both 11 = .ok (.istore_n 2, 1) := by decide +kernel
theorem dX5_both_12 : decode cX5_both 12 = .ok (.iload_n 2, 1) := by decide +kernel
theorem dX5_both_13 : decode cX5_both 13 = .ok (.sipush 160, 3) := by decide +kernel
theorem dX5_both_16 : decode cX5_both 16 = .ok (.if_icmp .ge 41, 3) := by decide +kernel
theorem dX5_both_19 : decode cX5_both 19 = .ok (.aload_n 0, 1) := by decide +kernel
theorem dX5_both_20 : decode cX5_both 20 = .ok (.iconst 4, 1) := by decide +kernel
theorem dX5_both_21 : decode cX5_both 21 = .ok (.invokevirtual 34, 3) := by decide +kernel
theorem dX5_both_24 : decode cX5_both 24 = .ok (.ifCond .eq 33, 3) := by decide +kernel
theorem dX5_both_27 : decode cX5_both 27 = .ok (.aload_n 0, 1) := by decide +kernel
theorem dX5_both_28 : decode cX5_both 28 = .ok (.invokevirtual 31, 3) := by decide +kernel
theorem dX5_both_31 : decode cX5_both 31 = .ok (.aload_n 0, 1) := by decide +kernel
theorem dX5_both_32 : decode cX5_both 32 = .ok (.iload_n 1, 1) := by decide +kernel
theorem dX5_both_33 : decode cX5_both 33 = .ok (.invokevirtual 57, 3) := by decide +kernel
theorem dX5_both_36 : decode cX5_both 36 = .ok (.ifCond .ne 5, 3) := by decide +kernel
theorem dX5_both_39 : decode cX5_both 39 = .ok (.iconst 0, 1) := by decide +kernel
theorem dX5_both_40 : decode cX5_both 40 = .ok (.ireturn, 1) := by decide +kernel
theorem dX5_both_41 : decode cX5_both 41 = .ok (.aload_n 0, 1) := by decide +kernel
theorem dX5_both_42 : decode cX5_both 42 = .ok (.getfield 22, 3) := by decide +kernel
theorem dX5_both_45 : decode cX5_both 45 = .ok (.sipush 10009, 3) := by decide +kernel
theorem dX5_both_48 : decode cX5_both 48 = .ok (.invokevirtual 54, 3) := by decide +kernel
theorem dX5_both_51 : decode cX5_both 51 = .ok (.iinc 2 1, 3) := by decide +kernel
theorem dX5_both_54 : decode cX5_both 54 = .ok (.goto (-42), 3) := by decide +kernel
theorem dX5_both_57 : decode cX5_both 57 = .ok (.iconst 1, 1) := by decide +kernel
theorem dX5_both_58 : decode cX5_both 58 = .ok (.ireturn, 1) := by decide +kernel
theorem dX5_either_0 : decode cX5_either 0 = .ok (.aload_n 0, 1) := by decide +kernel
theorem dX5_either_1 : decode cX5_either 1 = .ok (.iload_n 1, 1) := by decide +kernel
theorem dX5_either_2 : decode cX5_either 2 = .ok (.invokevirtual 51, 3) := by decide +kernel
theorem dX5_either_5 : decode cX5_either 5 = .ok (.ifCond .ne 5, 3) := by decide +kernel
theorem dX5_either_8 : decode cX5_either 8 = .ok (.iconst 0, 1) := by decide +kernel
theorem dX5_either_9 : decode cX5_either 9 = .ok (.ireturn, 1) := by decide +kernel
theorem dX5_either_10 : decode cX5_either 10 = .ok (.iconst 0, 1) := by decide +kernel
theorem dX5_either_11 : decode cX5_either 11 = .ok (.istore_n 2, 1) := by decide +kernel
theorem dX5_either_12 : decode cX5_either 12 = .ok (.iload_n 2, 1) := by decide +kernel
theorem dX5_either_13 : decode cX5_either 13 = .ok (.sipush 160, 3) := by decide +kernel
theorem dX5_either_16 : decode cX5_either 16 = .ok (.if_icmp .ge 41, 3) := by decide +kernel
theorem dX5_either_19 : decode cX5_either 19 = .ok (.aload_n 0, 1) := by decide +kernel
theorem dX5_either_20 : decode cX5_either 20 = .ok (.iconst 3, 1) := by decide +kernel
theorem dX5_either_21 : decode cX5_either 21 = .ok (.invokevirtual 34, 3) := by decide +kernel
theorem dX5_either_24 : decode cX5_either 24 = .ok (.ifCond .eq 33, 3) := by decide +kernel
theorem dX5_either_27 : decode cX5_either 27 = .ok (.aload_n 0, 1) := by decide +kernel
theorem dX5_either_28 : decode cX5_either 28 = .ok (.invokevirtual 31, 3) := by decide +kernel
theorem dX5_either_31 : decode cX5_either 31 = .ok (.aload_n 0, 1) := by decide +kernel
theorem dX5_either_32 : decode cX5_either 32 = .ok (.iload_n 1, 1) := by decide +kernel
theorem dX5_either_33 : decode cX5_either 33 = .ok (.invokevirtual 51, 3) := by decide +kernel
theorem dX5_either_36 : decode cX5_either 36 = .ok (.ifCond .ne 5, 3) := by decide +kernel
theorem dX5_either_39 : decode cX5_either 39 = .ok (.iconst 0, 1) := by decide +kernel
theorem dX5_either_40 : decode cX5_either 40 = .ok (.ireturn, 1) := by decide +kernel
theorem dX5_either_41 : decode cX5_either 41 = .ok (.aload_n 0, 1) := by decide +kernel
theorem dX5_either_42 : decode cX5_either 42 = .ok (.getfield 22, 3) := by decide +kernel
theorem dX5_either_45 : decode cX5_either 45 = .ok (.sipush 10008, 3) := by decide +kernel
theorem dX5_either_48 : decode cX5_either 48 = .ok (.invokevirtual 54, 3) := by decide +kernel
theorem dX5_either_51 : decode cX5_either 51 = .ok (.iinc 2 1, 3) := by decide +kernel
theorem dX5_either_54 : decode cX5_either 54 = .ok (.goto (-42), 3) := by decide +kernel
theorem dX5_either_57 : decode cX5_either 57 = .ok (.iconst 1, 1) := by decide +kernel
theorem dX5_either_58 : decode cX5_either 58 = .ok (.ireturn, 1) := by decide +kernel
theorem dX5_read_0 : decode cX5_read 0 = .ok (.aload_n 0, 1) := by decide +kernel
theorem dX5_read_1 : decode cX5_read 1 = .ok (.iload_n 1, 1) := by decide +kernel
theorem dX5_read_2 : decode cX5_read 2 = .ok (.putfield 15, 3) := by decide +kernel
theorem dX5_read_5 : decode cX5_read 5 = .ok (.aload_n 0, 1) := by decide +kernel
theorem dX5_read_6 : decode cX5_read 6 = .ok (.iconst 0, 1) := by decide +kernel
theorem dX5_read_7 : decode cX5_read 7 = .ok (.putfield 19, 3) := by decide +kernel
theorem dX5_read_10 : decode cX5_read 10 = .ok (.aload_n 0, 1) := by decide +kernel
theorem dX5_read_11 : decode cX5_read 11 = .ok (.aload_n 2, 1) := by decide +kernel
theorem dX5_read_12 : decode cX5_read 12 = .ok (.putfield 22, 3) := by decide +kernel
theorem dX5_read_15 : decode cX5_read 15 = .ok (.aload_n 0, 1) := by decide +kernel
theorem dX5_read_16 : decode cX5_read 16 = .ok (.getfield 22, 3) := by decide +kernel
theorem dX5_read_19 : decode cX5_read 19 = .ok (.invokevirtual 26, 3) := by decide +kernel
theorem dX5_read_22 : decode cX5_read 22 = .ok (.aload_n 0, 1) := by decide +kernel
theorem dX5_read_23 : decode cX5_read 23 = .ok (.invokevirtual 31, 3) := by decide +kernel
theorem dX5_read_26 : decode cX5_read 26 = .ok (.iconst 0, 1) := by decide +kernel
theorem dX5_read_27 : decode cX5_read 27 = .ok (.istore_n 3, 1) := by decide +kernel
theorem dX5_read_28 : decode cX5_read 28 = .ok (.iload_n 3, 1) := by decide +kernel
theorem dX5_read_29 : decode cX5_read 29 = .ok (.iconst 3, 1) := by decide +kernel
theorem dX5_read_30 : decode cX5_read 30 = .ok (.if_icmp .ge 60, 3) := by decide +kernel
theorem dX5_read_33 : decode cX5_read 33 = .ok (.aload_n 0, 1) := by decide +kernel
theorem dX5_read_34 : decode cX5_read 34 = .ok (.iload_n 3, 1) := by decide +kernel
theorem dX5_read_35 : decode cX5_read 35 = .ok (.invokevirtual 34, 3) := by decide +kernel
theorem dX5_read_38 : decode cX5_read 38 = .ok (.ifCond .ne 8, 3) := by decide +kernel
theorem dX5_read_41 : decode cX5_read 41 = .ok (.aload_n 0, 1) := by decide +kernel
theorem dX5_read_42 : decode cX5_read 42 = .ok (.getfield 38, 3) := by decide +kernel
theorem dX5_read_45 : decode cX5_read 45 = .ok (.ireturn, 1) := by decide +kernel
theorem dX5_read_46 : decode cX5_read 46 = .ok (.aload_n 0, 1) := by decide +kernel
theorem dX5_read_47 : decode cX5_read 47 = .ok (.invokevirtual 31, 3) := by decide +kernel
theorem dX5_read_50 : decode cX5_read 50 = .ok (.aload_n 0, 1) := by decide +kernel
theorem dX5_read_51 : decode cX5_read 51 = .ok (.iconst 0, 1) := by decide +kernel
theorem dX5_read_52 : decode cX5_read 52 = .ok (.invokevirtual 41, 3) := by decide +kernel
theorem dX5_read_55 : decode cX5_read 55 = .ok (.ifCond .eq 12, 3) := by decide +kernel
theorem dX5_read_58 : decode cX5_read 58 = .ok (.aload_n 0, 1) := by decide +kernel
theorem dX5_read_59 : decode cX5_read 59 = .ok (.getfield 44, 3) := by decide +kernel
theorem dX5_read_62 : decode cX5_read 62 = .ok (.bipush 59, 2) := by decide +kernel
theorem dX5_read_64 : decode cX5_read 64 = .ok (.if_icmp .eq 8, 3) := by decide +kernel
theorem dX5_read_67 : decode cX5_read 67 = .ok (.aload_n 0, 1) := by decide +kernel
theorem dX5_read_68 : decode cX5_read 68 = .ok (.getfield 38, 3) := by decide +kernel
theorem dX5_read_71 : decode cX5_read 71 = .ok (.ireturn, 1) := by decide +kernel
theorem dX5_read_72 : decode cX5_read 72 = .ok (.aload_n 0, 1) := by decide +kernel
theorem dX5_read_73 : decode cX5_read 73 = .ok (.invokevirtual 31, 3) := by decide +kernel
theorem dX5_read_76 : decode cX5_read 76 = .ok (.aload_n 0, 1) := by decide +kernel
theorem dX5_read_77 : decode cX5_read 77 = .ok (.getfield 22, 3) := by decide +kernel
theorem dX5_read_80 : decode cX5_read 80 = .ok (.iload_n 3, 1) := by decide +kernel
theorem dX5_read_81 : decode cX5_read 81 = .ok (.invokevirtual 47, 3) := by decide +kernel
theorem dX5_read_84 : decode cX5_read 84 = .ok (.iinc 3 1, 3) := by decide +kernel
theorem dX5_read_87 : decode cX5_read 87 = .ok (.goto (-59), 3) := by decide +kernel
theorem dX5_read_90 : decode cX5_read 90 = .ok (.aload_n 0, 1) := by decide +kernel
theorem dX5_read_91 : decode cX5_read 91 = .ok (.getfield 44, 3) := by decide +kernel
theorem dX5_read_94 : decode cX5_read 94 = .ok (.sipush 256, 3) := by decide +kernel
theorem dX5_read_97 : decode cX5_read 97 = .ok (.if_icmp .ne 7, 3) := by decide +kernel
theorem dX5_read_100 : decode cX5_read 100 = .ok (.iconst (-1), 1) := by decide +kernel
theorem dX5_read_101 : decode cX5_read 101 = .ok (.goto 7, 3) := by decide +kernel
theorem dX5_read_104 : decode cX5_read 104 = .ok (.aload_n 0, 1) := by decide +kernel
theorem dX5_read_105 : decode cX5_read 105 = .ok (.getfield 38, 3) := by decide +kernel
theorem dX5_read_108 : decode cX5_read 108 = .ok (.ireturn, 1) := by decide +kernel
theorem dX8_take_0 : decode cX8_take 0 = .ok (.aload_n 0, 1) := by decide +kernel
theorem dX8_take_1 : decode cX8_take 1 = .ok (.getfield 51, 3) := by decide +kernel
theorem dX8_take_4 : decode cX8_take 4 = .ok (.bipush 6, 2) := by decide +kernel
theorem dX8_take_6 : decode cX8_take 6 = .ok (.if_icmp .lt 6, 3) := by decide +kernel
theorem dX8_take_9 : decode cX8_take 9 = .ok (.bipush (-4), 2) := by decide +kernel
theorem dX8_take_11 : decode cX8_take 11 = .ok (.ireturn, 1) := by decide +kernel
theorem dX8_take_12 : decode cX8_take 12 = .ok (.aload_n 0, 1) := by decide +kernel
theorem dX8_take_13 : decode cX8_take 13 = .ok (.getfield 20, 3) := by decide +kernel
theorem dX8_take_16 : decode cX8_take 16 = .ok (.aload_n 0, 1) := by decide +kernel
theorem dX8_take_17 : decode cX8_take 17 = .ok (.getfield 41, 3) := by decide +kernel
theorem dX8_take_20 : decode cX8_take 20 = .ok (.aload_n 0, 1) := by decide +kernel
theorem dX8_take_21 : decode cX8_take 21 = .ok (.getfield 13, 3) := by decide +kernel
theorem dX8_take_24 : decode cX8_take 24 = .ok (.aload_n 0, 1) := by decide +kernel
theorem dX8_take_25 : decode cX8_take 25 = .ok (.getfield 51, 3) := by decide +kernel
theorem dX8_take_28 : decode cX8_take 28 = .ok (.aaload, 1) := by decide +kernel
theorem dX8_take_29 : decode cX8_take 29 = .ok (.invokevirtual 54, 3) := by decide +kernel
theorem dX8_take_32 : decode cX8_take 32 = .ok (.istore_n 1, 1) := by decide +kernel
theorem dX8_take_33 : decode cX8_take 33 = .ok (.aload_n 0, 1) := by decide +kernel
theorem dX8_take_34 : decode cX8_take 34 = .ok (.iconst 0, 1) := by decide +kernel
theorem dX8_take_35 : decode cX8_take 35 = .ok (.putfield 41, 3) := by decide +kernel
theorem dX8_take_38 : decode cX8_take 38 = .ok (.iload_n 1, 1) := by decide +kernel
theorem dX8_take_39 : decode cX8_take 39 = .ok (.ifCond .lt 10, 3) := by decide +kernel
theorem dX8_take_42 : decode cX8_take 42 = .ok (.bipush (-100), 2) := by decide +kernel
theorem dX8_take_44 : decode cX8_take 44 = .ok (.iload_n 1, 1) := by decide +kernel
theorem dX8_take_45 : decode cX8_take 45 = .ok (.isub, 1) := by decide +kernel
theorem dX8_take_46 : decode cX8_take 46 = .ok (.goto 14, 3) := by decide +kernel
theorem dX8_take_49 : decode cX8_take 49 = .ok (.aload_n 0, 1) := by decide +kernel
theorem dX8_take_50 : decode cX8_take 50 = .ok (.dup, 1) := by decide +kernel
theorem dX8_take_51 : decode cX8_take 51 = .ok (.getfield 51, 3) := by decide +kernel
theorem dX8_take_54 : decode cX8_take 54 = .ok (.dup_x1, 1) := by decide +kernel
theorem dX8_take_55 : decode cX8_take 55 = .ok (.iconst 1, 1) := by decide +kernel
theorem dX8_take_56 : decode cX8_take 56 = .ok (.iadd, 1) := by decide +kernel
theorem dX8_take_57 : decode cX8_take 57 = .ok (.putfield 51, 3) := by decide +kernel
theorem dX8_take_60 : decode cX8_take 60 = .ok (.ireturn, 1) := by decide +kernel
theorem dX8_rule_0 : decode cX8_rule 0 = .ok (.aload_n 0, 1) := by decide +kernel
theorem dX8_rule_1 : decode cX8_rule 1 = .ok (.getfield 13, 3) := by decide +kernel
theorem dX8_rule_4 : decode cX8_rule 4 = .ok (.aload_n 0, 1) := by decide +kernel
theorem dX8_rule_5 : decode cX8_rule 5 = .ok (.getfield 48, 3) := by decide +kernel
theorem dX8_rule_8 : decode cX8_rule 8 = .ok (.aaload, 1) := by decide +kernel
theorem dX8_rule_9 : decode cX8_rule 9 = .ok (.areturn, 1) := by decide +kernel
theorem dX8_append_0 : decode cX8_append 0 = .ok (.aload_n 0, 1) := by decide +kernel
theorem dX8_append_1 : decode cX8_append 1 = .ok (.getfield 41, 3) := by decide +kernel
theorem dX8_append_4 : decode cX8_append 4 = .ok (.iload_n 3, 1) := by decide +kernel
theorem dX8_append_5 : decode cX8_append 5 = .ok (.iadd, 1) := by decide +kernel
theorem dX8_append_6 : decode cX8_append 6 = .ok (.sipush 160, 3) := by decide +kernel
theorem dX8_append_9 : decode cX8_append 9 = .ok (.if_icmp .le 6, 3) := by decide +kernel
theorem dX8_append_12 : decode cX8_append 12 = .ok (.bipush (-4), 2) := by decide +kernel
theorem dX8_append_14 : decode cX8_append 14 = .ok (.ireturn, 1) := by decide +kernel
theorem dX8_append_15 : decode cX8_append 15 = .ok (.iload_n 3, 1) := by decide +kernel
theorem dX8_append_16 : decode cX8_append 16 = .ok (.iconst 1, 1) := by decide +kernel
theorem dX8_append_17 : decode cX8_append 17 = .ok (.isub, 1) := by decide +kernel
theorem dX8_append_18 : decode cX8_append 18 = .ok (.istore 4, 2) := by decide +kernel
theorem dX8_append_20 : decode cX8_append 20 = .ok (.iload 4, 2) := by decide +kernel
theorem dX8_append_22 : decode cX8_append 22 = .ok (.ifCond .lt 43, 3) := by decide +kernel
theorem dX8_append_25 : decode cX8_append 25 = .ok (.aload_n 0, 1) := by decide +kernel
theorem dX8_append_26 : decode cX8_append 26 = .ok (.getfield 20, 3) := by decide +kernel
theorem dX8_append_29 : decode cX8_append 29 = .ok (.getfield 33, 3) := by decide +kernel
theorem dX8_append_32 : decode cX8_append 32 = .ok (.aload_n 0, 1) := by decide +kernel
theorem dX8_append_33 : decode cX8_append 33 = .ok (.getfield 41, 3) := by decide +kernel
theorem dX8_append_36 : decode cX8_append 36 = .ok (.lload_n 1, 1) := by decide +kernel
theorem dX8_append_37 : decode cX8_append 37 = .ok (.bipush 8, 2) := by decide +kernel
theorem dX8_append_39 : decode cX8_append 39 = .ok (.iload 4, 2) := by decide +kernel
theorem dX8_append_41 : decode cX8_append 41 = .ok (.imul, 1) := by decide +kernel
theorem dX8_append_42 : decode cX8_append 42 = .ok (.lshr, 1) := by decide +kernel
theorem dX8_append_43 : decode cX8_append 43 = .ok (.l2i, 1) := by decide +kernel
theorem dX8_append_44 : decode cX8_append 44 = .ok (.sipush 255, 3) := by decide +kernel
theorem dX8_append_47 : decode cX8_append 47 = .ok (.iand, 1) := by decide +kernel
theorem dX8_append_48 : decode cX8_append 48 = .ok (.iastore, 1) := by decide +kernel
theorem dX8_append_49 : decode cX8_append 49 = .ok (.aload_n 0, 1) := by decide +kernel
theorem dX8_append_50 : decode cX8_append 50 = .ok (.dup, 1) := by decide +kernel
theorem dX8_append_51 : decode cX8_append 51 = .ok (.getfield 41, 3) := by decide +kernel
theorem dX8_append_54 : decode cX8_append 54 = .ok (.iconst 1, 1) := by decide +kernel
theorem dX8_append_55 : decode cX8_append 55 = .ok (.iadd, 1) := by decide +kernel
theorem dX8_append_56 : decode cX8_append 56 = .ok (.putfield 41, 3) := by decide +kernel
theorem dX8_append_59 : decode cX8_append 59 = .ok (.iinc 4 (-1), 3) := by decide +kernel
theorem dX8_append_62 : decode cX8_append 62 = .ok (.goto (-42), 3) := by decide +kernel
theorem dX8_append_65 : decode cX8_append 65 = .ok (.aload_n 0, 1) := by decide +kernel
theorem dX8_append_66 : decode cX8_append 66 = .ok (.getfield 41, 3) := by decide +kernel
theorem dX8_append_69 : decode cX8_append 69 = .ok (.ireturn, 1) := by decide +kernel
/-- the contracts of the methods that call one another, for calls n deep -/
def RecOk (l : Launch) (k : En) (S : Nat → Prop) (n : Nat) : Prop :=
  (∀ (g : Mm) (a : Int32) (res : Mm × Int32), grR n 0 g a = some res → Mt l yX5_either cX5_either 3 (some .boolean) (RmN (n + 15) (40 * n + 360)) YC S k [.ref (k.1 + adC 3 0 0), .int a] g (some (.int res.2)) res.1) ∧
  (∀ (g : Mm) (a : Int32) (res : Mm × Int32), grR n 1 g a = some res → Mt l yX5_both cX5_both 3 (some .boolean) (RmN (n + 15) (40 * n + 360)) YC S k [.ref (k.1 + adC 3 0 0), .int a] g (some (.int res.2)) res.1) ∧
  (∀ (g : Mm) (a : Int32) (res : Mm × Int32), grR n 2 g a = some res → Mt l yX5_negated cX5_negated 2 (some .boolean) (RmN (n + 15) (40 * n + 360)) YC S k [.ref (k.1 + adC 3 0 0), .int a] g (some (.int res.2)) res.1) ∧
  (∀ (g : Mm) (a : Int32) (res : Mm × Int32), grR n 3 g a = some res → Mt l yX5_compared cX5_compared 3 (some .boolean) (RmN (n + 15) (40 * n + 360)) YC S k [.ref (k.1 + adC 3 0 0), .int a] g (some (.int res.2)) res.1) ∧
  (∀ (g : Mm) (a : Int32) (res : Mm × Int32), grR n 4 g a = some res → Mt l yX5_sum cX5_sum 4 (some .boolean) (RmN (n + 15) (40 * n + 360)) YC S k [.ref (k.1 + adC 3 0 0), .int a] g (some (.int res.2)) res.1) ∧
  (∀ (g : Mm) (a : Int32) (res : Mm × Int32), grR n 5 g a = some res → Mt l yX5_term cX5_term 3 (some .boolean) (RmN (n + 15) (40 * n + 360)) YC S k [.ref (k.1 + adC 3 0 0), .int a] g (some (.int res.2)) res.1) ∧
  (∀ (g : Mm) (a : Int32) (res : Mm × Int32), grR n 6 g a = some res → Mt l yX5_one cX5_one 2 (some .boolean) (RmN (n + 15) (40 * n + 360)) YC S k [.ref (k.1 + adC 3 0 0), .int a] g (some (.int res.2)) res.1) ∧
  (∀ (g : Mm) (a : Int32) (res : Mm × Int32), grR n 7 g a = some res → Mt l yX5_enclosed cX5_enclosed 2 (some .boolean) (RmN (n + 15) (40 * n + 360)) YC S k [.ref (k.1 + adC 3 0 0), .int a] g (some (.int res.2)) res.1) ∧
  (∀ (g : Mm) (a : Int32) (res : Mm × Int32), grR n 8 g a = some res → Mt l yX5_negative cX5_negative 2 (some .boolean) (RmN (n + 15) (40 * n + 360)) YC S k [.ref (k.1 + adC 3 0 0), .int a] g (some (.int res.2)) res.1)
section WK
variable {p : Program} {l : Launch} {e : Env} {s : State} {m : MethodId} {args : Array Value} {below : List Frame} {meth : Method} {c : Code}
set_option maxHeartbeats 4000000 in
set_option maxRecDepth 20000 in
theorem kX5_isBlank (l : Launch) {k : En} {S : Nat → Prop} (hS : ∀ t, 1 ≤ t → t ≤ 8 → S t) {g0 : Mm} {a0 : Int32} {res : Int32} (hf : fX5_isBlank g0 a0 = some res) : Mt l yX5_isBlank cX5_isBlank 1 (some .boolean) (RmN 0 0) YC S k [.int a0] g0 (some (.int res)) g0 := by
  refine Mt.of (by decide) (Nat.le_of_ble_eq_true rfl) ?_
  intro p e s m args below meth c ls X _ h hl
  have X : Cx YC S k p s m args meth c cX5_isBlank 1 (some .boolean) RX5 := X
  have hl : lv_has ls 1 [(0, .int a0)] := hl
  have JR : res = res := rfl
  unfold fX5_isBlank at hf
  refine lv_iload_n X.x X.b dX5_isBlank_0 rfl (lv_at hl 0 rfl) ?_
  refine lv_bipush (v := 32) X.x X.b dX5_isBlank_1 (by decide) ?_
  refine lv_icmp_eq (tgt := 12) X.x X.b dX5_isBlank_3 (by decide) (fun c1 => ?_) (fun c1 => ?_)
  · have hf := wT c1 hf
    refine lv_iconst (v := 1) X.x X.b dX5_isBlank_12 (by decide) ?_
    refine lv_goto (tgt := 17) X.x X.b dX5_isBlank_13 (by decide) ?_
    cases (Option.some.inj hf).trans JR
    exact ro_zret X h (Or.inr rfl) dX5_isBlank_17
  · have hf := wF c1 hf
    refine lv_iload_n X.x X.b dX5_isBlank_6 rfl (lv_at hl 0 rfl) ?_
    refine lv_bipush (v := 10) X.x X.b dX5_isBlank_7 (by decide) ?_
    refine lv_icmp_ne (tgt := 16) X.x X.b dX5_isBlank_9 (by decide) (fun c2 => ?_) (fun c2 => ?_)
    · have hf := wF c2 hf
      refine lv_iconst (v := 0) X.x X.b dX5_isBlank_16 (by decide) ?_
      cases (Option.some.inj hf).trans JR
      exact ro_zret X h (Or.inl rfl) dX5_isBlank_17
    · have hf := wT c2 hf
      refine lv_iconst (v := 1) X.x X.b dX5_isBlank_12 (by decide) ?_
      refine lv_goto (tgt := 17) X.x X.b dX5_isBlank_13 (by decide) ?_
      cases (Option.some.inj hf).trans JR
      exact ro_zret X h (Or.inr rfl) dX5_isBlank_17
set_option maxHeartbeats 4000000 in
set_option maxRecDepth 20000 in
theorem kX5_isLetter (l : Launch) {k : En} {S : Nat → Prop} (hS : ∀ t, 1 ≤ t → t ≤ 8 → S t) {g0 : Mm} {a0 : Int32} {res : Int32} (hf : fX5_isLetter g0 a0 = some res) : Mt l yX5_isLetter cX5_isLetter 1 (some .boolean) (RmN 0 0) YC S k [.int a0] g0 (some (.int res)) g0 := by
  refine Mt.of (by decide) (Nat.le_of_ble_eq_true rfl) ?_
  intro p e s m args below meth c ls X _ h hl
  have X : Cx YC S k p s m args meth c cX5_isLetter 1 (some .boolean) RX5 := X
  have hl : lv_has ls 1 [(0, .int a0)] := hl
  have JR : res = res := rfl
  unfold fX5_isLetter at hf
  refine lv_iload_n X.x X.b dX5_isLetter_0 rfl (lv_at hl 0 rfl) ?_
  refine lv_bipush (v := 97) X.x X.b dX5_isLetter_1 (by decide) ?_
  refine lv_icmp_lt (tgt := 16) X.x X.b dX5_isLetter_3 (by decide) (fun c1 => ?_) (fun c1 => ?_)
  · have hf := wT c1 hf
    refine lv_iconst (v := 0) X.x X.b dX5_isLetter_16 (by decide) ?_
    cases (Option.some.inj hf).trans JR
    exact ro_zret X h (Or.inl rfl) dX5_isLetter_17
  · have hf := wF c1 hf
    refine lv_iload_n X.x X.b dX5_isLetter_6 rfl (lv_at hl 0 rfl) ?_
    refine lv_bipush (v := 122) X.x X.b dX5_isLetter_7 (by decide) ?_
    refine lv_icmp_gt (tgt := 16) X.x X.b dX5_isLetter_9 (by decide) (fun c2 => ?_) (fun c2 => ?_)
    · have hf := wT c2 hf
      refine lv_iconst (v := 0) X.x X.b dX5_isLetter_16 (by decide) ?_
      cases (Option.some.inj hf).trans JR
      exact ro_zret X h (Or.inl rfl) dX5_isLetter_17
    · have hf := wF c2 hf
      refine lv_iconst (v := 1) X.x X.b dX5_isLetter_12 (by decide) ?_
      refine lv_goto (tgt := 17) X.x X.b dX5_isLetter_13 (by decide) ?_
      cases (Option.some.inj hf).trans JR
      exact ro_zret X h (Or.inr rfl) dX5_isLetter_17
set_option maxHeartbeats 4000000 in
set_option maxRecDepth 20000 in
theorem wX5_wordOf_b81 {k : En} {S : Nat → Prop} (hS : ∀ t, 1 ≤ t → t ≤ 8 → S t) {g0 : Mm} {a1 : Int32} {a2 : Int32} {res : Int32} (X : Cx YC S k p s m args meth c cX5_wordOf 7 (some .int) RX5) {x3 : Int32} {x4 : Int32} {H : Heap} {locs : List Loc} {ls : Array Slot} (h : Hx YC S k s g0 H locs) (hl : lv_has ls 7 [(0, .ref (k.1 + adC 3 0 0)), (1, .int a1), (2, .int a2), (3, .int x3), (4, .int x4)]) {r : (Int32) ⊕ (Int32)} (hf : fX5_wordOf_b81 g0 a1 a2 x3 x4 = some r) (J1 : ∀ (x3 : Int32), r = .inl x3 → ∀ (H : Heap) (locs : List Loc) (ls : Array Slot), Hx YC S k s g0 H locs → lv_has ls 7 [(0, .ref (k.1 + adC 3 0 0)), (1, .int a1), (2, .int a2), (3, .int x3)] → W p l e (RmN 4 85) s m args below meth c H locs 0 0 (Fin YC S k args s below (some (.int res)) g0) (F0 m 2 ls [])) (JR : ∀ t1, r = .inr t1 → t1 = res) :
    W p l e (RmN 4 85) s m args below meth c H locs 0 0 (Fin YC S k args s below (some (.int res)) g0) (F0 m 81 ls []) := by
  unfold fX5_wordOf_b81 at hf
  refine lv_iload X.x X.b dX5_wordOf_81 (lv_at hl 4 rfl) ?_
  refine lv_if_eq (tgt := 88) X.x X.b dX5_wordOf_83 (by decide) (fun c16 => ?_) (fun c16 => ?_)
  · have hf := wT c16 hf
    obtain ⟨y17, e18, hf⟩ := wLe_s hf
    refine lv_iinc (v := y17) (lv' := [(3, .int y17), (0, .ref (k.1 + adC 3 0 0)), (1, .int a1), (2, .int a2), (4, .int x4)]) X.x X.b dX5_wordOf_88 hl (k := 3) rfl (by rw [e18]; rfl) (by decide) rfl (fun ls hl => ?_)
    refine lv_goto (tgt := 2) X.x X.b dX5_wordOf_91 (by decide) ?_
    exact J1 _ (Option.some.inj hf).symm _ _ _ h (lv_sub hl [1, 2, 3, 0] rfl)
  · have hf := wF c16 hf
    obtain ⟨t19, hf, e20⟩ := wEx_s hf
    have JR := JR t19 e20
    refine lv_iload_n X.x X.b dX5_wordOf_86 rfl (lv_at hl 3 rfl) ?_
    cases (Option.some.inj hf).trans JR
    exact ro_iret X h dX5_wordOf_87
set_option maxHeartbeats 4000000 in
set_option maxRecDepth 20000 in
theorem wX5_wordOf_b73 {k : En} {S : Nat → Prop} (hS : ∀ t, 1 ≤ t → t ≤ 8 → S t) {g0 : Mm} {a1 : Int32} {a2 : Int32} {res : Int32} (X : Cx YC S k p s m args meth c cX5_wordOf 7 (some .int) RX5) {x3 : Int32} {x5 : Int32} {z0 : Int32} {H : Heap} {locs : List Loc} {ls : Array Slot} (h : Hx YC S k s g0 H locs) (hl : lv_has ls 7 [(0, .ref (k.1 + adC 3 0 0)), (1, .int a1), (2, .int a2), (3, .int x3), (5, .int x5)]) {r : (Int32 × Int32) ⊕ ((Int32) ⊕ (Int32))} (hf : fX5_wordOf_b73 g0 a1 a2 x3 x5 z0 = some r) (J1 : ∀ (x4 : Int32) (x5 : Int32), r = .inl (x4, x5) → ∀ (H : Heap) (locs : List Loc) (ls : Array Slot), Hx YC S k s g0 H locs → lv_has ls 7 [(0, .ref (k.1 + adC 3 0 0)), (1, .int a1), (2, .int a2), (3, .int x3), (4, .int x4), (5, .int x5)] → W p l e (RmN 4 85) s m args below meth c H locs 0 0 (Fin YC S k args s below (some (.int res)) g0) (F0 m 19 ls [])) (J2 : ∀ t1, r = .inr t1 → ∀ (x3 : Int32), t1 = .inl x3 → ∀ (H : Heap) (locs : List Loc) (ls : Array Slot), Hx YC S k s g0 H locs → lv_has ls 7 [(0, .ref (k.1 + adC 3 0 0)), (1, .int a1), (2, .int a2), (3, .int x3)] → W p l e (RmN 4 85) s m args below meth c H locs 0 0 (Fin YC S k args s below (some (.int res)) g0) (F0 m 2 ls [])) (JR : ∀ t1, r = .inr t1 → ∀ t2, t1 = .inr t2 → t2 = res) :
    W p l e (RmN 4 85) s m args below meth c H locs 0 0 (Fin YC S k args s below (some (.int res)) g0) (F0 m 73 ls [.int z0]) := by
  unfold fX5_wordOf_b73 at hf
  refine lv_istore (lv' := [(4, .int z0), (0, .ref (k.1 + adC 3 0 0)), (1, .int a1), (2, .int a2), (3, .int x3), (5, .int x5)]) X.x X.b dX5_wordOf_73 hl (by decide) rfl (fun ls hl => ?_)
  obtain ⟨y28, e29, hf⟩ := wLe_s hf
  refine lv_iinc (v := y28) (lv' := [(5, .int y28), (4, .int z0), (0, .ref (k.1 + adC 3 0 0)), (1, .int a1), (2, .int a2), (3, .int x3)]) X.x X.b dX5_wordOf_75 hl (k := 5) rfl (by rw [e29]; rfl) (by decide) rfl (fun ls hl => ?_)
  refine lv_goto (tgt := 19) X.x X.b dX5_wordOf_78 (by decide) ?_
  exact J1 _ _ (Option.some.inj hf).symm _ _ _ h (lv_sub hl [2, 3, 4, 5, 1, 0] rfl)
set_option maxHeartbeats 4000000 in
set_option maxRecDepth 20000 in
theorem wX5_wordOf_b50 {k : En} {S : Nat → Prop} (hS : ∀ t, 1 ≤ t → t ≤ 8 → S t) {g0 : Mm} {a1 : Int32} {a2 : Int32} {res : Int32} (X : Cx YC S k p s m args meth c cX5_wordOf 7 (some .int) RX5) {x3 : Int32} {x5 : Int32} {z0 : Int32} {H : Heap} {locs : List Loc} {ls : Array Slot} (h : Hx YC S k s g0 H locs) (hl : lv_has ls 7 [(0, .ref (k.1 + adC 3 0 0)), (1, .int a1), (2, .int a2), (3, .int x3), (5, .int x5)]) {r : (Int32 × Int32) ⊕ ((Int32) ⊕ (Int32))} (hf : fX5_wordOf_b50 g0 a1 a2 x3 x5 z0 = some r) (J1 : ∀ (x4 : Int32) (x5 : Int32), r = .inl (x4, x5) → ∀ (H : Heap) (locs : List Loc) (ls : Array Slot), Hx YC S k s g0 H locs → lv_has ls 7 [(0, .ref (k.1 + adC 3 0 0)), (1, .int a1), (2, .int a2), (3, .int x3), (4, .int x4), (5, .int x5)] → W p l e (RmN 4 85) s m args below meth c H locs 0 0 (Fin YC S k args s below (some (.int res)) g0) (F0 m 19 ls [])) (J2 : ∀ t1, r = .inr t1 → ∀ (x3 : Int32), t1 = .inl x3 → ∀ (H : Heap) (locs : List Loc) (ls : Array Slot), Hx YC S k s g0 H locs → lv_has ls 7 [(0, .ref (k.1 + adC 3 0 0)), (1, .int a1), (2, .int a2), (3, .int x3)] → W p l e (RmN 4 85) s m args below meth c H locs 0 0 (Fin YC S k args s below (some (.int res)) g0) (F0 m 2 ls [])) (JR : ∀ t1, r = .inr t1 → ∀ t2, t1 = .inr t2 → t2 = res) :
    W p l e (RmN 4 85) s m args below meth c H locs 0 0 (Fin YC S k args s below (some (.int res)) g0) (F0 m 50 ls [.int z0]) := by
  unfold fX5_wordOf_b50 at hf
  refine lv_istore (lv' := [(6, .int z0), (0, .ref (k.1 + adC 3 0 0)), (1, .int a1), (2, .int a2), (3, .int x3), (5, .int x5)]) X.x X.b dX5_wordOf_50 hl (by decide) rfl (fun ls hl => ?_)
  refine ro_lds X h 2 rfl dX5_wordOf_52 ?_
  refine lv_iload_n X.x X.b dX5_wordOf_54 rfl (lv_at hl 4 rfl) ?_
  refine lv_iconst (v := 5) X.x X.b dX5_wordOf_55 (by decide) ?_
  refine lv_imul X.x X.b dX5_wordOf_56 ?_
  refine lv_iload X.x X.b dX5_wordOf_57 (lv_at hl 5 rfl) ?_
  refine lv_iadd X.x X.b dX5_wordOf_59 ?_
  obtain ⟨y26, e25, hf⟩ := wBd_s hf
  refine ro_callvI (As := [.int ((x3 * (5 : Int32)) + x5)]) (g1 := g0) (x := y26) X h (kX100_charAt l trivial (Nat.le_of_ble_eq_true rfl) e25) mv_X100_charAt lk_X5_110 ⟨rfl, rfl⟩ ⟨(Nat.le_of_ble_eq_true rfl), (Nat.le_of_ble_eq_true rfl)⟩ (r_str X h (Nat.le_of_ble_eq_true rfl)) rfl hl rfl (Nat.le_of_ble_eq_true rfl) ⟨Nat.zero_le _, Nat.zero_le _⟩ dX5_wordOf_60 (fun H locs h => ?_)
  refine lv_iload X.x X.b dX5_wordOf_63 (lv_at hl 0 rfl) ?_
  refine lv_icmp_ne (tgt := 72) X.x X.b dX5_wordOf_65 (by decide) (fun c27 => ?_) (fun c27 => ?_)
  · have hf := wF c27 hf
    refine lv_iconst (v := 0) X.x X.b dX5_wordOf_72 (by decide) ?_
    exact wX5_wordOf_b73 hS X h (lv_sub hl [1, 2, 3, 4, 5] rfl) hf J1 J2 JR
  · have hf := wT c27 hf
    refine lv_iconst (v := 1) X.x X.b dX5_wordOf_68 (by decide) ?_
    refine lv_goto (tgt := 73) X.x X.b dX5_wordOf_69 (by decide) ?_
    exact wX5_wordOf_b73 hS X h (lv_sub hl [1, 2, 3, 4, 5] rfl) hf J1 J2 JR
set_option maxHeartbeats 4000000 in
set_option maxRecDepth 20000 in
theorem wX5_wordOf_L19 {k : En} {S : Nat → Prop} (hS : ∀ t, 1 ≤ t → t ≤ 8 → S t) {g0 : Mm} {a1 : Int32} {a2 : Int32} {res : Int32} (X : Cx YC S k p s m args meth c cX5_wordOf 7 (some .int) RX5) {x3 : Int32} {r : (Int32) ⊕ (Int32)} (J1 : ∀ (x3 : Int32), r = .inl x3 → ∀ (H : Heap) (locs : List Loc) (ls : Array Slot), Hx YC S k s g0 H locs → lv_has ls 7 [(0, .ref (k.1 + adC 3 0 0)), (1, .int a1), (2, .int a2), (3, .int x3)] → W p l e (RmN 4 85) s m args below meth c H locs 0 0 (Fin YC S k args s below (some (.int res)) g0) (F0 m 2 ls [])) (JR : ∀ t1, r = .inr t1 → t1 = res) :
    ∀ (fu : Nat) (x4 : Int32) (x5 : Int32) (H : Heap) (locs : List Loc) (ls : Array Slot), Hx YC S k s g0 H locs → lv_has ls 7 [(0, .ref (k.1 + adC 3 0 0)), (1, .int a1), (2, .int a2), (3, .int x3), (4, .int x4), (5, .int x5)] → wLp (fun q => fX5_wordOf_B19 g0 a1 a2 x3 q.1 q.2) fu (x4, x5) = some r → W p l e (RmN 4 85) s m args below meth c H locs 0 0 (Fin YC S k args s below (some (.int res)) g0) (F0 m 19 ls []) := by
  intro fu
  induction fu with
  | zero => intro x4 x5 H locs ls h hl hf; exact (wLp_0 hf).elim
  | succ fu ih1 =>
    intro x4 x5 H locs ls h hl hf
    obtain ⟨r1, hf, hr⟩ := wLp_s hf
    have J1n : ∀ (x4 : Int32) (x5 : Int32), r1 = .inl (x4, x5) → ∀ (H : Heap) (locs : List Loc) (ls : Array Slot), Hx YC S k s g0 H locs → lv_has ls 7 [(0, .ref (k.1 + adC 3 0 0)), (1, .int a1), (2, .int a2), (3, .int x3), (4, .int x4), (5, .int x5)] → W p l e (RmN 4 85) s m args below meth c H locs 0 0 (Fin YC S k args s below (some (.int res)) g0) (F0 m 19 ls []) := fun x4 x5 q H locs ls h hl => by subst q; exact ih1 _ _ _ _ _ h hl hr
    have J2n : ∀ t1, r1 = .inr t1 → ∀ (x3 : Int32), t1 = .inl x3 → ∀ (H : Heap) (locs : List Loc) (ls : Array Slot), Hx YC S k s g0 H locs → lv_has ls 7 [(0, .ref (k.1 + adC 3 0 0)), (1, .int a1), (2, .int a2), (3, .int x3)] → W p l e (RmN 4 85) s m args below meth c H locs 0 0 (Fin YC S k args s below (some (.int res)) g0) (F0 m 2 ls []) := fun t1 q => by subst q; obtain rfl := Option.some.inj hr; exact J1
    have JRn : ∀ t1, r1 = .inr t1 → ∀ t2, t1 = .inr t2 → t2 = res := fun t1 q => by subst q; obtain rfl := Option.some.inj hr; exact JR
    have J1 := J1n
    have J2 := J2n
    have JR := JRn
    clear J1n J2n JRn
    have hf : fX5_wordOf_B19 g0 a1 a2 x3 x4 x5 = some r1 := hf
    unfold fX5_wordOf_B19 at hf
    refine lv_iload X.x X.b dX5_wordOf_19 (lv_at hl 5 rfl) ?_
    refine lv_iconst (v := 5) X.x X.b dX5_wordOf_21 (by decide) ?_
    refine lv_icmp_ge (tgt := 81) X.x X.b dX5_wordOf_22 (by decide) (fun c13 => ?_) (fun c13 => ?_)
    · have hf := wT c13 hf
      obtain ⟨t14, hf, e15⟩ := wEx_s hf
      have J1 := J2 t14 e15
      have JR := JR t14 e15
      exact wX5_wordOf_b81 hS X h (lv_sub hl [0, 1, 2, 3, 4] rfl) hf J1 JR
    · have hf := wF c13 hf
      refine lv_iload X.x X.b dX5_wordOf_25 (lv_at hl 4 rfl) ?_
      refine lv_if_eq (tgt := 81) X.x X.b dX5_wordOf_27 (by decide) (fun c21 => ?_) (fun c21 => ?_)
      · have hf := wT c21 hf
        obtain ⟨t22, hf, e23⟩ := wEx_s hf
        have J1 := J2 t22 e23
        have JR := JR t22 e23
        exact wX5_wordOf_b81 hS X h (lv_sub hl [0, 1, 2, 3, 4] rfl) hf J1 JR
      · have hf := wF c21 hf
        refine lv_iload X.x X.b dX5_wordOf_30 (lv_at hl 5 rfl) ?_
        refine lv_iload_n X.x X.b dX5_wordOf_32 rfl (lv_at hl 2 rfl) ?_
        refine lv_icmp_ge (tgt := 48) X.x X.b dX5_wordOf_33 (by decide) (fun c24 => ?_) (fun c24 => ?_)
        · have hf := wT c24 hf
          refine lv_bipush (v := 32) X.x X.b dX5_wordOf_48 (by decide) ?_
          exact wX5_wordOf_b50 hS X h (lv_sub hl [0, 1, 2, 3, 5] rfl) hf J1 J2 JR
        · have hf := wF c24 hf
          refine lv_aload_n X.x X.b dX5_wordOf_36 rfl (lv_at hl 0 rfl) ?_
          refine gC_3_0 X h (hS 3 (Nat.le_of_ble_eq_true rfl) (Nat.le_of_ble_eq_true rfl)) Nat.one_pos Nat.one_pos lk_X5_9 dX5_wordOf_37 ?_
          refine lv_iload_n X.x X.b dX5_wordOf_40 rfl (lv_at hl 1 rfl) ?_
          refine lv_iload X.x X.b dX5_wordOf_41 (lv_at hl 5 rfl) ?_
          refine lv_iadd X.x X.b dX5_wordOf_43 ?_
          obtain ⟨b30, hf⟩ := wGi_s hf
          refine aC_4 X h (hS 4 (Nat.le_of_ble_eq_true rfl) (Nat.le_of_ble_eq_true rfl)) Nat.one_pos Nat.one_pos b30 dX5_wordOf_44 ?_
          refine lv_goto (tgt := 50) X.x X.b dX5_wordOf_45 (by decide) ?_
          exact wX5_wordOf_b50 hS X h (lv_sub hl [0, 1, 2, 3, 5] rfl) hf J1 J2 JR
set_option maxHeartbeats 4000000 in
set_option maxRecDepth 20000 in
theorem wX5_wordOf_L2 {k : En} {S : Nat → Prop} (hS : ∀ t, 1 ≤ t → t ≤ 8 → S t) {g0 : Mm} {a1 : Int32} {a2 : Int32} {res : Int32} (X : Cx YC S k p s m args meth c cX5_wordOf 7 (some .int) RX5) {r : Int32} (JR : r = res) :
    ∀ (fu : Nat) (x3 : Int32) (H : Heap) (locs : List Loc) (ls : Array Slot), Hx YC S k s g0 H locs → lv_has ls 7 [(0, .ref (k.1 + adC 3 0 0)), (1, .int a1), (2, .int a2), (3, .int x3)] → wLp (fun q => fX5_wordOf_B2 g0 a1 a2 q) fu x3 = some r → W p l e (RmN 4 85) s m args below meth c H locs 0 0 (Fin YC S k args s below (some (.int res)) g0) (F0 m 2 ls []) := by
  intro fu
  induction fu with
  | zero => intro x3 H locs ls h hl hf; exact (wLp_0 hf).elim
  | succ fu ih1 =>
    intro x3 H locs ls h hl hf
    obtain ⟨r1, hf, hr⟩ := wLp_s hf
    have J1n : ∀ (x3 : Int32), r1 = .inl x3 → ∀ (H : Heap) (locs : List Loc) (ls : Array Slot), Hx YC S k s g0 H locs → lv_has ls 7 [(0, .ref (k.1 + adC 3 0 0)), (1, .int a1), (2, .int a2), (3, .int x3)] → W p l e (RmN 4 85) s m args below meth c H locs 0 0 (Fin YC S k args s below (some (.int res)) g0) (F0 m 2 ls []) := fun x3 q H locs ls h hl => by subst q; exact ih1 _ _ _ _ h hl hr
    have JRn : ∀ t1, r1 = .inr t1 → t1 = res := fun t1 q => by subst q; obtain rfl := Option.some.inj hr; exact JR
    have J1 := J1n
    have JR := JRn
    clear J1n JRn
    have hf : fX5_wordOf_B2 g0 a1 a2 x3 = some r1 := hf
    unfold fX5_wordOf_B2 at hf
    refine lv_iload_n X.x X.b dX5_wordOf_2 rfl (lv_at hl 3 rfl) ?_
    refine lv_bipush (v := 14) X.x X.b dX5_wordOf_3 (by decide) ?_
    refine lv_icmp_ge (tgt := 94) X.x X.b dX5_wordOf_5 (by decide) (fun c3 => ?_) (fun c3 => ?_)
    · have hf := wT c3 hf
      obtain ⟨t4, hf, e5⟩ := wEx_s hf
      have JR := JR t4 e5
      refine lv_iconst (v := (-1)) X.x X.b dX5_wordOf_94 (by decide) ?_
      cases (Option.some.inj hf).trans JR
      exact ro_iret X h dX5_wordOf_95
    · have hf := wF c3 hf
      refine lv_iload_n X.x X.b dX5_wordOf_8 rfl (lv_at hl 2 rfl) ?_
      refine lv_iconst (v := 5) X.x X.b dX5_wordOf_9 (by decide) ?_
      refine lv_icmp_ge (tgt := 94) X.x X.b dX5_wordOf_10 (by decide) (fun c6 => ?_) (fun c6 => ?_)
      · have hf := wT c6 hf
        obtain ⟨t7, hf, e8⟩ := wEx_s hf
        have JR := JR t7 e8
        refine lv_iconst (v := (-1)) X.x X.b dX5_wordOf_94 (by decide) ?_
        cases (Option.some.inj hf).trans JR
        exact ro_iret X h dX5_wordOf_95
      · have hf := wF c6 hf
        refine lv_iconst (v := 1) X.x X.b dX5_wordOf_13 (by decide) ?_
        obtain ⟨y9, e10, hf⟩ := wLe_s hf
        refine lv_nmi e10 ?_
        refine lv_istore (lv' := [(4, .int y9), (0, .ref (k.1 + adC 3 0 0)), (1, .int a1), (2, .int a2), (3, .int x3)]) X.x X.b dX5_wordOf_14 hl (by decide) rfl (fun ls hl => ?_)
        refine lv_iconst (v := 0) X.x X.b dX5_wordOf_16 (by decide) ?_
        obtain ⟨y11, e12, hf⟩ := wLe_s hf
        refine lv_nmi e12 ?_
        refine lv_istore (lv' := [(5, .int y11), (4, .int y9), (0, .ref (k.1 + adC 3 0 0)), (1, .int a1), (2, .int a2), (3, .int x3)]) X.x X.b dX5_wordOf_17 hl (by decide) rfl (fun ls hl => ?_)
        exact wX5_wordOf_L19 hS X J1 JR _ _ _ _ _ _ h (lv_sub hl [2, 3, 4, 5, 1, 0] rfl) hf
set_option maxHeartbeats 4000000 in
set_option maxRecDepth 20000 in
theorem kX5_wordOf (l : Launch) {k : En} {S : Nat → Prop} (hS : ∀ t, 1 ≤ t → t ≤ 8 → S t) {g0 : Mm} {a1 : Int32} {a2 : Int32} {res : Int32} (hf : fX5_wordOf g0 a1 a2 = some res) : Mt l yX5_wordOf cX5_wordOf 7 (some .int) (RmN 4 85) YC S k [.ref (k.1 + adC 3 0 0), .int a1, .int a2] g0 (some (.int res)) g0 := by
  refine Mt.of (by decide) (Nat.le_of_ble_eq_true rfl) ?_
  intro p e s m args below meth c ls X _ h hl
  have X : Cx YC S k p s m args meth c cX5_wordOf 7 (some .int) RX5 := X
  have hl : lv_has ls 7 [(0, .ref (k.1 + adC 3 0 0)), (1, .int a1), (2, .int a2)] := hl
  have JR : res = res := rfl
  unfold fX5_wordOf at hf
  refine lv_iconst (v := 0) X.x X.b dX5_wordOf_0 (by decide) ?_
  obtain ⟨y1, e2, hf⟩ := wLe_s hf
  refine lv_nmi e2 ?_
  refine lv_istore_n (lv' := [(3, .int y1), (0, .ref (k.1 + adC 3 0 0)), (1, .int a1), (2, .int a2)]) X.x X.b dX5_wordOf_1 rfl hl (by decide) rfl (fun ls hl => ?_)
  exact wX5_wordOf_L2 hS X JR _ _ _ _ _ h (lv_sub hl [1, 2, 3, 0] rfl) hf
set_option maxHeartbeats 4000000 in
set_option maxRecDepth 20000 in
theorem wX5_readWord_b39 {k : En} {S : Nat → Prop} (hS : ∀ t, 1 ≤ t → t ≤ 8 → S t) {res : Mm} (X : Cx YC S k p s m args meth c cX5_readWord 1 none RX5) {g : Mm} {H : Heap} {locs : List Loc} {ls : Array Slot} (h : Hx YC S k s g H locs) (hl : lv_has ls 1 [(0, .ref (k.1 + adC 3 0 0))]) {r : Mm} (hf : fX5_readWord_b39 g = some r) (JR : r = res) :
    W p l e (RmN 5 111) s m args below meth c H locs 0 0 (Fin YC S k args s below none res) (F0 m 39 ls []) := by
  unfold fX5_readWord_b39 at hf
  refine lv_aload_n X.x X.b dX5_readWord_39 rfl (lv_at hl 0 rfl) ?_
  refine lv_aload_n X.x X.b dX5_readWord_40 rfl (lv_at hl 0 rfl) ?_
  refine lv_aload_n X.x X.b dX5_readWord_41 rfl (lv_at hl 0 rfl) ?_
  refine gC_3_4 X h (hS 3 (Nat.le_of_ble_eq_true rfl) (Nat.le_of_ble_eq_true rfl)) Nat.one_pos Nat.one_pos lk_X5_38 dX5_readWord_42 ?_
  refine lv_aload_n X.x X.b dX5_readWord_45 rfl (lv_at hl 0 rfl) ?_
  refine gC_3_2 X h (hS 3 (Nat.le_of_ble_eq_true rfl) (Nat.le_of_ble_eq_true rfl)) Nat.one_pos Nat.one_pos lk_X5_19 dX5_readWord_46 ?_
  refine lv_aload_n X.x X.b dX5_readWord_49 rfl (lv_at hl 0 rfl) ?_
  refine gC_3_4 X h (hS 3 (Nat.le_of_ble_eq_true rfl) (Nat.le_of_ble_eq_true rfl)) Nat.one_pos Nat.one_pos lk_X5_38 dX5_readWord_50 ?_
  refine lv_isub X.x X.b dX5_readWord_53 ?_
  obtain ⟨y5, e4, hf⟩ := wBd_s hf
  refine ro_callvI (As := [.int (g 3 0 0 4), .int ((g 3 0 0 2) - (g 3 0 0 4))]) (g1 := g) (x := y5) X h (kX5_wordOf l hS e4) mv_X5_wordOf lk_X5_104 ⟨rfl, rfl⟩ ⟨(Nat.le_of_ble_eq_true rfl), (Nat.le_of_ble_eq_true rfl)⟩ (rC_3 X h (hS 3 (Nat.le_of_ble_eq_true rfl) (Nat.le_of_ble_eq_true rfl)) Nat.one_pos Nat.one_pos) rfl hl rfl (Nat.le_of_ble_eq_true rfl) ⟨Nat.zero_le _, Nat.zero_le _⟩ dX5_readWord_54 (fun H locs h => ?_)
  obtain ⟨g6, e7, hf⟩ := wLe_s hf
  refine pC_3_5 X h (hS 3 (Nat.le_of_ble_eq_true rfl) (Nat.le_of_ble_eq_true rfl)) Nat.one_pos Nat.one_pos lk_X5_72 e7 dX5_readWord_57 (fun H locs h => ?_)
  refine lv_aload_n X.x X.b dX5_readWord_60 rfl (lv_at hl 0 rfl) ?_
  refine lv_aload_n X.x X.b dX5_readWord_61 rfl (lv_at hl 0 rfl) ?_
  refine gC_3_5 X h (hS 3 (Nat.le_of_ble_eq_true rfl) (Nat.le_of_ble_eq_true rfl)) Nat.one_pos Nat.one_pos lk_X5_72 dX5_readWord_62 ?_
  refine lv_if_ge (tgt := 74) X.x X.b dX5_readWord_65 (by decide) (fun c8 => ?_) (fun c8 => ?_)
  · have hf := wT c8 hf
    refine lv_sipush (v := 259) X.x X.b dX5_readWord_74 (by decide) ?_
    obtain ⟨g9, e10, hf⟩ := wLe_s hf
    refine pC_3_3 X h (hS 3 (Nat.le_of_ble_eq_true rfl) (Nat.le_of_ble_eq_true rfl)) Nat.one_pos Nat.one_pos lk_X5_44 e10 dX5_readWord_77 (fun H locs h => ?_)
    cases (Option.some.inj hf).trans JR
    exact ro_vret X h dX5_readWord_80
  · have hf := wF c8 hf
    refine lv_sipush (v := 257) X.x X.b dX5_readWord_68 (by decide) ?_
    refine lv_goto (tgt := 77) X.x X.b dX5_readWord_71 (by decide) ?_
    obtain ⟨g11, e12, hf⟩ := wLe_s hf
    refine pC_3_3 X h (hS 3 (Nat.le_of_ble_eq_true rfl) (Nat.le_of_ble_eq_true rfl)) Nat.one_pos Nat.one_pos lk_X5_44 e12 dX5_readWord_77 (fun H locs h => ?_)
    cases (Option.some.inj hf).trans JR
    exact ro_vret X h dX5_readWord_80
set_option maxHeartbeats 4000000 in
set_option maxRecDepth 20000 in
theorem wX5_readWord_L0 {k : En} {S : Nat → Prop} (hS : ∀ t, 1 ≤ t → t ≤ 8 → S t) {res : Mm} (X : Cx YC S k p s m args meth c cX5_readWord 1 none RX5) {r : Mm} (JR : r = res) :
    ∀ (fu : Nat) (g : Mm) (H : Heap) (locs : List Loc) (ls : Array Slot), Hx YC S k s g H locs → lv_has ls 1 [(0, .ref (k.1 + adC 3 0 0))] → wLp (fun q => fX5_readWord_B0 q) fu g = some r → W p l e (RmN 5 111) s m args below meth c H locs 0 0 (Fin YC S k args s below none res) (F0 m 0 ls []) := by
  intro fu
  induction fu with
  | zero => intro g H locs ls h hl hf; exact (wLp_0 hf).elim
  | succ fu ih1 =>
    intro g H locs ls h hl hf
    obtain ⟨r1, hf, hr⟩ := wLp_s hf
    have J1n : ∀ (g : Mm), r1 = .inl g → ∀ (H : Heap) (locs : List Loc) (ls : Array Slot), Hx YC S k s g H locs → lv_has ls 1 [(0, .ref (k.1 + adC 3 0 0))] → W p l e (RmN 5 111) s m args below meth c H locs 0 0 (Fin YC S k args s below none res) (F0 m 0 ls []) := fun g q H locs ls h hl => by subst q; exact ih1 _ _ _ _ h hl hr
    have JRn : ∀ t1, r1 = .inr t1 → t1 = res := fun t1 q => by subst q; obtain rfl := Option.some.inj hr; exact JR
    have J1 := J1n
    have JR := JRn
    clear J1n JRn
    have hf : fX5_readWord_B0 g = some r1 := hf
    unfold fX5_readWord_B0 at hf
    refine lv_aload_n X.x X.b dX5_readWord_0 rfl (lv_at hl 0 rfl) ?_
    refine gC_3_2 X h (hS 3 (Nat.le_of_ble_eq_true rfl) (Nat.le_of_ble_eq_true rfl)) Nat.one_pos Nat.one_pos lk_X5_19 dX5_readWord_1 ?_
    refine lv_aload_n X.x X.b dX5_readWord_4 rfl (lv_at hl 0 rfl) ?_
    refine gC_3_1 X h (hS 3 (Nat.le_of_ble_eq_true rfl) (Nat.le_of_ble_eq_true rfl)) Nat.one_pos Nat.one_pos lk_X5_15 dX5_readWord_5 ?_
    refine lv_icmp_ge (tgt := 39) X.x X.b dX5_readWord_8 (by decide) (fun c1 => ?_) (fun c1 => ?_)
    · have hf := wT c1 hf
      obtain ⟨t2, hf, e3⟩ := wEx_s hf
      have JR := JR t2 e3
      exact wX5_readWord_b39 hS X h (lv_sub hl [0] rfl) hf JR
    · have hf := wF c1 hf
      refine lv_aload_n X.x X.b dX5_readWord_11 rfl (lv_at hl 0 rfl) ?_
      refine gC_3_0 X h (hS 3 (Nat.le_of_ble_eq_true rfl) (Nat.le_of_ble_eq_true rfl)) Nat.one_pos Nat.one_pos lk_X5_9 dX5_readWord_12 ?_
      refine lv_aload_n X.x X.b dX5_readWord_15 rfl (lv_at hl 0 rfl) ?_
      refine gC_3_2 X h (hS 3 (Nat.le_of_ble_eq_true rfl) (Nat.le_of_ble_eq_true rfl)) Nat.one_pos Nat.one_pos lk_X5_19 dX5_readWord_16 ?_
      obtain ⟨b13, hf⟩ := wGi_s hf
      refine aC_4 X h (hS 4 (Nat.le_of_ble_eq_true rfl) (Nat.le_of_ble_eq_true rfl)) Nat.one_pos Nat.one_pos b13 dX5_readWord_19 ?_
      obtain ⟨y15, e14, hf⟩ := wBd_s hf
      refine ro_callsI (As := [.int (g 4 0 0 (g 3 0 0 2).toNatClampNeg)]) (g1 := g) (x := y15) X h (kX5_isLetter l hS e14) mv_X5_isLetter lk_X5_84 ⟨rfl, rfl⟩ ⟨(Nat.le_of_ble_eq_true rfl), (Nat.le_of_ble_eq_true rfl)⟩ rfl hl rfl (Nat.le_of_ble_eq_true rfl) ⟨Nat.zero_le _, Nat.zero_le _⟩ dX5_readWord_20 (fun H locs h => ?_)
      refine lv_if_eq (tgt := 39) X.x X.b dX5_readWord_23 (by decide) (fun c16 => ?_) (fun c16 => ?_)
      · have hf := wT c16 hf
        obtain ⟨t17, hf, e18⟩ := wEx_s hf
        have JR := JR t17 e18
        exact wX5_readWord_b39 hS X h (lv_sub hl [0] rfl) hf JR
      · have hf := wF c16 hf
        refine lv_aload_n X.x X.b dX5_readWord_26 rfl (lv_at hl 0 rfl) ?_
        refine lv_dup X.x X.b dX5_readWord_27 rfl ?_
        refine gC_3_2 X h (hS 3 (Nat.le_of_ble_eq_true rfl) (Nat.le_of_ble_eq_true rfl)) Nat.one_pos Nat.one_pos lk_X5_19 dX5_readWord_28 ?_
        refine lv_iconst (v := 1) X.x X.b dX5_readWord_31 (by decide) ?_
        refine lv_iadd X.x X.b dX5_readWord_32 ?_
        obtain ⟨g19, e20, hf⟩ := wLe_s hf
        refine pC_3_2 X h (hS 3 (Nat.le_of_ble_eq_true rfl) (Nat.le_of_ble_eq_true rfl)) Nat.one_pos Nat.one_pos lk_X5_19 e20 dX5_readWord_33 (fun H locs h => ?_)
        refine lv_goto (tgt := 0) X.x X.b dX5_readWord_36 (by decide) ?_
        exact J1 _ (Option.some.inj hf).symm _ _ _ h (lv_sub hl [0] rfl)
set_option maxHeartbeats 4000000 in
set_option maxRecDepth 20000 in
theorem kX5_readWord (l : Launch) {k : En} {S : Nat → Prop} (hS : ∀ t, 1 ≤ t → t ≤ 8 → S t) {res : Mm} {g : Mm} (hf : fX5_readWord g = some res) : Mt l yX5_readWord cX5_readWord 1 none (RmN 5 111) YC S k [.ref (k.1 + adC 3 0 0)] g none res := by
  refine Mt.of (by decide) (Nat.le_of_ble_eq_true rfl) ?_
  intro p e s m args below meth c ls X _ h hl
  have X : Cx YC S k p s m args meth c cX5_readWord 1 none RX5 := X
  have hl : lv_has ls 1 [(0, .ref (k.1 + adC 3 0 0))] := hl
  have JR : res = res := rfl
  unfold fX5_readWord at hf
  exact wX5_readWord_L0 hS X JR _ _ _ _ _ h (lv_sub hl [0] rfl) hf
set_option maxHeartbeats 4000000 in
set_option maxRecDepth 20000 in
theorem kX5_isDigit (l : Launch) {k : En} {S : Nat → Prop} (hS : ∀ t, 1 ≤ t → t ≤ 8 → S t) {g0 : Mm} {a0 : Int32} {res : Int32} (hf : fX5_isDigit g0 a0 = some res) : Mt l yX5_isDigit cX5_isDigit 1 (some .boolean) (RmN 0 0) YC S k [.int a0] g0 (some (.int res)) g0 := by
  refine Mt.of (by decide) (Nat.le_of_ble_eq_true rfl) ?_
  intro p e s m args below meth c ls X _ h hl
  have X : Cx YC S k p s m args meth c cX5_isDigit 1 (some .boolean) RX5 := X
  have hl : lv_has ls 1 [(0, .int a0)] := hl
  have JR : res = res := rfl
  unfold fX5_isDigit at hf
  refine lv_iload_n X.x X.b dX5_isDigit_0 rfl (lv_at hl 0 rfl) ?_
  refine lv_bipush (v := 48) X.x X.b dX5_isDigit_1 (by decide) ?_
  refine lv_icmp_lt (tgt := 16) X.x X.b dX5_isDigit_3 (by decide) (fun c1 => ?_) (fun c1 => ?_)
  · have hf := wT c1 hf
    refine lv_iconst (v := 0) X.x X.b dX5_isDigit_16 (by decide) ?_
    cases (Option.some.inj hf).trans JR
    exact ro_zret X h (Or.inl rfl) dX5_isDigit_17
  · have hf := wF c1 hf
    refine lv_iload_n X.x X.b dX5_isDigit_6 rfl (lv_at hl 0 rfl) ?_
    refine lv_bipush (v := 57) X.x X.b dX5_isDigit_7 (by decide) ?_
    refine lv_icmp_gt (tgt := 16) X.x X.b dX5_isDigit_9 (by decide) (fun c2 => ?_) (fun c2 => ?_)
    · have hf := wT c2 hf
      refine lv_iconst (v := 0) X.x X.b dX5_isDigit_16 (by decide) ?_
      cases (Option.some.inj hf).trans JR
      exact ro_zret X h (Or.inl rfl) dX5_isDigit_17
    · have hf := wF c2 hf
      refine lv_iconst (v := 1) X.x X.b dX5_isDigit_12 (by decide) ?_
      refine lv_goto (tgt := 17) X.x X.b dX5_isDigit_13 (by decide) ?_
      cases (Option.some.inj hf).trans JR
      exact ro_zret X h (Or.inr rfl) dX5_isDigit_17
set_option maxHeartbeats 4000000 in
set_option maxRecDepth 20000 in
theorem wX5_readNumber_b81 {k : En} {S : Nat → Prop} (hS : ∀ t, 1 ≤ t → t ≤ 8 → S t) {res : Mm} (X : Cx YC S k p s m args meth c cX5_readNumber 1 none RX5) {g : Mm} {H : Heap} {locs : List Loc} {ls : Array Slot} (h : Hx YC S k s g H locs) (hl : lv_has ls 1 [(0, .ref (k.1 + adC 3 0 0))]) {r : Mm} (hf : fX5_readNumber_b81 g = some r) (JR : r = res) :
    W p l e (RmN 1 20) s m args below meth c H locs 0 0 (Fin YC S k args s below none res) (F0 m 81 ls []) := by
  unfold fX5_readNumber_b81 at hf
  refine lv_aload_n X.x X.b dX5_readNumber_81 rfl (lv_at hl 0 rfl) ?_
  refine lv_aload_n X.x X.b dX5_readNumber_82 rfl (lv_at hl 0 rfl) ?_
  refine gC_3_2 X h (hS 3 (Nat.le_of_ble_eq_true rfl) (Nat.le_of_ble_eq_true rfl)) Nat.one_pos Nat.one_pos lk_X5_19 dX5_readNumber_83 ?_
  refine lv_aload_n X.x X.b dX5_readNumber_86 rfl (lv_at hl 0 rfl) ?_
  refine gC_3_4 X h (hS 3 (Nat.le_of_ble_eq_true rfl) (Nat.le_of_ble_eq_true rfl)) Nat.one_pos Nat.one_pos lk_X5_38 dX5_readNumber_87 ?_
  refine lv_isub X.x X.b dX5_readNumber_90 ?_
  refine lv_iconst (v := 4) X.x X.b dX5_readNumber_91 (by decide) ?_
  refine lv_icmp_le (tgt := 101) X.x X.b dX5_readNumber_92 (by decide) (fun c6 => ?_) (fun c6 => ?_)
  · have hf := wT c6 hf
    refine lv_sipush (v := 258) X.x X.b dX5_readNumber_101 (by decide) ?_
    obtain ⟨g7, e8, hf⟩ := wLe_s hf
    refine pC_3_3 X h (hS 3 (Nat.le_of_ble_eq_true rfl) (Nat.le_of_ble_eq_true rfl)) Nat.one_pos Nat.one_pos lk_X5_44 e8 dX5_readNumber_104 (fun H locs h => ?_)
    cases (Option.some.inj hf).trans JR
    exact ro_vret X h dX5_readNumber_107
  · have hf := wF c6 hf
    refine lv_sipush (v := 257) X.x X.b dX5_readNumber_95 (by decide) ?_
    refine lv_goto (tgt := 104) X.x X.b dX5_readNumber_98 (by decide) ?_
    obtain ⟨g9, e10, hf⟩ := wLe_s hf
    refine pC_3_3 X h (hS 3 (Nat.le_of_ble_eq_true rfl) (Nat.le_of_ble_eq_true rfl)) Nat.one_pos Nat.one_pos lk_X5_44 e10 dX5_readNumber_104 (fun H locs h => ?_)
    cases (Option.some.inj hf).trans JR
    exact ro_vret X h dX5_readNumber_107
set_option maxHeartbeats 4000000 in
set_option maxRecDepth 20000 in
theorem wX5_readNumber_b68 {k : En} {S : Nat → Prop} (hS : ∀ t, 1 ≤ t → t ≤ 8 → S t) {res : Mm} (X : Cx YC S k p s m args meth c cX5_readNumber 1 none RX5) {g : Mm} {H : Heap} {locs : List Loc} {ls : Array Slot} (h : Hx YC S k s g H locs) (hl : lv_has ls 1 [(0, .ref (k.1 + adC 3 0 0))]) {r : (Mm) ⊕ (Mm)} (hf : fX5_readNumber_b68 g = some r) (J1 : ∀ (g : Mm), r = .inl g → ∀ (H : Heap) (locs : List Loc) (ls : Array Slot), Hx YC S k s g H locs → lv_has ls 1 [(0, .ref (k.1 + adC 3 0 0))] → W p l e (RmN 1 20) s m args below meth c H locs 0 0 (Fin YC S k args s below none res) (F0 m 5 ls [])) (JR : ∀ t1, r = .inr t1 → t1 = res) :
    W p l e (RmN 1 20) s m args below meth c H locs 0 0 (Fin YC S k args s below none res) (F0 m 68 ls []) := by
  unfold fX5_readNumber_b68 at hf
  refine lv_aload_n X.x X.b dX5_readNumber_68 rfl (lv_at hl 0 rfl) ?_
  refine lv_dup X.x X.b dX5_readNumber_69 rfl ?_
  refine gC_3_2 X h (hS 3 (Nat.le_of_ble_eq_true rfl) (Nat.le_of_ble_eq_true rfl)) Nat.one_pos Nat.one_pos lk_X5_19 dX5_readNumber_70 ?_
  refine lv_iconst (v := 1) X.x X.b dX5_readNumber_73 (by decide) ?_
  refine lv_iadd X.x X.b dX5_readNumber_74 ?_
  obtain ⟨g18, e19, hf⟩ := wLe_s hf
  refine pC_3_2 X h (hS 3 (Nat.le_of_ble_eq_true rfl) (Nat.le_of_ble_eq_true rfl)) Nat.one_pos Nat.one_pos lk_X5_19 e19 dX5_readNumber_75 (fun H locs h => ?_)
  refine lv_goto (tgt := 5) X.x X.b dX5_readNumber_78 (by decide) ?_
  exact J1 _ (Option.some.inj hf).symm _ _ _ h (lv_sub hl [0] rfl)
set_option maxHeartbeats 4000000 in
set_option maxRecDepth 20000 in
theorem wX5_readNumber_L5 {k : En} {S : Nat → Prop} (hS : ∀ t, 1 ≤ t → t ≤ 8 → S t) {res : Mm} (X : Cx YC S k p s m args meth c cX5_readNumber 1 none RX5) {r : Mm} (JR : r = res) :
    ∀ (fu : Nat) (g : Mm) (H : Heap) (locs : List Loc) (ls : Array Slot), Hx YC S k s g H locs → lv_has ls 1 [(0, .ref (k.1 + adC 3 0 0))] → wLp (fun q => fX5_readNumber_B5 q) fu g = some r → W p l e (RmN 1 20) s m args below meth c H locs 0 0 (Fin YC S k args s below none res) (F0 m 5 ls []) := by
  intro fu
  induction fu with
  | zero => intro g H locs ls h hl hf; exact (wLp_0 hf).elim
  | succ fu ih1 =>
    intro g H locs ls h hl hf
    obtain ⟨r1, hf, hr⟩ := wLp_s hf
    have J1n : ∀ (g : Mm), r1 = .inl g → ∀ (H : Heap) (locs : List Loc) (ls : Array Slot), Hx YC S k s g H locs → lv_has ls 1 [(0, .ref (k.1 + adC 3 0 0))] → W p l e (RmN 1 20) s m args below meth c H locs 0 0 (Fin YC S k args s below none res) (F0 m 5 ls []) := fun g q H locs ls h hl => by subst q; exact ih1 _ _ _ _ h hl hr
    have JRn : ∀ t1, r1 = .inr t1 → t1 = res := fun t1 q => by subst q; obtain rfl := Option.some.inj hr; exact JR
    have J1 := J1n
    have JR := JRn
    clear J1n JRn
    have hf : fX5_readNumber_B5 g = some r1 := hf
    unfold fX5_readNumber_B5 at hf
    refine lv_aload_n X.x X.b dX5_readNumber_5 rfl (lv_at hl 0 rfl) ?_
    refine gC_3_2 X h (hS 3 (Nat.le_of_ble_eq_true rfl) (Nat.le_of_ble_eq_true rfl)) Nat.one_pos Nat.one_pos lk_X5_19 dX5_readNumber_6 ?_
    refine lv_aload_n X.x X.b dX5_readNumber_9 rfl (lv_at hl 0 rfl) ?_
    refine gC_3_1 X h (hS 3 (Nat.le_of_ble_eq_true rfl) (Nat.le_of_ble_eq_true rfl)) Nat.one_pos Nat.one_pos lk_X5_15 dX5_readNumber_10 ?_
    refine lv_icmp_ge (tgt := 81) X.x X.b dX5_readNumber_13 (by decide) (fun c3 => ?_) (fun c3 => ?_)
    · have hf := wT c3 hf
      obtain ⟨t4, hf, e5⟩ := wEx_s hf
      have JR := JR t4 e5
      exact wX5_readNumber_b81 hS X h (lv_sub hl [0] rfl) hf JR
    · have hf := wF c3 hf
      refine lv_aload_n X.x X.b dX5_readNumber_16 rfl (lv_at hl 0 rfl) ?_
      refine gC_3_0 X h (hS 3 (Nat.le_of_ble_eq_true rfl) (Nat.le_of_ble_eq_true rfl)) Nat.one_pos Nat.one_pos lk_X5_9 dX5_readNumber_17 ?_
      refine lv_aload_n X.x X.b dX5_readNumber_20 rfl (lv_at hl 0 rfl) ?_
      refine gC_3_2 X h (hS 3 (Nat.le_of_ble_eq_true rfl) (Nat.le_of_ble_eq_true rfl)) Nat.one_pos Nat.one_pos lk_X5_19 dX5_readNumber_21 ?_
      obtain ⟨b11, hf⟩ := wGi_s hf
      refine aC_4 X h (hS 4 (Nat.le_of_ble_eq_true rfl) (Nat.le_of_ble_eq_true rfl)) Nat.one_pos Nat.one_pos b11 dX5_readNumber_24 ?_
      obtain ⟨y13, e12, hf⟩ := wBd_s hf
      refine ro_callsI (As := [.int (g 4 0 0 (g 3 0 0 2).toNatClampNeg)]) (g1 := g) (x := y13) X h (kX5_isDigit l hS e12) mv_X5_isDigit lk_X5_90 ⟨rfl, rfl⟩ ⟨(Nat.le_of_ble_eq_true rfl), (Nat.le_of_ble_eq_true rfl)⟩ rfl hl rfl (Nat.le_of_ble_eq_true rfl) ⟨Nat.zero_le _, Nat.zero_le _⟩ dX5_readNumber_25 (fun H locs h => ?_)
      refine lv_if_eq (tgt := 81) X.x X.b dX5_readNumber_28 (by decide) (fun c14 => ?_) (fun c14 => ?_)
      · have hf := wT c14 hf
        obtain ⟨t15, hf, e16⟩ := wEx_s hf
        have JR := JR t15 e16
        exact wX5_readNumber_b81 hS X h (lv_sub hl [0] rfl) hf JR
      · have hf := wF c14 hf
        refine lv_aload_n X.x X.b dX5_readNumber_31 rfl (lv_at hl 0 rfl) ?_
        refine gC_3_2 X h (hS 3 (Nat.le_of_ble_eq_true rfl) (Nat.le_of_ble_eq_true rfl)) Nat.one_pos Nat.one_pos lk_X5_19 dX5_readNumber_32 ?_
        refine lv_aload_n X.x X.b dX5_readNumber_35 rfl (lv_at hl 0 rfl) ?_
        refine gC_3_4 X h (hS 3 (Nat.le_of_ble_eq_true rfl) (Nat.le_of_ble_eq_true rfl)) Nat.one_pos Nat.one_pos lk_X5_38 dX5_readNumber_36 ?_
        refine lv_isub X.x X.b dX5_readNumber_39 ?_
        refine lv_iconst (v := 4) X.x X.b dX5_readNumber_40 (by decide) ?_
        refine lv_icmp_ge (tgt := 68) X.x X.b dX5_readNumber_41 (by decide) (fun c17 => ?_) (fun c17 => ?_)
        · have hf := wT c17 hf
          exact wX5_readNumber_b68 hS X h (lv_sub hl [0] rfl) hf J1 JR
        · have hf := wF c17 hf
          refine lv_aload_n X.x X.b dX5_readNumber_44 rfl (lv_at hl 0 rfl) ?_
          refine lv_aload_n X.x X.b dX5_readNumber_45 rfl (lv_at hl 0 rfl) ?_
          refine gC_3_5 X h (hS 3 (Nat.le_of_ble_eq_true rfl) (Nat.le_of_ble_eq_true rfl)) Nat.one_pos Nat.one_pos lk_X5_72 dX5_readNumber_46 ?_
          refine lv_bipush (v := 10) X.x X.b dX5_readNumber_49 (by decide) ?_
          refine lv_imul X.x X.b dX5_readNumber_51 ?_
          refine lv_aload_n X.x X.b dX5_readNumber_52 rfl (lv_at hl 0 rfl) ?_
          refine gC_3_0 X h (hS 3 (Nat.le_of_ble_eq_true rfl) (Nat.le_of_ble_eq_true rfl)) Nat.one_pos Nat.one_pos lk_X5_9 dX5_readNumber_53 ?_
          refine lv_aload_n X.x X.b dX5_readNumber_56 rfl (lv_at hl 0 rfl) ?_
          refine gC_3_2 X h (hS 3 (Nat.le_of_ble_eq_true rfl) (Nat.le_of_ble_eq_true rfl)) Nat.one_pos Nat.one_pos lk_X5_19 dX5_readNumber_57 ?_
          obtain ⟨b20, hf⟩ := wGi_s hf
          refine aC_4 X h (hS 4 (Nat.le_of_ble_eq_true rfl) (Nat.le_of_ble_eq_true rfl)) Nat.one_pos Nat.one_pos b20 dX5_readNumber_60 ?_
          refine lv_iadd X.x X.b dX5_readNumber_61 ?_
          refine lv_bipush (v := 48) X.x X.b dX5_readNumber_62 (by decide) ?_
          refine lv_isub X.x X.b dX5_readNumber_64 ?_
          obtain ⟨g21, e22, hf⟩ := wLe_s hf
          refine pC_3_5 X h (hS 3 (Nat.le_of_ble_eq_true rfl) (Nat.le_of_ble_eq_true rfl)) Nat.one_pos Nat.one_pos lk_X5_72 e22 dX5_readNumber_65 (fun H locs h => ?_)
          exact wX5_readNumber_b68 hS X h (lv_sub hl [0] rfl) hf J1 JR
set_option maxHeartbeats 4000000 in
set_option maxRecDepth 20000 in
theorem kX5_readNumber (l : Launch) {k : En} {S : Nat → Prop} (hS : ∀ t, 1 ≤ t → t ≤ 8 → S t) {res : Mm} {g : Mm} (hf : fX5_readNumber g = some res) : Mt l yX5_readNumber cX5_readNumber 1 none (RmN 1 20) YC S k [.ref (k.1 + adC 3 0 0)] g none res := by
  refine Mt.of (by decide) (Nat.le_of_ble_eq_true rfl) ?_
  intro p e s m args below meth c ls X _ h hl
  have X : Cx YC S k p s m args meth c cX5_readNumber 1 none RX5 := X
  have hl : lv_has ls 1 [(0, .ref (k.1 + adC 3 0 0))] := hl
  have JR : res = res := rfl
  unfold fX5_readNumber at hf
  refine lv_aload_n X.x X.b dX5_readNumber_0 rfl (lv_at hl 0 rfl) ?_
  refine lv_iconst (v := 0) X.x X.b dX5_readNumber_1 (by decide) ?_
  obtain ⟨g1, e2, hf⟩ := wLe_s hf
  refine pC_3_5 X h (hS 3 (Nat.le_of_ble_eq_true rfl) (Nat.le_of_ble_eq_true rfl)) Nat.one_pos Nat.one_pos lk_X5_72 e2 dX5_readNumber_2 (fun H locs h => ?_)
  exact wX5_readNumber_L5 hS X JR _ _ _ _ _ h (lv_sub hl [0] rfl) hf
set_option maxHeartbeats 4000000 in
set_option maxRecDepth 20000 in
theorem wX5_next_b146 {k : En} {S : Nat → Prop} (hS : ∀ t, 1 ≤ t → t ≤ 8 → S t) {res : Mm} (X : Cx YC S k p s m args meth c cX5_next 1 none RX5) {g : Mm} {z1 : Int32} {H : Heap} {locs : List Loc} {ls : Array Slot} (h : Hx YC S k s g H locs) (hl : lv_has ls 1 [(0, .ref (k.1 + adC 3 0 0))]) {r : Mm} (hf : fX5_next_b146 g z1 = some r) (JR : r = res) :
    W p l e (RmN 6 131) s m args below meth c H locs 0 0 (Fin YC S k args s below none res) (F0 m 146 ls [.int z1, .ref (k.1 + adC 3 0 0)]) := by
  unfold fX5_next_b146 at hf
  obtain ⟨g20, e21, hf⟩ := wLe_s hf
  refine pC_3_3 X h (hS 3 (Nat.le_of_ble_eq_true rfl) (Nat.le_of_ble_eq_true rfl)) Nat.one_pos Nat.one_pos lk_X5_44 e21 dX5_next_146 (fun H locs h => ?_)
  refine lv_aload_n X.x X.b dX5_next_149 rfl (lv_at hl 0 rfl) ?_
  refine lv_dup X.x X.b dX5_next_150 rfl ?_
  refine gC_3_2 X h (hS 3 (Nat.le_of_ble_eq_true rfl) (Nat.le_of_ble_eq_true rfl)) Nat.one_pos Nat.one_pos lk_X5_19 dX5_next_151 ?_
  refine lv_iconst (v := 1) X.x X.b dX5_next_154 (by decide) ?_
  refine lv_iadd X.x X.b dX5_next_155 ?_
  obtain ⟨g22, e23, hf⟩ := wLe_s hf
  refine pC_3_2 X h (hS 3 (Nat.le_of_ble_eq_true rfl) (Nat.le_of_ble_eq_true rfl)) Nat.one_pos Nat.one_pos lk_X5_19 e23 dX5_next_156 (fun H locs h => ?_)
  cases (Option.some.inj hf).trans JR
  exact ro_vret X h dX5_next_159
set_option maxHeartbeats 4000000 in
set_option maxRecDepth 20000 in
theorem wX5_next_b39 {k : En} {S : Nat → Prop} (hS : ∀ t, 1 ≤ t → t ≤ 8 → S t) {res : Mm} (X : Cx YC S k p s m args meth c cX5_next 1 none RX5) {g : Mm} {H : Heap} {locs : List Loc} {ls : Array Slot} (h : Hx YC S k s g H locs) (hl : lv_has ls 1 [(0, .ref (k.1 + adC 3 0 0))]) {r : Mm} (hf : fX5_next_b39 g = some r) (JR : r = res) :
    W p l e (RmN 6 131) s m args below meth c H locs 0 0 (Fin YC S k args s below none res) (F0 m 39 ls []) := by
  unfold fX5_next_b39 at hf
  refine lv_aload_n X.x X.b dX5_next_39 rfl (lv_at hl 0 rfl) ?_
  refine lv_aload_n X.x X.b dX5_next_40 rfl (lv_at hl 0 rfl) ?_
  refine gC_3_2 X h (hS 3 (Nat.le_of_ble_eq_true rfl) (Nat.le_of_ble_eq_true rfl)) Nat.one_pos Nat.one_pos lk_X5_19 dX5_next_41 ?_
  obtain ⟨g4, e5, hf⟩ := wLe_s hf
  refine pC_3_4 X h (hS 3 (Nat.le_of_ble_eq_true rfl) (Nat.le_of_ble_eq_true rfl)) Nat.one_pos Nat.one_pos lk_X5_38 e5 dX5_next_44 (fun H locs h => ?_)
  refine lv_aload_n X.x X.b dX5_next_47 rfl (lv_at hl 0 rfl) ?_
  refine gC_3_2 X h (hS 3 (Nat.le_of_ble_eq_true rfl) (Nat.le_of_ble_eq_true rfl)) Nat.one_pos Nat.one_pos lk_X5_19 dX5_next_48 ?_
  refine lv_aload_n X.x X.b dX5_next_51 rfl (lv_at hl 0 rfl) ?_
  refine gC_3_1 X h (hS 3 (Nat.le_of_ble_eq_true rfl) (Nat.le_of_ble_eq_true rfl)) Nat.one_pos Nat.one_pos lk_X5_15 dX5_next_52 ?_
  refine lv_icmp_lt (tgt := 68) X.x X.b dX5_next_55 (by decide) (fun c6 => ?_) (fun c6 => ?_)
  · have hf := wT c6 hf
    refine lv_aload_n X.x X.b dX5_next_68 rfl (lv_at hl 0 rfl) ?_
    refine gC_3_0 X h (hS 3 (Nat.le_of_ble_eq_true rfl) (Nat.le_of_ble_eq_true rfl)) Nat.one_pos Nat.one_pos lk_X5_9 dX5_next_69 ?_
    refine lv_aload_n X.x X.b dX5_next_72 rfl (lv_at hl 0 rfl) ?_
    refine gC_3_2 X h (hS 3 (Nat.le_of_ble_eq_true rfl) (Nat.le_of_ble_eq_true rfl)) Nat.one_pos Nat.one_pos lk_X5_19 dX5_next_73 ?_
    obtain ⟨b7, hf⟩ := wGi_s hf
    refine aC_4 X h (hS 4 (Nat.le_of_ble_eq_true rfl) (Nat.le_of_ble_eq_true rfl)) Nat.one_pos Nat.one_pos b7 dX5_next_76 ?_
    obtain ⟨y9, e8, hf⟩ := wBd_s hf
    refine ro_callsI (As := [.int (g4 4 0 0 (g4 3 0 0 2).toNatClampNeg)]) (g1 := g4) (x := y9) X h (kX5_isLetter l hS e8) mv_X5_isLetter lk_X5_84 ⟨rfl, rfl⟩ ⟨(Nat.le_of_ble_eq_true rfl), (Nat.le_of_ble_eq_true rfl)⟩ rfl hl rfl (Nat.le_of_ble_eq_true rfl) ⟨Nat.zero_le _, Nat.zero_le _⟩ dX5_next_77 (fun H locs h => ?_)
    refine lv_if_eq (tgt := 90) X.x X.b dX5_next_80 (by decide) (fun c10 => ?_) (fun c10 => ?_)
    · have hf := wT c10 hf
      refine lv_aload_n X.x X.b dX5_next_90 rfl (lv_at hl 0 rfl) ?_
      refine gC_3_0 X h (hS 3 (Nat.le_of_ble_eq_true rfl) (Nat.le_of_ble_eq_true rfl)) Nat.one_pos Nat.one_pos lk_X5_9 dX5_next_91 ?_
      refine lv_aload_n X.x X.b dX5_next_94 rfl (lv_at hl 0 rfl) ?_
      refine gC_3_2 X h (hS 3 (Nat.le_of_ble_eq_true rfl) (Nat.le_of_ble_eq_true rfl)) Nat.one_pos Nat.one_pos lk_X5_19 dX5_next_95 ?_
      obtain ⟨b11, hf⟩ := wGi_s hf
      refine aC_4 X h (hS 4 (Nat.le_of_ble_eq_true rfl) (Nat.le_of_ble_eq_true rfl)) Nat.one_pos Nat.one_pos b11 dX5_next_98 ?_
      obtain ⟨y13, e12, hf⟩ := wBd_s hf
      refine ro_callsI (As := [.int (g4 4 0 0 (g4 3 0 0 2).toNatClampNeg)]) (g1 := g4) (x := y13) X h (kX5_isDigit l hS e12) mv_X5_isDigit lk_X5_90 ⟨rfl, rfl⟩ ⟨(Nat.le_of_ble_eq_true rfl), (Nat.le_of_ble_eq_true rfl)⟩ rfl hl rfl (Nat.le_of_ble_eq_true rfl) ⟨Nat.zero_le _, Nat.zero_le _⟩ dX5_next_99 (fun H locs h => ?_)
      refine lv_if_eq (tgt := 112) X.x X.b dX5_next_102 (by decide) (fun c14 => ?_) (fun c14 => ?_)
      · have hf := wT c14 hf
        refine lv_aload_n X.x X.b dX5_next_112 rfl (lv_at hl 0 rfl) ?_
        refine ro_lds X h 1 rfl dX5_next_113 ?_
        refine lv_aload_n X.x X.b dX5_next_115 rfl (lv_at hl 0 rfl) ?_
        refine gC_3_0 X h (hS 3 (Nat.le_of_ble_eq_true rfl) (Nat.le_of_ble_eq_true rfl)) Nat.one_pos Nat.one_pos lk_X5_9 dX5_next_116 ?_
        refine lv_aload_n X.x X.b dX5_next_119 rfl (lv_at hl 0 rfl) ?_
        refine gC_3_2 X h (hS 3 (Nat.le_of_ble_eq_true rfl) (Nat.le_of_ble_eq_true rfl)) Nat.one_pos Nat.one_pos lk_X5_19 dX5_next_120 ?_
        obtain ⟨b15, hf⟩ := wGi_s hf
        refine aC_4 X h (hS 4 (Nat.le_of_ble_eq_true rfl) (Nat.le_of_ble_eq_true rfl)) Nat.one_pos Nat.one_pos b15 dX5_next_123 ?_
        refine lv_i2c X.x X.b dX5_next_124 rfl ?_
        obtain ⟨y17, e16, hf⟩ := wBd_s hf
        refine ro_callvI (As := [.int (((g4 4 0 0 (g4 3 0 0 2).toNatClampNeg).toUInt32 % 65536).toInt32)]) (g1 := g4) (x := y17) X h (kX100_indexOf l trivial (Nat.le_of_ble_eq_true rfl) e16) mv_X100_indexOf lk_X5_98 ⟨rfl, rfl⟩ ⟨(Nat.le_of_ble_eq_true rfl), (Nat.le_of_ble_eq_true rfl)⟩ (r_str X h (Nat.le_of_ble_eq_true rfl)) rfl hl rfl (Nat.le_of_ble_eq_true rfl) ⟨Nat.zero_le _, Nat.zero_le _⟩ dX5_next_125 (fun H locs h => ?_)
        refine lv_if_ge (tgt := 137) X.x X.b dX5_next_128 (by decide) (fun c18 => ?_) (fun c18 => ?_)
        · have hf := wT c18 hf
          refine lv_aload_n X.x X.b dX5_next_137 rfl (lv_at hl 0 rfl) ?_
          refine gC_3_0 X h (hS 3 (Nat.le_of_ble_eq_true rfl) (Nat.le_of_ble_eq_true rfl)) Nat.one_pos Nat.one_pos lk_X5_9 dX5_next_138 ?_
          refine lv_aload_n X.x X.b dX5_next_141 rfl (lv_at hl 0 rfl) ?_
          refine gC_3_2 X h (hS 3 (Nat.le_of_ble_eq_true rfl) (Nat.le_of_ble_eq_true rfl)) Nat.one_pos Nat.one_pos lk_X5_19 dX5_next_142 ?_
          obtain ⟨b19, hf⟩ := wGi_s hf
          refine aC_4 X h (hS 4 (Nat.le_of_ble_eq_true rfl) (Nat.le_of_ble_eq_true rfl)) Nat.one_pos Nat.one_pos b19 dX5_next_145 ?_
          exact wX5_next_b146 hS X h (lv_sub hl [0] rfl) hf JR
        · have hf := wF c18 hf
          refine lv_sipush (v := 257) X.x X.b dX5_next_131 (by decide) ?_
          refine lv_goto (tgt := 146) X.x X.b dX5_next_134 (by decide) ?_
          exact wX5_next_b146 hS X h (lv_sub hl [0] rfl) hf JR
      · have hf := wF c14 hf
        refine lv_aload_n X.x X.b dX5_next_105 rfl (lv_at hl 0 rfl) ?_
        obtain ⟨g26, e24, hf⟩ := wBd_s hf
        refine ro_callvV (As := []) (g1 := g26) X h (kX5_readNumber l hS e24) mv_X5_readNumber lk_X5_93 ⟨rfl, rfl⟩ ⟨(Nat.le_of_ble_eq_true rfl), (Nat.le_of_ble_eq_true rfl)⟩ (rC_3 X h (hS 3 (Nat.le_of_ble_eq_true rfl) (Nat.le_of_ble_eq_true rfl)) Nat.one_pos Nat.one_pos) rfl hl rfl (Nat.le_of_ble_eq_true rfl) ⟨Nat.zero_le _, Nat.zero_le _⟩ dX5_next_106 (fun H locs h => ?_)
        refine lv_goto (tgt := 159) X.x X.b dX5_next_109 (by decide) ?_
        cases (Option.some.inj hf).trans JR
        exact ro_vret X h dX5_next_159
    · have hf := wF c10 hf
      refine lv_aload_n X.x X.b dX5_next_83 rfl (lv_at hl 0 rfl) ?_
      obtain ⟨g29, e27, hf⟩ := wBd_s hf
      refine ro_callvV (As := []) (g1 := g29) X h (kX5_readWord l hS e27) mv_X5_readWord lk_X5_87 ⟨rfl, rfl⟩ ⟨(Nat.le_of_ble_eq_true rfl), (Nat.le_of_ble_eq_true rfl)⟩ (rC_3 X h (hS 3 (Nat.le_of_ble_eq_true rfl) (Nat.le_of_ble_eq_true rfl)) Nat.one_pos Nat.one_pos) rfl hl rfl (Nat.le_of_ble_eq_true rfl) ⟨Nat.zero_le _, Nat.zero_le _⟩ dX5_next_84 (fun H locs h => ?_)
      refine lv_goto (tgt := 159) X.x X.b dX5_next_87 (by decide) ?_
      cases (Option.some.inj hf).trans JR
      exact ro_vret X h dX5_next_159
  · have hf := wF c6 hf
    refine lv_aload_n X.x X.b dX5_next_58 rfl (lv_at hl 0 rfl) ?_
    refine lv_sipush (v := 256) X.x X.b dX5_next_59 (by decide) ?_
    obtain ⟨g30, e31, hf⟩ := wLe_s hf
    refine pC_3_3 X h (hS 3 (Nat.le_of_ble_eq_true rfl) (Nat.le_of_ble_eq_true rfl)) Nat.one_pos Nat.one_pos lk_X5_44 e31 dX5_next_62 (fun H locs h => ?_)
    refine lv_goto (tgt := 159) X.x X.b dX5_next_65 (by decide) ?_
    cases (Option.some.inj hf).trans JR
    exact ro_vret X h dX5_next_159
set_option maxHeartbeats 4000000 in
set_option maxRecDepth 20000 in
theorem wX5_next_L0 {k : En} {S : Nat → Prop} (hS : ∀ t, 1 ≤ t → t ≤ 8 → S t) {res : Mm} (X : Cx YC S k p s m args meth c cX5_next 1 none RX5) {r : Mm} (JR : r = res) :
    ∀ (fu : Nat) (g : Mm) (H : Heap) (locs : List Loc) (ls : Array Slot), Hx YC S k s g H locs → lv_has ls 1 [(0, .ref (k.1 + adC 3 0 0))] → wLp (fun q => fX5_next_B0 q) fu g = some r → W p l e (RmN 6 131) s m args below meth c H locs 0 0 (Fin YC S k args s below none res) (F0 m 0 ls []) := by
  intro fu
  induction fu with
  | zero => intro g H locs ls h hl hf; exact (wLp_0 hf).elim
  | succ fu ih1 =>
    intro g H locs ls h hl hf
    obtain ⟨r1, hf, hr⟩ := wLp_s hf
    have J1n : ∀ (g : Mm), r1 = .inl g → ∀ (H : Heap) (locs : List Loc) (ls : Array Slot), Hx YC S k s g H locs → lv_has ls 1 [(0, .ref (k.1 + adC 3 0 0))] → W p l e (RmN 6 131) s m args below meth c H locs 0 0 (Fin YC S k args s below none res) (F0 m 0 ls []) := fun g q H locs ls h hl => by subst q; exact ih1 _ _ _ _ h hl hr
    have JRn : ∀ t1, r1 = .inr t1 → t1 = res := fun t1 q => by subst q; obtain rfl := Option.some.inj hr; exact JR
    have J1 := J1n
    have JR := JRn
    clear J1n JRn
    have hf : fX5_next_B0 g = some r1 := hf
    unfold fX5_next_B0 at hf
    refine lv_aload_n X.x X.b dX5_next_0 rfl (lv_at hl 0 rfl) ?_
    refine gC_3_2 X h (hS 3 (Nat.le_of_ble_eq_true rfl) (Nat.le_of_ble_eq_true rfl)) Nat.one_pos Nat.one_pos lk_X5_19 dX5_next_1 ?_
    refine lv_aload_n X.x X.b dX5_next_4 rfl (lv_at hl 0 rfl) ?_
    refine gC_3_1 X h (hS 3 (Nat.le_of_ble_eq_true rfl) (Nat.le_of_ble_eq_true rfl)) Nat.one_pos Nat.one_pos lk_X5_15 dX5_next_5 ?_
    refine lv_icmp_ge (tgt := 39) X.x X.b dX5_next_8 (by decide) (fun c1 => ?_) (fun c1 => ?_)
    · have hf := wT c1 hf
      obtain ⟨t2, hf, e3⟩ := wEx_s hf
      have JR := JR t2 e3
      exact wX5_next_b39 hS X h (lv_sub hl [0] rfl) hf JR
    · have hf := wF c1 hf
      refine lv_aload_n X.x X.b dX5_next_11 rfl (lv_at hl 0 rfl) ?_
      refine gC_3_0 X h (hS 3 (Nat.le_of_ble_eq_true rfl) (Nat.le_of_ble_eq_true rfl)) Nat.one_pos Nat.one_pos lk_X5_9 dX5_next_12 ?_
      refine lv_aload_n X.x X.b dX5_next_15 rfl (lv_at hl 0 rfl) ?_
      refine gC_3_2 X h (hS 3 (Nat.le_of_ble_eq_true rfl) (Nat.le_of_ble_eq_true rfl)) Nat.one_pos Nat.one_pos lk_X5_19 dX5_next_16 ?_
      obtain ⟨b32, hf⟩ := wGi_s hf
      refine aC_4 X h (hS 4 (Nat.le_of_ble_eq_true rfl) (Nat.le_of_ble_eq_true rfl)) Nat.one_pos Nat.one_pos b32 dX5_next_19 ?_
      obtain ⟨y34, e33, hf⟩ := wBd_s hf
      refine ro_callsI (As := [.int (g 4 0 0 (g 3 0 0 2).toNatClampNeg)]) (g1 := g) (x := y34) X h (kX5_isBlank l hS e33) mv_X5_isBlank lk_X5_81 ⟨rfl, rfl⟩ ⟨(Nat.le_of_ble_eq_true rfl), (Nat.le_of_ble_eq_true rfl)⟩ rfl hl rfl (Nat.le_of_ble_eq_true rfl) ⟨Nat.zero_le _, Nat.zero_le _⟩ dX5_next_20 (fun H locs h => ?_)
      refine lv_if_eq (tgt := 39) X.x X.b dX5_next_23 (by decide) (fun c35 => ?_) (fun c35 => ?_)
      · have hf := wT c35 hf
        obtain ⟨t36, hf, e37⟩ := wEx_s hf
        have JR := JR t36 e37
        exact wX5_next_b39 hS X h (lv_sub hl [0] rfl) hf JR
      · have hf := wF c35 hf
        refine lv_aload_n X.x X.b dX5_next_26 rfl (lv_at hl 0 rfl) ?_
        refine lv_dup X.x X.b dX5_next_27 rfl ?_
        refine gC_3_2 X h (hS 3 (Nat.le_of_ble_eq_true rfl) (Nat.le_of_ble_eq_true rfl)) Nat.one_pos Nat.one_pos lk_X5_19 dX5_next_28 ?_
        refine lv_iconst (v := 1) X.x X.b dX5_next_31 (by decide) ?_
        refine lv_iadd X.x X.b dX5_next_32 ?_
        obtain ⟨g38, e39, hf⟩ := wLe_s hf
        refine pC_3_2 X h (hS 3 (Nat.le_of_ble_eq_true rfl) (Nat.le_of_ble_eq_true rfl)) Nat.one_pos Nat.one_pos lk_X5_19 e39 dX5_next_33 (fun H locs h => ?_)
        refine lv_goto (tgt := 0) X.x X.b dX5_next_36 (by decide) ?_
        exact J1 _ (Option.some.inj hf).symm _ _ _ h (lv_sub hl [0] rfl)
set_option maxHeartbeats 4000000 in
set_option maxRecDepth 20000 in
theorem kX5_next (l : Launch) {k : En} {S : Nat → Prop} (hS : ∀ t, 1 ≤ t → t ≤ 8 → S t) {res : Mm} {g : Mm} (hf : fX5_next g = some res) : Mt l yX5_next cX5_next 1 none (RmN 6 131) YC S k [.ref (k.1 + adC 3 0 0)] g none res := by
  refine Mt.of (by decide) (Nat.le_of_ble_eq_true rfl) ?_
  intro p e s m args below meth c ls X _ h hl
  have X : Cx YC S k p s m args meth c cX5_next 1 none RX5 := X
  have hl : lv_has ls 1 [(0, .ref (k.1 + adC 3 0 0))] := hl
  have JR : res = res := rfl
  unfold fX5_next at hf
  exact wX5_next_L0 hS X JR _ _ _ _ _ h (lv_sub hl [0] rfl) hf
set_option maxHeartbeats 4000000 in
set_option maxRecDepth 20000 in
theorem kX5_isWord (l : Launch) {k : En} {S : Nat → Prop} (hS : ∀ t, 1 ≤ t → t ≤ 8 → S t) {g0 : Mm} {a1 : Int32} {res : Int32} (hf : fX5_isWord g0 a1 = some res) : Mt l yX5_isWord cX5_isWord 2 (some .boolean) (RmN 0 0) YC S k [.ref (k.1 + adC 3 0 0), .int a1] g0 (some (.int res)) g0 := by
  refine Mt.of (by decide) (Nat.le_of_ble_eq_true rfl) ?_
  intro p e s m args below meth c ls X _ h hl
  have X : Cx YC S k p s m args meth c cX5_isWord 2 (some .boolean) RX5 := X
  have hl : lv_has ls 2 [(0, .ref (k.1 + adC 3 0 0)), (1, .int a1)] := hl
  have JR : res = res := rfl
  unfold fX5_isWord at hf
  refine lv_aload_n X.x X.b dX5_isWord_0 rfl (lv_at hl 0 rfl) ?_
  refine gC_3_3 X h (hS 3 (Nat.le_of_ble_eq_true rfl) (Nat.le_of_ble_eq_true rfl)) Nat.one_pos Nat.one_pos lk_X5_44 dX5_isWord_1 ?_
  refine lv_sipush (v := 259) X.x X.b dX5_isWord_4 (by decide) ?_
  refine lv_icmp_ne (tgt := 22) X.x X.b dX5_isWord_7 (by decide) (fun c1 => ?_) (fun c1 => ?_)
  · have hf := wF c1 hf
    refine lv_iconst (v := 0) X.x X.b dX5_isWord_22 (by decide) ?_
    cases (Option.some.inj hf).trans JR
    exact ro_zret X h (Or.inl rfl) dX5_isWord_23
  · have hf := wT c1 hf
    refine lv_aload_n X.x X.b dX5_isWord_10 rfl (lv_at hl 0 rfl) ?_
    refine gC_3_5 X h (hS 3 (Nat.le_of_ble_eq_true rfl) (Nat.le_of_ble_eq_true rfl)) Nat.one_pos Nat.one_pos lk_X5_72 dX5_isWord_11 ?_
    refine lv_iload_n X.x X.b dX5_isWord_14 rfl (lv_at hl 1 rfl) ?_
    refine lv_icmp_ne (tgt := 22) X.x X.b dX5_isWord_15 (by decide) (fun c2 => ?_) (fun c2 => ?_)
    · have hf := wF c2 hf
      refine lv_iconst (v := 0) X.x X.b dX5_isWord_22 (by decide) ?_
      cases (Option.some.inj hf).trans JR
      exact ro_zret X h (Or.inl rfl) dX5_isWord_23
    · have hf := wT c2 hf
      refine lv_iconst (v := 1) X.x X.b dX5_isWord_18 (by decide) ?_
      refine lv_goto (tgt := 23) X.x X.b dX5_isWord_19 (by decide) ?_
      cases (Option.some.inj hf).trans JR
      exact ro_zret X h (Or.inr rfl) dX5_isWord_23
set_option maxHeartbeats 4000000 in
set_option maxRecDepth 20000 in
theorem kX5_enclosed (l : Launch) {k : En} {S : Nat → Prop} (hS : ∀ t, 1 ≤ t → t ≤ 8 → S t) {a1 : Int32} {n : Nat} (ih : RecOk l k S n) {res : Mm × Int32} {g : Mm} (hf : fX5_enclosed (grR n) g a1 = some res) : Mt l yX5_enclosed cX5_enclosed 2 (some .boolean) (RmN (n + 16) (40 * n + 400)) YC S k [.ref (k.1 + adC 3 0 0), .int a1] g (some (.int res.2)) res.1 := by
  refine Mt.of (by decide) (Nat.le_of_ble_eq_true rfl) ?_
  intro p e s m args below meth c ls X _ h hl
  have X : Cx YC S k p s m args meth c cX5_enclosed 2 (some .boolean) RX5 := X
  have hl : lv_has ls 2 [(0, .ref (k.1 + adC 3 0 0)), (1, .int a1)] := hl
  have JR : res = res := rfl
  unfold fX5_enclosed at hf
  refine lv_aload_n X.x X.b dX5_enclosed_0 rfl (lv_at hl 0 rfl) ?_
  obtain ⟨g3, e1, hf⟩ := wBd_s hf
  refine ro_callvV (As := []) (g1 := g3) X h (kX5_next l hS e1) mv_X5_next lk_X5_31 ⟨rfl, rfl⟩ ⟨(by dsimp only [RmN]; omega), (by dsimp only [RmN]; omega)⟩ (rC_3 X h (hS 3 (Nat.le_of_ble_eq_true rfl) (Nat.le_of_ble_eq_true rfl)) Nat.one_pos Nat.one_pos) rfl hl rfl (Nat.le_of_ble_eq_true rfl) ⟨Nat.zero_le _, Nat.zero_le _⟩ dX5_enclosed_1 (fun H locs h => ?_)
  refine lv_aload_n X.x X.b dX5_enclosed_4 rfl (lv_at hl 0 rfl) ?_
  refine lv_iload_n X.x X.b dX5_enclosed_5 rfl (lv_at hl 1 rfl) ?_
  obtain ⟨g6, y5, e4, hf⟩ := wB2_s hf
  refine ro_callvI (As := [.int a1]) (g1 := g6) (x := y5) X h (ih.1 _ _ _ e4) mv_X5_either lk_X5_41 ⟨rfl, rfl⟩ ⟨(by dsimp only [RmN]; omega), (by dsimp only [RmN]; omega)⟩ (rC_3 X h (hS 3 (Nat.le_of_ble_eq_true rfl) (Nat.le_of_ble_eq_true rfl)) Nat.one_pos Nat.one_pos) rfl hl rfl (Nat.le_of_ble_eq_true rfl) ⟨Nat.zero_le _, Nat.zero_le _⟩ dX5_enclosed_6 (fun H locs h => ?_)
  refine lv_if_eq (tgt := 21) X.x X.b dX5_enclosed_9 (by decide) (fun c7 => ?_) (fun c7 => ?_)
  · have hf := wT c7 hf
    refine lv_iconst (v := 0) X.x X.b dX5_enclosed_21 (by decide) ?_
    cases (Option.some.inj hf).trans JR
    exact ro_zret X h (Or.inl rfl) dX5_enclosed_22
  · have hf := wF c7 hf
    refine lv_aload_n X.x X.b dX5_enclosed_12 rfl (lv_at hl 0 rfl) ?_
    refine gC_3_3 X h (hS 3 (Nat.le_of_ble_eq_true rfl) (Nat.le_of_ble_eq_true rfl)) Nat.one_pos Nat.one_pos lk_X5_44 dX5_enclosed_13 ?_
    refine lv_bipush (v := 41) X.x X.b dX5_enclosed_16 (by decide) ?_
    refine lv_icmp_eq (tgt := 23) X.x X.b dX5_enclosed_18 (by decide) (fun c8 => ?_) (fun c8 => ?_)
    · have hf := wT c8 hf
      refine lv_aload_n X.x X.b dX5_enclosed_23 rfl (lv_at hl 0 rfl) ?_
      obtain ⟨g11, e9, hf⟩ := wBd_s hf
      refine ro_callvV (As := []) (g1 := g11) X h (kX5_next l hS e9) mv_X5_next lk_X5_31 ⟨rfl, rfl⟩ ⟨(by dsimp only [RmN]; omega), (by dsimp only [RmN]; omega)⟩ (rC_3 X h (hS 3 (Nat.le_of_ble_eq_true rfl) (Nat.le_of_ble_eq_true rfl)) Nat.one_pos Nat.one_pos) rfl hl rfl (Nat.le_of_ble_eq_true rfl) ⟨Nat.zero_le _, Nat.zero_le _⟩ dX5_enclosed_24 (fun H locs h => ?_)
      refine lv_iconst (v := 1) X.x X.b dX5_enclosed_27 (by decide) ?_
      cases (Option.some.inj hf).trans JR
      exact ro_zret X h (Or.inr rfl) dX5_enclosed_28
    · have hf := wF c8 hf
      refine lv_iconst (v := 0) X.x X.b dX5_enclosed_21 (by decide) ?_
      cases (Option.some.inj hf).trans JR
      exact ro_zret X h (Or.inl rfl) dX5_enclosed_22
set_option maxHeartbeats 4000000 in
set_option maxRecDepth 20000 in
theorem kX5_negative (l : Launch) {k : En} {S : Nat → Prop} (hS : ∀ t, 1 ≤ t → t ≤ 8 → S t) {a1 : Int32} {n : Nat} (ih : RecOk l k S n) {res : Mm × Int32} {g : Mm} (hf : fX5_negative (grR n) g a1 = some res) : Mt l yX5_negative cX5_negative 2 (some .boolean) (RmN (n + 16) (40 * n + 400)) YC S k [.ref (k.1 + adC 3 0 0), .int a1] g (some (.int res.2)) res.1 := by
  refine Mt.of (by decide) (Nat.le_of_ble_eq_true rfl) ?_
  intro p e s m args below meth c ls X _ h hl
  have X : Cx YC S k p s m args meth c cX5_negative 2 (some .boolean) RX5 := X
  have hl : lv_has ls 2 [(0, .ref (k.1 + adC 3 0 0)), (1, .int a1)] := hl
  have JR : res = res := rfl
  unfold fX5_negative at hf
  refine lv_aload_n X.x X.b dX5_negative_0 rfl (lv_at hl 0 rfl) ?_
  obtain ⟨g3, e1, hf⟩ := wBd_s hf
  refine ro_callvV (As := []) (g1 := g3) X h (kX5_next l hS e1) mv_X5_next lk_X5_31 ⟨rfl, rfl⟩ ⟨(by dsimp only [RmN]; omega), (by dsimp only [RmN]; omega)⟩ (rC_3 X h (hS 3 (Nat.le_of_ble_eq_true rfl) (Nat.le_of_ble_eq_true rfl)) Nat.one_pos Nat.one_pos) rfl hl rfl (Nat.le_of_ble_eq_true rfl) ⟨Nat.zero_le _, Nat.zero_le _⟩ dX5_negative_1 (fun H locs h => ?_)
  refine lv_aload_n X.x X.b dX5_negative_4 rfl (lv_at hl 0 rfl) ?_
  refine lv_iload_n X.x X.b dX5_negative_5 rfl (lv_at hl 1 rfl) ?_
  obtain ⟨g6, y5, e4, hf⟩ := wB2_s hf
  refine ro_callvI (As := [.int a1]) (g1 := g6) (x := y5) X h (ih.2.2.2.2.2.2.1 _ _ _ e4) mv_X5_one lk_X5_69 ⟨rfl, rfl⟩ ⟨(by dsimp only [RmN]; omega), (by dsimp only [RmN]; omega)⟩ (rC_3 X h (hS 3 (Nat.le_of_ble_eq_true rfl) (Nat.le_of_ble_eq_true rfl)) Nat.one_pos Nat.one_pos) rfl hl rfl (Nat.le_of_ble_eq_true rfl) ⟨Nat.zero_le _, Nat.zero_le _⟩ dX5_negative_6 (fun H locs h => ?_)
  refine lv_if_ne (tgt := 14) X.x X.b dX5_negative_9 (by decide) (fun c7 => ?_) (fun c7 => ?_)
  · have hf := wF c7 hf
    refine lv_aload_n X.x X.b dX5_negative_14 rfl (lv_at hl 0 rfl) ?_
    obtain ⟨n8, hb10, e9, hf⟩ := wGr_s hf
    refine gC_3_6 X h (hS 3 (Nat.le_of_ble_eq_true rfl) (Nat.le_of_ble_eq_true rfl)) Nat.one_pos Nat.one_pos lk_X5_22 e9 dX5_negative_15 ?_
    refine lv_sipush (v := 10016) X.x X.b dX5_negative_18 (by decide) ?_
    obtain ⟨g13, e11, hf⟩ := wBd_s hf
    refine ro_callvV (As := [.int (10016 : Int32)]) (g1 := g13) X h (kX6_put l hS hb10 e11) mv_X6_put lk_X5_54 ⟨rfl, rfl⟩ ⟨(by dsimp only [RmN]; omega), (by dsimp only [RmN]; omega)⟩ (rC_5 X h (hS 5 (Nat.le_of_ble_eq_true rfl) (Nat.le_of_ble_eq_true rfl)) hb10 Nat.one_pos) rfl hl rfl (Nat.le_of_ble_eq_true rfl) ⟨Nat.zero_le _, Nat.zero_le _⟩ dX5_negative_21 (fun H locs h => ?_)
    refine lv_iconst (v := 1) X.x X.b dX5_negative_24 (by decide) ?_
    cases (Option.some.inj hf).trans JR
    exact ro_zret X h (Or.inr rfl) dX5_negative_25
  · have hf := wT c7 hf
    refine lv_iconst (v := 0) X.x X.b dX5_negative_12 (by decide) ?_
    cases (Option.some.inj hf).trans JR
    exact ro_zret X h (Or.inl rfl) dX5_negative_13
set_option maxHeartbeats 4000000 in
set_option maxRecDepth 20000 in
theorem wX5_one_b29 {k : En} {S : Nat → Prop} (hS : ∀ t, 1 ≤ t → t ≤ 8 → S t) {a1 : Int32} {n : Nat} (ih : RecOk l k S n) {res : Mm × Int32} (X : Cx YC S k p s m args meth c cX5_one 2 (some .boolean) RX5) {g : Mm} {H : Heap} {locs : List Loc} {ls : Array Slot} (h : Hx YC S k s g H locs) (hl : lv_has ls 2 [(0, .ref (k.1 + adC 3 0 0))]) {r : Mm × Int32} (hf : fX5_one_b29 (grR n) g a1 = some r) (JR : r = res) :
    W p l e (RmN (n + 16) (40 * n + 400)) s m args below meth c H locs 0 0 (Fin YC S k args s below (some (.int res.2)) res.1) (F0 m 29 ls []) := by
  unfold fX5_one_b29 at hf
  refine lv_aload_n X.x X.b dX5_one_29 rfl (lv_at hl 0 rfl) ?_
  obtain ⟨n2, hb4, e3, hf⟩ := wGr_s hf
  refine gC_3_6 X h (hS 3 (Nat.le_of_ble_eq_true rfl) (Nat.le_of_ble_eq_true rfl)) Nat.one_pos Nat.one_pos lk_X5_22 e3 dX5_one_30 ?_
  refine lv_aload_n X.x X.b dX5_one_33 rfl (lv_at hl 0 rfl) ?_
  refine gC_3_3 X h (hS 3 (Nat.le_of_ble_eq_true rfl) (Nat.le_of_ble_eq_true rfl)) Nat.one_pos Nat.one_pos lk_X5_44 dX5_one_34 ?_
  refine lv_sipush (v := 258) X.x X.b dX5_one_37 (by decide) ?_
  refine lv_icmp_ne (tgt := 50) X.x X.b dX5_one_40 (by decide) (fun c5 => ?_) (fun c5 => ?_)
  · have hf := wF c5 hf
    refine lv_sipush (v := 10000) X.x X.b dX5_one_50 (by decide) ?_
    refine lv_aload_n X.x X.b dX5_one_53 rfl (lv_at hl 0 rfl) ?_
    refine gC_3_5 X h (hS 3 (Nat.le_of_ble_eq_true rfl) (Nat.le_of_ble_eq_true rfl)) Nat.one_pos Nat.one_pos lk_X5_72 dX5_one_54 ?_
    refine lv_iadd X.x X.b dX5_one_57 ?_
    refine lv_bipush (v := 6) X.x X.b dX5_one_58 (by decide) ?_
    refine lv_isub X.x X.b dX5_one_60 ?_
    obtain ⟨g8, e6, hf⟩ := wBd_s hf
    refine ro_callvV (As := [.int (((10000 : Int32) + (g 3 0 0 5)) - (6 : Int32))]) (g1 := g8) X h (kX6_put l hS hb4 e6) mv_X6_put lk_X5_54 ⟨rfl, rfl⟩ ⟨(by dsimp only [RmN]; omega), (by dsimp only [RmN]; omega)⟩ (rC_5 X h (hS 5 (Nat.le_of_ble_eq_true rfl) (Nat.le_of_ble_eq_true rfl)) hb4 Nat.one_pos) rfl hl rfl (Nat.le_of_ble_eq_true rfl) ⟨Nat.zero_le _, Nat.zero_le _⟩ dX5_one_61 (fun H locs h => ?_)
    refine lv_aload_n X.x X.b dX5_one_64 rfl (lv_at hl 0 rfl) ?_
    obtain ⟨g11, e9, hf⟩ := wBd_s hf
    refine ro_callvV (As := []) (g1 := g11) X h (kX5_next l hS e9) mv_X5_next lk_X5_31 ⟨rfl, rfl⟩ ⟨(by dsimp only [RmN]; omega), (by dsimp only [RmN]; omega)⟩ (rC_3 X h (hS 3 (Nat.le_of_ble_eq_true rfl) (Nat.le_of_ble_eq_true rfl)) Nat.one_pos Nat.one_pos) rfl hl rfl (Nat.le_of_ble_eq_true rfl) ⟨Nat.zero_le _, Nat.zero_le _⟩ dX5_one_65 (fun H locs h => ?_)
    refine lv_iconst (v := 1) X.x X.b dX5_one_68 (by decide) ?_
    cases (Option.some.inj hf).trans JR
    exact ro_zret X h (Or.inr rfl) dX5_one_69
  · have hf := wT c5 hf
    refine lv_aload_n X.x X.b dX5_one_43 rfl (lv_at hl 0 rfl) ?_
    refine gC_3_5 X h (hS 3 (Nat.le_of_ble_eq_true rfl) (Nat.le_of_ble_eq_true rfl)) Nat.one_pos Nat.one_pos lk_X5_72 dX5_one_44 ?_
    refine lv_goto (tgt := 61) X.x X.b dX5_one_47 (by decide) ?_
    obtain ⟨g14, e12, hf⟩ := wBd_s hf
    refine ro_callvV (As := [.int (g 3 0 0 5)]) (g1 := g14) X h (kX6_put l hS hb4 e12) mv_X6_put lk_X5_54 ⟨rfl, rfl⟩ ⟨(by dsimp only [RmN]; omega), (by dsimp only [RmN]; omega)⟩ (rC_5 X h (hS 5 (Nat.le_of_ble_eq_true rfl) (Nat.le_of_ble_eq_true rfl)) hb4 Nat.one_pos) rfl hl rfl (Nat.le_of_ble_eq_true rfl) ⟨Nat.zero_le _, Nat.zero_le _⟩ dX5_one_61 (fun H locs h => ?_)
    refine lv_aload_n X.x X.b dX5_one_64 rfl (lv_at hl 0 rfl) ?_
    obtain ⟨g17, e15, hf⟩ := wBd_s hf
    refine ro_callvV (As := []) (g1 := g17) X h (kX5_next l hS e15) mv_X5_next lk_X5_31 ⟨rfl, rfl⟩ ⟨(by dsimp only [RmN]; omega), (by dsimp only [RmN]; omega)⟩ (rC_3 X h (hS 3 (Nat.le_of_ble_eq_true rfl) (Nat.le_of_ble_eq_true rfl)) Nat.one_pos Nat.one_pos) rfl hl rfl (Nat.le_of_ble_eq_true rfl) ⟨Nat.zero_le _, Nat.zero_le _⟩ dX5_one_65 (fun H locs h => ?_)
    refine lv_iconst (v := 1) X.x X.b dX5_one_68 (by decide) ?_
    cases (Option.some.inj hf).trans JR
    exact ro_zret X h (Or.inr rfl) dX5_one_69
set_option maxHeartbeats 4000000 in
set_option maxRecDepth 20000 in
theorem wX5_one_b88 {k : En} {S : Nat → Prop} (hS : ∀ t, 1 ≤ t → t ≤ 8 → S t) {a1 : Int32} {n : Nat} (ih : RecOk l k S n) {res : Mm × Int32} (X : Cx YC S k p s m args meth c cX5_one 2 (some .boolean) RX5) {g : Mm} {H : Heap} {locs : List Loc} {ls : Array Slot} (h : Hx YC S k s g H locs) (hl : lv_has ls 2 [(0, .ref (k.1 + adC 3 0 0)), (1, .int a1)]) {r : Mm × Int32} (hf : fX5_one_b88 (grR n) g a1 = some r) (JR : r = res) :
    W p l e (RmN (n + 16) (40 * n + 400)) s m args below meth c H locs 0 0 (Fin YC S k args s below (some (.int res.2)) res.1) (F0 m 88 ls []) := by
  unfold fX5_one_b88 at hf
  refine lv_iload_n X.x X.b dX5_one_88 rfl (lv_at hl 1 rfl) ?_
  refine lv_iconst (v := 5) X.x X.b dX5_one_89 (by decide) ?_
  refine lv_icmp_lt (tgt := 95) X.x X.b dX5_one_90 (by decide) (fun c20 => ?_) (fun c20 => ?_)
  · have hf := wT c20 hf
    refine lv_aload_n X.x X.b dX5_one_95 rfl (lv_at hl 0 rfl) ?_
    refine gC_3_3 X h (hS 3 (Nat.le_of_ble_eq_true rfl) (Nat.le_of_ble_eq_true rfl)) Nat.one_pos Nat.one_pos lk_X5_44 dX5_one_96 ?_
    refine lv_bipush (v := 40) X.x X.b dX5_one_99 (by decide) ?_
    refine lv_icmp_ne (tgt := 114) X.x X.b dX5_one_101 (by decide) (fun c21 => ?_) (fun c21 => ?_)
    · have hf := wF c21 hf
      refine lv_aload_n X.x X.b dX5_one_114 rfl (lv_at hl 0 rfl) ?_
      refine lv_iload_n X.x X.b dX5_one_115 rfl (lv_at hl 1 rfl) ?_
      refine lv_iconst (v := 1) X.x X.b dX5_one_116 (by decide) ?_
      refine lv_iadd X.x X.b dX5_one_117 ?_
      obtain ⟨g24, y23, e22, hf⟩ := wB2_s hf
      refine ro_callvI (As := [.int (a1 + (1 : Int32))]) (g1 := g24) (x := y23) X h (ih.2.2.2.2.2.2.2.2 _ _ _ e22) mv_X5_negative lk_X5_78 ⟨rfl, rfl⟩ ⟨(by dsimp only [RmN]; omega), (by dsimp only [RmN]; omega)⟩ (rC_3 X h (hS 3 (Nat.le_of_ble_eq_true rfl) (Nat.le_of_ble_eq_true rfl)) Nat.one_pos Nat.one_pos) rfl hl rfl (Nat.le_of_ble_eq_true rfl) ⟨Nat.zero_le _, Nat.zero_le _⟩ dX5_one_118 (fun H locs h => ?_)
      obtain ⟨z25, hf⟩ := wGb_s hf
      cases (Option.some.inj hf).trans JR
      exact ro_zret X h z25 dX5_one_121
    · have hf := wT c21 hf
      refine lv_aload_n X.x X.b dX5_one_104 rfl (lv_at hl 0 rfl) ?_
      refine lv_iload_n X.x X.b dX5_one_105 rfl (lv_at hl 1 rfl) ?_
      refine lv_iconst (v := 1) X.x X.b dX5_one_106 (by decide) ?_
      refine lv_iadd X.x X.b dX5_one_107 ?_
      obtain ⟨g28, y27, e26, hf⟩ := wB2_s hf
      refine ro_callvI (As := [.int (a1 + (1 : Int32))]) (g1 := g28) (x := y27) X h (ih.2.2.2.2.2.2.2.1 _ _ _ e26) mv_X5_enclosed lk_X5_75 ⟨rfl, rfl⟩ ⟨(by dsimp only [RmN]; omega), (by dsimp only [RmN]; omega)⟩ (rC_3 X h (hS 3 (Nat.le_of_ble_eq_true rfl) (Nat.le_of_ble_eq_true rfl)) Nat.one_pos Nat.one_pos) rfl hl rfl (Nat.le_of_ble_eq_true rfl) ⟨Nat.zero_le _, Nat.zero_le _⟩ dX5_one_108 (fun H locs h => ?_)
      refine lv_goto (tgt := 121) X.x X.b dX5_one_111 (by decide) ?_
      obtain ⟨z29, hf⟩ := wGb_s hf
      cases (Option.some.inj hf).trans JR
      exact ro_zret X h z29 dX5_one_121
  · have hf := wF c20 hf
    refine lv_iconst (v := 0) X.x X.b dX5_one_93 (by decide) ?_
    cases (Option.some.inj hf).trans JR
    exact ro_zret X h (Or.inl rfl) dX5_one_94
set_option maxHeartbeats 4000000 in
set_option maxRecDepth 20000 in
theorem wX5_one_b70 {k : En} {S : Nat → Prop} (hS : ∀ t, 1 ≤ t → t ≤ 8 → S t) {a1 : Int32} {n : Nat} (ih : RecOk l k S n) {res : Mm × Int32} (X : Cx YC S k p s m args meth c cX5_one 2 (some .boolean) RX5) {g : Mm} {H : Heap} {locs : List Loc} {ls : Array Slot} (h : Hx YC S k s g H locs) (hl : lv_has ls 2 [(0, .ref (k.1 + adC 3 0 0)), (1, .int a1)]) {r : Mm × Int32} (hf : fX5_one_b70 (grR n) g a1 = some r) (JR : r = res) :
    W p l e (RmN (n + 16) (40 * n + 400)) s m args below meth c H locs 0 0 (Fin YC S k args s below (some (.int res.2)) res.1) (F0 m 70 ls []) := by
  unfold fX5_one_b70 at hf
  refine lv_aload_n X.x X.b dX5_one_70 rfl (lv_at hl 0 rfl) ?_
  refine gC_3_3 X h (hS 3 (Nat.le_of_ble_eq_true rfl) (Nat.le_of_ble_eq_true rfl)) Nat.one_pos Nat.one_pos lk_X5_44 dX5_one_71 ?_
  refine lv_bipush (v := 40) X.x X.b dX5_one_74 (by decide) ?_
  refine lv_icmp_eq (tgt := 88) X.x X.b dX5_one_76 (by decide) (fun c19 => ?_) (fun c19 => ?_)
  · have hf := wT c19 hf
    exact wX5_one_b88 hS ih X h (lv_sub hl [0, 1] rfl) hf JR
  · have hf := wF c19 hf
    refine lv_aload_n X.x X.b dX5_one_79 rfl (lv_at hl 0 rfl) ?_
    refine gC_3_3 X h (hS 3 (Nat.le_of_ble_eq_true rfl) (Nat.le_of_ble_eq_true rfl)) Nat.one_pos Nat.one_pos lk_X5_44 dX5_one_80 ?_
    refine lv_bipush (v := 45) X.x X.b dX5_one_83 (by decide) ?_
    refine lv_icmp_ne (tgt := 93) X.x X.b dX5_one_85 (by decide) (fun c30 => ?_) (fun c30 => ?_)
    · have hf := wF c30 hf
      refine lv_iconst (v := 0) X.x X.b dX5_one_93 (by decide) ?_
      cases (Option.some.inj hf).trans JR
      exact ro_zret X h (Or.inl rfl) dX5_one_94
    · have hf := wT c30 hf
      exact wX5_one_b88 hS ih X h (lv_sub hl [0, 1] rfl) hf JR
set_option maxHeartbeats 4000000 in
set_option maxRecDepth 20000 in
theorem kX5_one (l : Launch) {k : En} {S : Nat → Prop} (hS : ∀ t, 1 ≤ t → t ≤ 8 → S t) {a1 : Int32} {n : Nat} (ih : RecOk l k S n) {res : Mm × Int32} {g : Mm} (hf : fX5_one (grR n) g a1 = some res) : Mt l yX5_one cX5_one 2 (some .boolean) (RmN (n + 16) (40 * n + 400)) YC S k [.ref (k.1 + adC 3 0 0), .int a1] g (some (.int res.2)) res.1 := by
  refine Mt.of (by decide) (Nat.le_of_ble_eq_true rfl) ?_
  intro p e s m args below meth c ls X _ h hl
  have X : Cx YC S k p s m args meth c cX5_one 2 (some .boolean) RX5 := X
  have hl : lv_has ls 2 [(0, .ref (k.1 + adC 3 0 0)), (1, .int a1)] := hl
  have JR : res = res := rfl
  unfold fX5_one at hf
  refine lv_aload_n X.x X.b dX5_one_0 rfl (lv_at hl 0 rfl) ?_
  refine gC_3_3 X h (hS 3 (Nat.le_of_ble_eq_true rfl) (Nat.le_of_ble_eq_true rfl)) Nat.one_pos Nat.one_pos lk_X5_44 dX5_one_1 ?_
  refine lv_sipush (v := 258) X.x X.b dX5_one_4 (by decide) ?_
  refine lv_icmp_eq (tgt := 29) X.x X.b dX5_one_7 (by decide) (fun c1 => ?_) (fun c1 => ?_)
  · have hf := wT c1 hf
    exact wX5_one_b29 hS ih X h (lv_sub hl [0] rfl) hf JR
  · have hf := wF c1 hf
    refine lv_aload_n X.x X.b dX5_one_10 rfl (lv_at hl 0 rfl) ?_
    refine gC_3_3 X h (hS 3 (Nat.le_of_ble_eq_true rfl) (Nat.le_of_ble_eq_true rfl)) Nat.one_pos Nat.one_pos lk_X5_44 dX5_one_11 ?_
    refine lv_sipush (v := 259) X.x X.b dX5_one_14 (by decide) ?_
    refine lv_icmp_ne (tgt := 70) X.x X.b dX5_one_17 (by decide) (fun c18 => ?_) (fun c18 => ?_)
    · have hf := wF c18 hf
      exact wX5_one_b70 hS ih X h (lv_sub hl [0, 1] rfl) hf JR
    · have hf := wT c18 hf
      refine lv_aload_n X.x X.b dX5_one_20 rfl (lv_at hl 0 rfl) ?_
      refine gC_3_5 X h (hS 3 (Nat.le_of_ble_eq_true rfl) (Nat.le_of_ble_eq_true rfl)) Nat.one_pos Nat.one_pos lk_X5_72 dX5_one_21 ?_
      refine lv_bipush (v := 6) X.x X.b dX5_one_24 (by decide) ?_
      refine lv_icmp_lt (tgt := 70) X.x X.b dX5_one_26 (by decide) (fun c31 => ?_) (fun c31 => ?_)
      · have hf := wT c31 hf
        exact wX5_one_b70 hS ih X h (lv_sub hl [0, 1] rfl) hf JR
      · have hf := wF c31 hf
        exact wX5_one_b29 hS ih X h (lv_sub hl [0] rfl) hf JR
set_option maxHeartbeats 4000000 in
set_option maxRecDepth 20000 in
theorem wX5_term_L12 {k : En} {S : Nat → Prop} (hS : ∀ t, 1 ≤ t → t ≤ 8 → S t) {a1 : Int32} {n : Nat} (ih : RecOk l k S n) {res : Mm × Int32} (X : Cx YC S k p s m args meth c cX5_term 3 (some .boolean) RX5) {r : Mm × Int32} (JR : r = res) :
    ∀ (fu : Nat) (g : Mm) (x2 : Int32) (H : Heap) (locs : List Loc) (ls : Array Slot), Hx YC S k s g H locs → lv_has ls 3 [(0, .ref (k.1 + adC 3 0 0)), (1, .int a1), (2, .int x2)] → wLp (fun q => fX5_term_B12 (grR n) q.1 a1 q.2) fu (g, x2) = some r → W p l e (RmN (n + 16) (40 * n + 400)) s m args below meth c H locs 0 0 (Fin YC S k args s below (some (.int res.2)) res.1) (F0 m 12 ls []) := by
  intro fu
  induction fu with
  | zero => intro g x2 H locs ls h hl hf; exact (wLp_0 hf).elim
  | succ fu ih1 =>
    intro g x2 H locs ls h hl hf
    obtain ⟨r1, hf, hr⟩ := wLp_s hf
    have J1n : ∀ (g : Mm) (x2 : Int32), r1 = .inl (g, x2) → ∀ (H : Heap) (locs : List Loc) (ls : Array Slot), Hx YC S k s g H locs → lv_has ls 3 [(0, .ref (k.1 + adC 3 0 0)), (1, .int a1), (2, .int x2)] → W p l e (RmN (n + 16) (40 * n + 400)) s m args below meth c H locs 0 0 (Fin YC S k args s below (some (.int res.2)) res.1) (F0 m 12 ls []) := fun g x2 q H locs ls h hl => by subst q; exact ih1 _ _ _ _ _ h hl hr
    have JRn : ∀ t1, r1 = .inr t1 → t1 = res := fun t1 q => by subst q; obtain rfl := Option.some.inj hr; exact JR
    have J1 := J1n
    have JR := JRn
    clear J1n JRn
    have hf : fX5_term_B12 (grR n) g a1 x2 = some r1 := hf
    unfold fX5_term_B12 at hf
    refine lv_iload_n X.x X.b dX5_term_12 rfl (lv_at hl 2 rfl) ?_
    refine lv_sipush (v := 160) X.x X.b dX5_term_13 (by decide) ?_
    refine lv_icmp_ge (tgt := 58) X.x X.b dX5_term_16 (by decide) (fun c7 => ?_) (fun c7 => ?_)
    · have hf := wT c7 hf
      obtain ⟨t8, hf, e9⟩ := wEx_s hf
      have JR := JR t8 e9
      refine lv_iconst (v := 1) X.x X.b dX5_term_58 (by decide) ?_
      cases (Option.some.inj hf).trans JR
      exact ro_zret X h (Or.inr rfl) dX5_term_59
    · have hf := wF c7 hf
      refine lv_aload_n X.x X.b dX5_term_19 rfl (lv_at hl 0 rfl) ?_
      refine gC_3_3 X h (hS 3 (Nat.le_of_ble_eq_true rfl) (Nat.le_of_ble_eq_true rfl)) Nat.one_pos Nat.one_pos lk_X5_44 dX5_term_20 ?_
      refine lv_bipush (v := 42) X.x X.b dX5_term_23 (by decide) ?_
      refine lv_icmp_ne (tgt := 58) X.x X.b dX5_term_25 (by decide) (fun c10 => ?_) (fun c10 => ?_)
      · have hf := wF c10 hf
        obtain ⟨t11, hf, e12⟩ := wEx_s hf
        have JR := JR t11 e12
        refine lv_iconst (v := 1) X.x X.b dX5_term_58 (by decide) ?_
        cases (Option.some.inj hf).trans JR
        exact ro_zret X h (Or.inr rfl) dX5_term_59
      · have hf := wT c10 hf
        refine lv_aload_n X.x X.b dX5_term_28 rfl (lv_at hl 0 rfl) ?_
        obtain ⟨g15, e13, hf⟩ := wBd_s hf
        refine ro_callvV (As := []) (g1 := g15) X h (kX5_next l hS e13) mv_X5_next lk_X5_31 ⟨rfl, rfl⟩ ⟨(by dsimp only [RmN]; omega), (by dsimp only [RmN]; omega)⟩ (rC_3 X h (hS 3 (Nat.le_of_ble_eq_true rfl) (Nat.le_of_ble_eq_true rfl)) Nat.one_pos Nat.one_pos) rfl hl rfl (Nat.le_of_ble_eq_true rfl) ⟨Nat.zero_le _, Nat.zero_le _⟩ dX5_term_29 (fun H locs h => ?_)
        refine lv_aload_n X.x X.b dX5_term_32 rfl (lv_at hl 0 rfl) ?_
        refine lv_iload_n X.x X.b dX5_term_33 rfl (lv_at hl 1 rfl) ?_
        obtain ⟨g18, y17, e16, hf⟩ := wB2_s hf
        refine ro_callvI (As := [.int a1]) (g1 := g18) (x := y17) X h (ih.2.2.2.2.2.2.1 _ _ _ e16) mv_X5_one lk_X5_69 ⟨rfl, rfl⟩ ⟨(by dsimp only [RmN]; omega), (by dsimp only [RmN]; omega)⟩ (rC_3 X h (hS 3 (Nat.le_of_ble_eq_true rfl) (Nat.le_of_ble_eq_true rfl)) Nat.one_pos Nat.one_pos) rfl hl rfl (Nat.le_of_ble_eq_true rfl) ⟨Nat.zero_le _, Nat.zero_le _⟩ dX5_term_34 (fun H locs h => ?_)
        refine lv_if_ne (tgt := 42) X.x X.b dX5_term_37 (by decide) (fun c19 => ?_) (fun c19 => ?_)
        · have hf := wF c19 hf
          refine lv_aload_n X.x X.b dX5_term_42 rfl (lv_at hl 0 rfl) ?_
          obtain ⟨n20, hb22, e21, hf⟩ := wGr_s hf
          refine gC_3_6 X h (hS 3 (Nat.le_of_ble_eq_true rfl) (Nat.le_of_ble_eq_true rfl)) Nat.one_pos Nat.one_pos lk_X5_22 e21 dX5_term_43 ?_
          refine lv_sipush (v := 10015) X.x X.b dX5_term_46 (by decide) ?_
          obtain ⟨g25, e23, hf⟩ := wBd_s hf
          refine ro_callvV (As := [.int (10015 : Int32)]) (g1 := g25) X h (kX6_put l hS hb22 e23) mv_X6_put lk_X5_54 ⟨rfl, rfl⟩ ⟨(by dsimp only [RmN]; omega), (by dsimp only [RmN]; omega)⟩ (rC_5 X h (hS 5 (Nat.le_of_ble_eq_true rfl) (Nat.le_of_ble_eq_true rfl)) hb22 Nat.one_pos) rfl hl rfl (Nat.le_of_ble_eq_true rfl) ⟨Nat.zero_le _, Nat.zero_le _⟩ dX5_term_49 (fun H locs h => ?_)
          obtain ⟨y26, e27, hf⟩ := wLe_s hf
          refine lv_iinc (v := y26) (lv' := [(2, .int y26), (0, .ref (k.1 + adC 3 0 0)), (1, .int a1)]) X.x X.b dX5_term_52 hl (k := 2) rfl (by rw [e27]; rfl) (by decide) rfl (fun ls hl => ?_)
          refine lv_goto (tgt := 12) X.x X.b dX5_term_55 (by decide) ?_
          exact J1 _ _ (Option.some.inj hf).symm _ _ _ h (lv_sub hl [1, 2, 0] rfl)
        · have hf := wT c19 hf
          obtain ⟨t28, hf, e29⟩ := wEx_s hf
          have JR := JR t28 e29
          refine lv_iconst (v := 0) X.x X.b dX5_term_40 (by decide) ?_
          cases (Option.some.inj hf).trans JR
          exact ro_zret X h (Or.inl rfl) dX5_term_41
set_option maxHeartbeats 4000000 in
set_option maxRecDepth 20000 in
theorem kX5_term (l : Launch) {k : En} {S : Nat → Prop} (hS : ∀ t, 1 ≤ t → t ≤ 8 → S t) {a1 : Int32} {n : Nat} (ih : RecOk l k S n) {res : Mm × Int32} {g : Mm} (hf : fX5_term (grR n) g a1 = some res) : Mt l yX5_term cX5_term 3 (some .boolean) (RmN (n + 16) (40 * n + 400)) YC S k [.ref (k.1 + adC 3 0 0), .int a1] g (some (.int res.2)) res.1 := by
  refine Mt.of (by decide) (Nat.le_of_ble_eq_true rfl) ?_
  intro p e s m args below meth c ls X _ h hl
  have X : Cx YC S k p s m args meth c cX5_term 3 (some .boolean) RX5 := X
  have hl : lv_has ls 3 [(0, .ref (k.1 + adC 3 0 0)), (1, .int a1)] := hl
  have JR : res = res := rfl
  unfold fX5_term at hf
  refine lv_aload_n X.x X.b dX5_term_0 rfl (lv_at hl 0 rfl) ?_
  refine lv_iload_n X.x X.b dX5_term_1 rfl (lv_at hl 1 rfl) ?_
  obtain ⟨g3, y2, e1, hf⟩ := wB2_s hf
  refine ro_callvI (As := [.int a1]) (g1 := g3) (x := y2) X h (ih.2.2.2.2.2.2.1 _ _ _ e1) mv_X5_one lk_X5_69 ⟨rfl, rfl⟩ ⟨(by dsimp only [RmN]; omega), (by dsimp only [RmN]; omega)⟩ (rC_3 X h (hS 3 (Nat.le_of_ble_eq_true rfl) (Nat.le_of_ble_eq_true rfl)) Nat.one_pos Nat.one_pos) rfl hl rfl (Nat.le_of_ble_eq_true rfl) ⟨Nat.zero_le _, Nat.zero_le _⟩ dX5_term_2 (fun H locs h => ?_)
  refine lv_if_ne (tgt := 10) X.x X.b dX5_term_5 (by decide) (fun c4 => ?_) (fun c4 => ?_)
  · have hf := wF c4 hf
    refine lv_iconst (v := 0) X.x X.b dX5_term_10 (by decide) ?_
    obtain ⟨y5, e6, hf⟩ := wLe_s hf
    refine lv_nmi e6 ?_
    refine lv_istore_n (lv' := [(2, .int y5), (0, .ref (k.1 + adC 3 0 0)), (1, .int a1)]) X.x X.b dX5_term_11 rfl hl (by decide) rfl (fun ls hl => ?_)
    exact wX5_term_L12 hS ih X JR _ _ _ _ _ _ h (lv_sub hl [1, 2, 0] rfl) hf
  · have hf := wT c4 hf
    refine lv_iconst (v := 0) X.x X.b dX5_term_8 (by decide) ?_
    cases (Option.some.inj hf).trans JR
    exact ro_zret X h (Or.inl rfl) dX5_term_9
set_option maxHeartbeats 4000000 in
set_option maxRecDepth 20000 in
theorem wX5_sum_b55 {k : En} {S : Nat → Prop} (hS : ∀ t, 1 ≤ t → t ≤ 8 → S t) {a1 : Int32} {n : Nat} (ih : RecOk l k S n) {res : Mm × Int32} (X : Cx YC S k p s m args meth c cX5_sum 4 (some .boolean) RX5) {g : Mm} {x2 : Int32} {z0 : Int32} {H : Heap} {locs : List Loc} {ls : Array Slot} (h : Hx YC S k s g H locs) (hl : lv_has ls 4 [(0, .ref (k.1 + adC 3 0 0)), (1, .int a1), (2, .int x2)]) {r : (Mm × Int32) ⊕ (Mm × Int32)} (hf : fX5_sum_b55 (grR n) g a1 x2 z0 = some r) (J1 : ∀ (g : Mm) (x2 : Int32), r = .inl (g, x2) → ∀ (H : Heap) (locs : List Loc) (ls : Array Slot), Hx YC S k s g H locs → lv_has ls 4 [(0, .ref (k.1 + adC 3 0 0)), (1, .int a1), (2, .int x2)] → W p l e (RmN (n + 16) (40 * n + 400)) s m args below meth c H locs 0 0 (Fin YC S k args s below (some (.int res.2)) res.1) (F0 m 12 ls [])) (JR : ∀ t1, r = .inr t1 → t1 = res) :
    W p l e (RmN (n + 16) (40 * n + 400)) s m args below meth c H locs 0 0 (Fin YC S k args s below (some (.int res.2)) res.1) (F0 m 55 ls [.int z0]) := by
  unfold fX5_sum_b55 at hf
  refine lv_istore_n (lv' := [(3, .int z0), (0, .ref (k.1 + adC 3 0 0)), (1, .int a1), (2, .int x2)]) X.x X.b dX5_sum_55 rfl hl (by decide) rfl (fun ls hl => ?_)
  refine lv_aload_n X.x X.b dX5_sum_56 rfl (lv_at hl 1 rfl) ?_
  obtain ⟨g14, e12, hf⟩ := wBd_s hf
  refine ro_callvV (As := []) (g1 := g14) X h (kX5_next l hS e12) mv_X5_next lk_X5_31 ⟨rfl, rfl⟩ ⟨(by dsimp only [RmN]; omega), (by dsimp only [RmN]; omega)⟩ (rC_3 X h (hS 3 (Nat.le_of_ble_eq_true rfl) (Nat.le_of_ble_eq_true rfl)) Nat.one_pos Nat.one_pos) rfl hl rfl (Nat.le_of_ble_eq_true rfl) ⟨Nat.zero_le _, Nat.zero_le _⟩ dX5_sum_57 (fun H locs h => ?_)
  refine lv_aload_n X.x X.b dX5_sum_60 rfl (lv_at hl 1 rfl) ?_
  refine lv_iload_n X.x X.b dX5_sum_61 rfl (lv_at hl 2 rfl) ?_
  obtain ⟨g17, y16, e15, hf⟩ := wB2_s hf
  refine ro_callvI (As := [.int a1]) (g1 := g17) (x := y16) X h (ih.2.2.2.2.2.1 _ _ _ e15) mv_X5_term lk_X5_66 ⟨rfl, rfl⟩ ⟨(by dsimp only [RmN]; omega), (by dsimp only [RmN]; omega)⟩ (rC_3 X h (hS 3 (Nat.le_of_ble_eq_true rfl) (Nat.le_of_ble_eq_true rfl)) Nat.one_pos Nat.one_pos) rfl hl rfl (Nat.le_of_ble_eq_true rfl) ⟨Nat.zero_le _, Nat.zero_le _⟩ dX5_sum_62 (fun H locs h => ?_)
  refine lv_if_ne (tgt := 70) X.x X.b dX5_sum_65 (by decide) (fun c18 => ?_) (fun c18 => ?_)
  · have hf := wF c18 hf
    refine lv_aload_n X.x X.b dX5_sum_70 rfl (lv_at hl 1 rfl) ?_
    obtain ⟨n19, hb21, e20, hf⟩ := wGr_s hf
    refine gC_3_6 X h (hS 3 (Nat.le_of_ble_eq_true rfl) (Nat.le_of_ble_eq_true rfl)) Nat.one_pos Nat.one_pos lk_X5_22 e20 dX5_sum_71 ?_
    refine lv_iload_n X.x X.b dX5_sum_74 rfl (lv_at hl 0 rfl) ?_
    obtain ⟨g24, e22, hf⟩ := wBd_s hf
    refine ro_callvV (As := [.int z0]) (g1 := g24) X h (kX6_put l hS hb21 e22) mv_X6_put lk_X5_54 ⟨rfl, rfl⟩ ⟨(by dsimp only [RmN]; omega), (by dsimp only [RmN]; omega)⟩ (rC_5 X h (hS 5 (Nat.le_of_ble_eq_true rfl) (Nat.le_of_ble_eq_true rfl)) hb21 Nat.one_pos) rfl hl rfl (Nat.le_of_ble_eq_true rfl) ⟨Nat.zero_le _, Nat.zero_le _⟩ dX5_sum_75 (fun H locs h => ?_)
    obtain ⟨y25, e26, hf⟩ := wLe_s hf
    refine lv_iinc (v := y25) (lv' := [(2, .int y25), (3, .int z0), (0, .ref (k.1 + adC 3 0 0)), (1, .int a1)]) X.x X.b dX5_sum_78 hl (k := 3) rfl (by rw [e26]; rfl) (by decide) rfl (fun ls hl => ?_)
    refine lv_goto (tgt := 12) X.x X.b dX5_sum_81 (by decide) ?_
    exact J1 _ _ (Option.some.inj hf).symm _ _ _ h (lv_sub hl [2, 3, 0] rfl)
  · have hf := wT c18 hf
    obtain ⟨t27, hf, e28⟩ := wEx_s hf
    have JR := JR t27 e28
    refine lv_iconst (v := 0) X.x X.b dX5_sum_68 (by decide) ?_
    cases (Option.some.inj hf).trans JR
    exact ro_zret X h (Or.inl rfl) dX5_sum_69
set_option maxHeartbeats 4000000 in
set_option maxRecDepth 20000 in
theorem wX5_sum_b37 {k : En} {S : Nat → Prop} (hS : ∀ t, 1 ≤ t → t ≤ 8 → S t) {a1 : Int32} {n : Nat} (ih : RecOk l k S n) {res : Mm × Int32} (X : Cx YC S k p s m args meth c cX5_sum 4 (some .boolean) RX5) {g : Mm} {x2 : Int32} {H : Heap} {locs : List Loc} {ls : Array Slot} (h : Hx YC S k s g H locs) (hl : lv_has ls 4 [(0, .ref (k.1 + adC 3 0 0)), (1, .int a1), (2, .int x2)]) {r : (Mm × Int32) ⊕ (Mm × Int32)} (hf : fX5_sum_b37 (grR n) g a1 x2 = some r) (J1 : ∀ (g : Mm) (x2 : Int32), r = .inl (g, x2) → ∀ (H : Heap) (locs : List Loc) (ls : Array Slot), Hx YC S k s g H locs → lv_has ls 4 [(0, .ref (k.1 + adC 3 0 0)), (1, .int a1), (2, .int x2)] → W p l e (RmN (n + 16) (40 * n + 400)) s m args below meth c H locs 0 0 (Fin YC S k args s below (some (.int res.2)) res.1) (F0 m 12 ls [])) (JR : ∀ t1, r = .inr t1 → t1 = res) :
    W p l e (RmN (n + 16) (40 * n + 400)) s m args below meth c H locs 0 0 (Fin YC S k args s below (some (.int res.2)) res.1) (F0 m 37 ls []) := by
  unfold fX5_sum_b37 at hf
  refine lv_aload_n X.x X.b dX5_sum_37 rfl (lv_at hl 0 rfl) ?_
  refine gC_3_3 X h (hS 3 (Nat.le_of_ble_eq_true rfl) (Nat.le_of_ble_eq_true rfl)) Nat.one_pos Nat.one_pos lk_X5_44 dX5_sum_38 ?_
  refine lv_bipush (v := 43) X.x X.b dX5_sum_41 (by decide) ?_
  refine lv_icmp_ne (tgt := 52) X.x X.b dX5_sum_43 (by decide) (fun c11 => ?_) (fun c11 => ?_)
  · have hf := wF c11 hf
    refine lv_sipush (v := 10014) X.x X.b dX5_sum_52 (by decide) ?_
    exact wX5_sum_b55 hS ih X h (lv_sub hl [0, 1, 2] rfl) hf J1 JR
  · have hf := wT c11 hf
    refine lv_sipush (v := 10013) X.x X.b dX5_sum_46 (by decide) ?_
    refine lv_goto (tgt := 55) X.x X.b dX5_sum_49 (by decide) ?_
    exact wX5_sum_b55 hS ih X h (lv_sub hl [0, 1, 2] rfl) hf J1 JR
set_option maxHeartbeats 4000000 in
set_option maxRecDepth 20000 in
theorem wX5_sum_L12 {k : En} {S : Nat → Prop} (hS : ∀ t, 1 ≤ t → t ≤ 8 → S t) {a1 : Int32} {n : Nat} (ih : RecOk l k S n) {res : Mm × Int32} (X : Cx YC S k p s m args meth c cX5_sum 4 (some .boolean) RX5) {r : Mm × Int32} (JR : r = res) :
    ∀ (fu : Nat) (g : Mm) (x2 : Int32) (H : Heap) (locs : List Loc) (ls : Array Slot), Hx YC S k s g H locs → lv_has ls 4 [(0, .ref (k.1 + adC 3 0 0)), (1, .int a1), (2, .int x2)] → wLp (fun q => fX5_sum_B12 (grR n) q.1 a1 q.2) fu (g, x2) = some r → W p l e (RmN (n + 16) (40 * n + 400)) s m args below meth c H locs 0 0 (Fin YC S k args s below (some (.int res.2)) res.1) (F0 m 12 ls []) := by
  intro fu
  induction fu with
  | zero => intro g x2 H locs ls h hl hf; exact (wLp_0 hf).elim
  | succ fu ih1 =>
    intro g x2 H locs ls h hl hf
    obtain ⟨r1, hf, hr⟩ := wLp_s hf
    have J1n : ∀ (g : Mm) (x2 : Int32), r1 = .inl (g, x2) → ∀ (H : Heap) (locs : List Loc) (ls : Array Slot), Hx YC S k s g H locs → lv_has ls 4 [(0, .ref (k.1 + adC 3 0 0)), (1, .int a1), (2, .int x2)] → W p l e (RmN (n + 16) (40 * n + 400)) s m args below meth c H locs 0 0 (Fin YC S k args s below (some (.int res.2)) res.1) (F0 m 12 ls []) := fun g x2 q H locs ls h hl => by subst q; exact ih1 _ _ _ _ _ h hl hr
    have JRn : ∀ t1, r1 = .inr t1 → t1 = res := fun t1 q => by subst q; obtain rfl := Option.some.inj hr; exact JR
    have J1 := J1n
    have JR := JRn
    clear J1n JRn
    have hf : fX5_sum_B12 (grR n) g a1 x2 = some r1 := hf
    unfold fX5_sum_B12 at hf
    refine lv_iload_n X.x X.b dX5_sum_12 rfl (lv_at hl 2 rfl) ?_
    refine lv_sipush (v := 160) X.x X.b dX5_sum_13 (by decide) ?_
    refine lv_icmp_ge (tgt := 84) X.x X.b dX5_sum_16 (by decide) (fun c7 => ?_) (fun c7 => ?_)
    · have hf := wT c7 hf
      obtain ⟨t8, hf, e9⟩ := wEx_s hf
      have JR := JR t8 e9
      refine lv_iconst (v := 1) X.x X.b dX5_sum_84 (by decide) ?_
      cases (Option.some.inj hf).trans JR
      exact ro_zret X h (Or.inr rfl) dX5_sum_85
    · have hf := wF c7 hf
      refine lv_aload_n X.x X.b dX5_sum_19 rfl (lv_at hl 0 rfl) ?_
      refine gC_3_3 X h (hS 3 (Nat.le_of_ble_eq_true rfl) (Nat.le_of_ble_eq_true rfl)) Nat.one_pos Nat.one_pos lk_X5_44 dX5_sum_20 ?_
      refine lv_bipush (v := 43) X.x X.b dX5_sum_23 (by decide) ?_
      refine lv_icmp_eq (tgt := 37) X.x X.b dX5_sum_25 (by decide) (fun c10 => ?_) (fun c10 => ?_)
      · have hf := wT c10 hf
        exact wX5_sum_b37 hS ih X h (lv_sub hl [0, 1, 2] rfl) hf J1 JR
      · have hf := wF c10 hf
        refine lv_aload_n X.x X.b dX5_sum_28 rfl (lv_at hl 0 rfl) ?_
        refine gC_3_3 X h (hS 3 (Nat.le_of_ble_eq_true rfl) (Nat.le_of_ble_eq_true rfl)) Nat.one_pos Nat.one_pos lk_X5_44 dX5_sum_29 ?_
        refine lv_bipush (v := 45) X.x X.b dX5_sum_32 (by decide) ?_
        refine lv_icmp_ne (tgt := 84) X.x X.b dX5_sum_34 (by decide) (fun c29 => ?_) (fun c29 => ?_)
        · have hf := wF c29 hf
          obtain ⟨t30, hf, e31⟩ := wEx_s hf
          have JR := JR t30 e31
          refine lv_iconst (v := 1) X.x X.b dX5_sum_84 (by decide) ?_
          cases (Option.some.inj hf).trans JR
          exact ro_zret X h (Or.inr rfl) dX5_sum_85
        · have hf := wT c29 hf
          exact wX5_sum_b37 hS ih X h (lv_sub hl [0, 1, 2] rfl) hf J1 JR
set_option maxHeartbeats 4000000 in
set_option maxRecDepth 20000 in
theorem kX5_sum (l : Launch) {k : En} {S : Nat → Prop} (hS : ∀ t, 1 ≤ t → t ≤ 8 → S t) {a1 : Int32} {n : Nat} (ih : RecOk l k S n) {res : Mm × Int32} {g : Mm} (hf : fX5_sum (grR n) g a1 = some res) : Mt l yX5_sum cX5_sum 4 (some .boolean) (RmN (n + 16) (40 * n + 400)) YC S k [.ref (k.1 + adC 3 0 0), .int a1] g (some (.int res.2)) res.1 := by
  refine Mt.of (by decide) (Nat.le_of_ble_eq_true rfl) ?_
  intro p e s m args below meth c ls X _ h hl
  have X : Cx YC S k p s m args meth c cX5_sum 4 (some .boolean) RX5 := X
  have hl : lv_has ls 4 [(0, .ref (k.1 + adC 3 0 0)), (1, .int a1)] := hl
  have JR : res = res := rfl
  unfold fX5_sum at hf
  refine lv_aload_n X.x X.b dX5_sum_0 rfl (lv_at hl 0 rfl) ?_
  refine lv_iload_n X.x X.b dX5_sum_1 rfl (lv_at hl 1 rfl) ?_
  obtain ⟨g3, y2, e1, hf⟩ := wB2_s hf
  refine ro_callvI (As := [.int a1]) (g1 := g3) (x := y2) X h (ih.2.2.2.2.2.1 _ _ _ e1) mv_X5_term lk_X5_66 ⟨rfl, rfl⟩ ⟨(by dsimp only [RmN]; omega), (by dsimp only [RmN]; omega)⟩ (rC_3 X h (hS 3 (Nat.le_of_ble_eq_true rfl) (Nat.le_of_ble_eq_true rfl)) Nat.one_pos Nat.one_pos) rfl hl rfl (Nat.le_of_ble_eq_true rfl) ⟨Nat.zero_le _, Nat.zero_le _⟩ dX5_sum_2 (fun H locs h => ?_)
  refine lv_if_ne (tgt := 10) X.x X.b dX5_sum_5 (by decide) (fun c4 => ?_) (fun c4 => ?_)
  · have hf := wF c4 hf
    refine lv_iconst (v := 0) X.x X.b dX5_sum_10 (by decide) ?_
    obtain ⟨y5, e6, hf⟩ := wLe_s hf
    refine lv_nmi e6 ?_
    refine lv_istore_n (lv' := [(2, .int y5), (0, .ref (k.1 + adC 3 0 0)), (1, .int a1)]) X.x X.b dX5_sum_11 rfl hl (by decide) rfl (fun ls hl => ?_)
    exact wX5_sum_L12 hS ih X JR _ _ _ _ _ _ h (lv_sub hl [1, 2, 0] rfl) hf
  · have hf := wT c4 hf
    refine lv_iconst (v := 0) X.x X.b dX5_sum_8 (by decide) ?_
    cases (Option.some.inj hf).trans JR
    exact ro_zret X h (Or.inl rfl) dX5_sum_9
set_option maxHeartbeats 4000000 in
set_option maxRecDepth 20000 in
theorem wX5_compared_b48 {k : En} {S : Nat → Prop} (hS : ∀ t, 1 ≤ t → t ≤ 8 → S t) {a1 : Int32} {n : Nat} (ih : RecOk l k S n) {res : Mm × Int32} (X : Cx YC S k p s m args meth c cX5_compared 3 (some .boolean) RX5) {g : Mm} {z0 : Int32} {H : Heap} {locs : List Loc} {ls : Array Slot} (h : Hx YC S k s g H locs) (hl : lv_has ls 3 [(0, .ref (k.1 + adC 3 0 0)), (1, .int a1)]) {r : Mm × Int32} (hf : fX5_compared_b48 (grR n) g a1 z0 = some r) (JR : r = res) :
    W p l e (RmN (n + 16) (40 * n + 400)) s m args below meth c H locs 0 0 (Fin YC S k args s below (some (.int res.2)) res.1) (F0 m 48 ls [.int z0]) := by
  unfold fX5_compared_b48 at hf
  refine lv_istore_n (lv' := [(2, .int z0), (0, .ref (k.1 + adC 3 0 0)), (1, .int a1)]) X.x X.b dX5_compared_48 rfl hl (by decide) rfl (fun ls hl => ?_)
  refine lv_aload_n X.x X.b dX5_compared_49 rfl (lv_at hl 1 rfl) ?_
  obtain ⟨g9, e7, hf⟩ := wBd_s hf
  refine ro_callvV (As := []) (g1 := g9) X h (kX5_next l hS e7) mv_X5_next lk_X5_31 ⟨rfl, rfl⟩ ⟨(by dsimp only [RmN]; omega), (by dsimp only [RmN]; omega)⟩ (rC_3 X h (hS 3 (Nat.le_of_ble_eq_true rfl) (Nat.le_of_ble_eq_true rfl)) Nat.one_pos Nat.one_pos) rfl hl rfl (Nat.le_of_ble_eq_true rfl) ⟨Nat.zero_le _, Nat.zero_le _⟩ dX5_compared_50 (fun H locs h => ?_)
  refine lv_aload_n X.x X.b dX5_compared_53 rfl (lv_at hl 1 rfl) ?_
  refine lv_iload_n X.x X.b dX5_compared_54 rfl (lv_at hl 2 rfl) ?_
  obtain ⟨g12, y11, e10, hf⟩ := wB2_s hf
  refine ro_callvI (As := [.int a1]) (g1 := g12) (x := y11) X h (ih.2.2.2.2.1 _ _ _ e10) mv_X5_sum lk_X5_63 ⟨rfl, rfl⟩ ⟨(by dsimp only [RmN]; omega), (by dsimp only [RmN]; omega)⟩ (rC_3 X h (hS 3 (Nat.le_of_ble_eq_true rfl) (Nat.le_of_ble_eq_true rfl)) Nat.one_pos Nat.one_pos) rfl hl rfl (Nat.le_of_ble_eq_true rfl) ⟨Nat.zero_le _, Nat.zero_le _⟩ dX5_compared_55 (fun H locs h => ?_)
  refine lv_if_ne (tgt := 63) X.x X.b dX5_compared_58 (by decide) (fun c13 => ?_) (fun c13 => ?_)
  · have hf := wF c13 hf
    refine lv_aload_n X.x X.b dX5_compared_63 rfl (lv_at hl 1 rfl) ?_
    obtain ⟨n14, hb16, e15, hf⟩ := wGr_s hf
    refine gC_3_6 X h (hS 3 (Nat.le_of_ble_eq_true rfl) (Nat.le_of_ble_eq_true rfl)) Nat.one_pos Nat.one_pos lk_X5_22 e15 dX5_compared_64 ?_
    refine lv_iload_n X.x X.b dX5_compared_67 rfl (lv_at hl 0 rfl) ?_
    obtain ⟨g19, e17, hf⟩ := wBd_s hf
    refine ro_callvV (As := [.int z0]) (g1 := g19) X h (kX6_put l hS hb16 e17) mv_X6_put lk_X5_54 ⟨rfl, rfl⟩ ⟨(by dsimp only [RmN]; omega), (by dsimp only [RmN]; omega)⟩ (rC_5 X h (hS 5 (Nat.le_of_ble_eq_true rfl) (Nat.le_of_ble_eq_true rfl)) hb16 Nat.one_pos) rfl hl rfl (Nat.le_of_ble_eq_true rfl) ⟨Nat.zero_le _, Nat.zero_le _⟩ dX5_compared_68 (fun H locs h => ?_)
    refine lv_iconst (v := 1) X.x X.b dX5_compared_71 (by decide) ?_
    cases (Option.some.inj hf).trans JR
    exact ro_zret X h (Or.inr rfl) dX5_compared_72
  · have hf := wT c13 hf
    refine lv_iconst (v := 0) X.x X.b dX5_compared_61 (by decide) ?_
    cases (Option.some.inj hf).trans JR
    exact ro_zret X h (Or.inl rfl) dX5_compared_62
set_option maxHeartbeats 4000000 in
set_option maxRecDepth 20000 in
theorem wX5_compared_b30 {k : En} {S : Nat → Prop} (hS : ∀ t, 1 ≤ t → t ≤ 8 → S t) {a1 : Int32} {n : Nat} (ih : RecOk l k S n) {res : Mm × Int32} (X : Cx YC S k p s m args meth c cX5_compared 3 (some .boolean) RX5) {g : Mm} {H : Heap} {locs : List Loc} {ls : Array Slot} (h : Hx YC S k s g H locs) (hl : lv_has ls 3 [(0, .ref (k.1 + adC 3 0 0)), (1, .int a1)]) {r : Mm × Int32} (hf : fX5_compared_b30 (grR n) g a1 = some r) (JR : r = res) :
    W p l e (RmN (n + 16) (40 * n + 400)) s m args below meth c H locs 0 0 (Fin YC S k args s below (some (.int res.2)) res.1) (F0 m 30 ls []) := by
  unfold fX5_compared_b30 at hf
  refine lv_aload_n X.x X.b dX5_compared_30 rfl (lv_at hl 0 rfl) ?_
  refine gC_3_3 X h (hS 3 (Nat.le_of_ble_eq_true rfl) (Nat.le_of_ble_eq_true rfl)) Nat.one_pos Nat.one_pos lk_X5_44 dX5_compared_31 ?_
  refine lv_bipush (v := 60) X.x X.b dX5_compared_34 (by decide) ?_
  refine lv_icmp_ne (tgt := 45) X.x X.b dX5_compared_36 (by decide) (fun c6 => ?_) (fun c6 => ?_)
  · have hf := wF c6 hf
    refine lv_sipush (v := 10012) X.x X.b dX5_compared_45 (by decide) ?_
    exact wX5_compared_b48 hS ih X h (lv_sub hl [0, 1] rfl) hf JR
  · have hf := wT c6 hf
    refine lv_sipush (v := 10011) X.x X.b dX5_compared_39 (by decide) ?_
    refine lv_goto (tgt := 48) X.x X.b dX5_compared_42 (by decide) ?_
    exact wX5_compared_b48 hS ih X h (lv_sub hl [0, 1] rfl) hf JR
set_option maxHeartbeats 4000000 in
set_option maxRecDepth 20000 in
theorem kX5_compared (l : Launch) {k : En} {S : Nat → Prop} (hS : ∀ t, 1 ≤ t → t ≤ 8 → S t) {a1 : Int32} {n : Nat} (ih : RecOk l k S n) {res : Mm × Int32} {g : Mm} (hf : fX5_compared (grR n) g a1 = some res) : Mt l yX5_compared cX5_compared 3 (some .boolean) (RmN (n + 16) (40 * n + 400)) YC S k [.ref (k.1 + adC 3 0 0), .int a1] g (some (.int res.2)) res.1 := by
  refine Mt.of (by decide) (Nat.le_of_ble_eq_true rfl) ?_
  intro p e s m args below meth c ls X _ h hl
  have X : Cx YC S k p s m args meth c cX5_compared 3 (some .boolean) RX5 := X
  have hl : lv_has ls 3 [(0, .ref (k.1 + adC 3 0 0)), (1, .int a1)] := hl
  have JR : res = res := rfl
  unfold fX5_compared at hf
  refine lv_aload_n X.x X.b dX5_compared_0 rfl (lv_at hl 0 rfl) ?_
  refine lv_iload_n X.x X.b dX5_compared_1 rfl (lv_at hl 1 rfl) ?_
  obtain ⟨g3, y2, e1, hf⟩ := wB2_s hf
  refine ro_callvI (As := [.int a1]) (g1 := g3) (x := y2) X h (ih.2.2.2.2.1 _ _ _ e1) mv_X5_sum lk_X5_63 ⟨rfl, rfl⟩ ⟨(by dsimp only [RmN]; omega), (by dsimp only [RmN]; omega)⟩ (rC_3 X h (hS 3 (Nat.le_of_ble_eq_true rfl) (Nat.le_of_ble_eq_true rfl)) Nat.one_pos Nat.one_pos) rfl hl rfl (Nat.le_of_ble_eq_true rfl) ⟨Nat.zero_le _, Nat.zero_le _⟩ dX5_compared_2 (fun H locs h => ?_)
  refine lv_if_ne (tgt := 10) X.x X.b dX5_compared_5 (by decide) (fun c4 => ?_) (fun c4 => ?_)
  · have hf := wF c4 hf
    refine lv_aload_n X.x X.b dX5_compared_10 rfl (lv_at hl 0 rfl) ?_
    refine gC_3_3 X h (hS 3 (Nat.le_of_ble_eq_true rfl) (Nat.le_of_ble_eq_true rfl)) Nat.one_pos Nat.one_pos lk_X5_44 dX5_compared_11 ?_
    refine lv_bipush (v := 60) X.x X.b dX5_compared_14 (by decide) ?_
    refine lv_icmp_eq (tgt := 30) X.x X.b dX5_compared_16 (by decide) (fun c5 => ?_) (fun c5 => ?_)
    · have hf := wT c5 hf
      exact wX5_compared_b30 hS ih X h (lv_sub hl [0, 1] rfl) hf JR
    · have hf := wF c5 hf
      refine lv_aload_n X.x X.b dX5_compared_19 rfl (lv_at hl 0 rfl) ?_
      refine gC_3_3 X h (hS 3 (Nat.le_of_ble_eq_true rfl) (Nat.le_of_ble_eq_true rfl)) Nat.one_pos Nat.one_pos lk_X5_44 dX5_compared_20 ?_
      refine lv_bipush (v := 61) X.x X.b dX5_compared_23 (by decide) ?_
      refine lv_icmp_eq (tgt := 30) X.x X.b dX5_compared_25 (by decide) (fun c20 => ?_) (fun c20 => ?_)
      · have hf := wT c20 hf
        exact wX5_compared_b30 hS ih X h (lv_sub hl [0, 1] rfl) hf JR
      · have hf := wF c20 hf
        refine lv_iconst (v := 1) X.x X.b dX5_compared_28 (by decide) ?_
        cases (Option.some.inj hf).trans JR
        exact ro_zret X h (Or.inr rfl) dX5_compared_29
  · have hf := wT c4 hf
    refine lv_iconst (v := 0) X.x X.b dX5_compared_8 (by decide) ?_
    cases (Option.some.inj hf).trans JR
    exact ro_zret X h (Or.inl rfl) dX5_compared_9
set_option maxHeartbeats 4000000 in
set_option maxRecDepth 20000 in
theorem kX5_negated (l : Launch) {k : En} {S : Nat → Prop} (hS : ∀ t, 1 ≤ t → t ≤ 8 → S t) {a1 : Int32} {n : Nat} (ih : RecOk l k S n) {res : Mm × Int32} {g : Mm} (hf : fX5_negated (grR n) g a1 = some res) : Mt l yX5_negated cX5_negated 2 (some .boolean) (RmN (n + 16) (40 * n + 400)) YC S k [.ref (k.1 + adC 3 0 0), .int a1] g (some (.int res.2)) res.1 := by
  refine Mt.of (by decide) (Nat.le_of_ble_eq_true rfl) ?_
  intro p e s m args below meth c ls X _ h hl
  have X : Cx YC S k p s m args meth c cX5_negated 2 (some .boolean) RX5 := X
  have hl : lv_has ls 2 [(0, .ref (k.1 + adC 3 0 0)), (1, .int a1)] := hl
  have JR : res = res := rfl
  unfold fX5_negated at hf
  refine lv_aload_n X.x X.b dX5_negated_0 rfl (lv_at hl 0 rfl) ?_
  refine lv_iconst (v := 5) X.x X.b dX5_negated_1 (by decide) ?_
  obtain ⟨y2, e1, hf⟩ := wBd_s hf
  refine ro_callvI (As := [.int (5 : Int32)]) (g1 := g) (x := y2) X h (kX5_isWord l hS e1) mv_X5_isWord lk_X5_34 ⟨rfl, rfl⟩ ⟨(by dsimp only [RmN]; omega), (by dsimp only [RmN]; omega)⟩ (rC_3 X h (hS 3 (Nat.le_of_ble_eq_true rfl) (Nat.le_of_ble_eq_true rfl)) Nat.one_pos Nat.one_pos) rfl hl rfl (Nat.le_of_ble_eq_true rfl) ⟨Nat.zero_le _, Nat.zero_le _⟩ dX5_negated_2 (fun H locs h => ?_)
  refine lv_if_ne (tgt := 14) X.x X.b dX5_negated_5 (by decide) (fun c3 => ?_) (fun c3 => ?_)
  · have hf := wF c3 hf
    refine lv_iload_n X.x X.b dX5_negated_14 rfl (lv_at hl 1 rfl) ?_
    refine lv_iconst (v := 5) X.x X.b dX5_negated_15 (by decide) ?_
    refine lv_icmp_lt (tgt := 21) X.x X.b dX5_negated_16 (by decide) (fun c4 => ?_) (fun c4 => ?_)
    · have hf := wT c4 hf
      refine lv_aload_n X.x X.b dX5_negated_21 rfl (lv_at hl 0 rfl) ?_
      obtain ⟨g7, e5, hf⟩ := wBd_s hf
      refine ro_callvV (As := []) (g1 := g7) X h (kX5_next l hS e5) mv_X5_next lk_X5_31 ⟨rfl, rfl⟩ ⟨(by dsimp only [RmN]; omega), (by dsimp only [RmN]; omega)⟩ (rC_3 X h (hS 3 (Nat.le_of_ble_eq_true rfl) (Nat.le_of_ble_eq_true rfl)) Nat.one_pos Nat.one_pos) rfl hl rfl (Nat.le_of_ble_eq_true rfl) ⟨Nat.zero_le _, Nat.zero_le _⟩ dX5_negated_22 (fun H locs h => ?_)
      refine lv_aload_n X.x X.b dX5_negated_25 rfl (lv_at hl 0 rfl) ?_
      refine lv_iload_n X.x X.b dX5_negated_26 rfl (lv_at hl 1 rfl) ?_
      refine lv_iconst (v := 1) X.x X.b dX5_negated_27 (by decide) ?_
      refine lv_iadd X.x X.b dX5_negated_28 ?_
      obtain ⟨g10, y9, e8, hf⟩ := wB2_s hf
      refine ro_callvI (As := [.int (a1 + (1 : Int32))]) (g1 := g10) (x := y9) X h (ih.2.2.1 _ _ _ e8) mv_X5_negated lk_X5_57 ⟨rfl, rfl⟩ ⟨(by dsimp only [RmN]; omega), (by dsimp only [RmN]; omega)⟩ (rC_3 X h (hS 3 (Nat.le_of_ble_eq_true rfl) (Nat.le_of_ble_eq_true rfl)) Nat.one_pos Nat.one_pos) rfl hl rfl (Nat.le_of_ble_eq_true rfl) ⟨Nat.zero_le _, Nat.zero_le _⟩ dX5_negated_29 (fun H locs h => ?_)
      refine lv_if_ne (tgt := 37) X.x X.b dX5_negated_32 (by decide) (fun c11 => ?_) (fun c11 => ?_)
      · have hf := wF c11 hf
        refine lv_aload_n X.x X.b dX5_negated_37 rfl (lv_at hl 0 rfl) ?_
        obtain ⟨n12, hb14, e13, hf⟩ := wGr_s hf
        refine gC_3_6 X h (hS 3 (Nat.le_of_ble_eq_true rfl) (Nat.le_of_ble_eq_true rfl)) Nat.one_pos Nat.one_pos lk_X5_22 e13 dX5_negated_38 ?_
        refine lv_sipush (v := 10010) X.x X.b dX5_negated_41 (by decide) ?_
        obtain ⟨g17, e15, hf⟩ := wBd_s hf
        refine ro_callvV (As := [.int (10010 : Int32)]) (g1 := g17) X h (kX6_put l hS hb14 e15) mv_X6_put lk_X5_54 ⟨rfl, rfl⟩ ⟨(by dsimp only [RmN]; omega), (by dsimp only [RmN]; omega)⟩ (rC_5 X h (hS 5 (Nat.le_of_ble_eq_true rfl) (Nat.le_of_ble_eq_true rfl)) hb14 Nat.one_pos) rfl hl rfl (Nat.le_of_ble_eq_true rfl) ⟨Nat.zero_le _, Nat.zero_le _⟩ dX5_negated_44 (fun H locs h => ?_)
        refine lv_iconst (v := 1) X.x X.b dX5_negated_47 (by decide) ?_
        cases (Option.some.inj hf).trans JR
        exact ro_zret X h (Or.inr rfl) dX5_negated_48
      · have hf := wT c11 hf
        refine lv_iconst (v := 0) X.x X.b dX5_negated_35 (by decide) ?_
        cases (Option.some.inj hf).trans JR
        exact ro_zret X h (Or.inl rfl) dX5_negated_36
    · have hf := wF c4 hf
      refine lv_iconst (v := 0) X.x X.b dX5_negated_19 (by decide) ?_
      cases (Option.some.inj hf).trans JR
      exact ro_zret X h (Or.inl rfl) dX5_negated_20
  · have hf := wT c3 hf
    refine lv_aload_n X.x X.b dX5_negated_8 rfl (lv_at hl 0 rfl) ?_
    refine lv_iload_n X.x X.b dX5_negated_9 rfl (lv_at hl 1 rfl) ?_
    obtain ⟨g20, y19, e18, hf⟩ := wB2_s hf
    refine ro_callvI (As := [.int a1]) (g1 := g20) (x := y19) X h (ih.2.2.2.1 _ _ _ e18) mv_X5_compared lk_X5_60 ⟨rfl, rfl⟩ ⟨(by dsimp only [RmN]; omega), (by dsimp only [RmN]; omega)⟩ (rC_3 X h (hS 3 (Nat.le_of_ble_eq_true rfl) (Nat.le_of_ble_eq_true rfl)) Nat.one_pos Nat.one_pos) rfl hl rfl (Nat.le_of_ble_eq_true rfl) ⟨Nat.zero_le _, Nat.zero_le _⟩ dX5_negated_10 (fun H locs h => ?_)
    obtain ⟨z21, hf⟩ := wGb_s hf
    cases (Option.some.inj hf).trans JR
    exact ro_zret X h z21 dX5_negated_13
set_option maxHeartbeats 4000000 in
set_option maxRecDepth 20000 in
theorem wX5_both_L12 {k : En} {S : Nat → Prop} (hS : ∀ t, 1 ≤ t → t ≤ 8 → S t) {a1 : Int32} {n : Nat} (ih : RecOk l k S n) {res : Mm × Int32} (X : Cx YC S k p s m args meth c cX5_both 3 (some .boolean) RX5) {r : Mm × Int32} (JR : r = res) :
    ∀ (fu : Nat) (g : Mm) (x2 : Int32) (H : Heap) (locs : List Loc) (ls : Array Slot), Hx YC S k s g H locs → lv_has ls 3 [(0, .ref (k.1 + adC 3 0 0)), (1, .int a1), (2, .int x2)] → wLp (fun q => fX5_both_B12 (grR n) q.1 a1 q.2) fu (g, x2) = some r → W p l e (RmN (n + 16) (40 * n + 400)) s m args below meth c H locs 0 0 (Fin YC S k args s below (some (.int res.2)) res.1) (F0 m 12 ls []) := by
  intro fu
  induction fu with
  | zero => intro g x2 H locs ls h hl hf; exact (wLp_0 hf).elim
  | succ fu ih1 =>
    intro g x2 H locs ls h hl hf
    obtain ⟨r1, hf, hr⟩ := wLp_s hf
    have J1n : ∀ (g : Mm) (x2 : Int32), r1 = .inl (g, x2) → ∀ (H : Heap) (locs : List Loc) (ls : Array Slot), Hx YC S k s g H locs → lv_has ls 3 [(0, .ref (k.1 + adC 3 0 0)), (1, .int a1), (2, .int x2)] → W p l e (RmN (n + 16) (40 * n + 400)) s m args below meth c H locs 0 0 (Fin YC S k args s below (some (.int res.2)) res.1) (F0 m 12 ls []) := fun g x2 q H locs ls h hl => by subst q; exact ih1 _ _ _ _ _ h hl hr
    have JRn : ∀ t1, r1 = .inr t1 → t1 = res := fun t1 q => by subst q; obtain rfl := Option.some.inj hr; exact JR
    have J1 := J1n
    have JR := JRn
    clear J1n JRn
    have hf : fX5_both_B12 (grR n) g a1 x2 = some r1 := hf
    unfold fX5_both_B12 at hf
    refine lv_iload_n X.x X.b dX5_both_12 rfl (lv_at hl 2 rfl) ?_
    refine lv_sipush (v := 160) X.x X.b dX5_both_13 (by decide) ?_
    refine lv_icmp_ge (tgt := 57) X.x X.b dX5_both_16 (by decide) (fun c7 => ?_) (fun c7 => ?_)
    · have hf := wT c7 hf
      obtain ⟨t8, hf, e9⟩ := wEx_s hf
      have JR := JR t8 e9
      refine lv_iconst (v := 1) X.x X.b dX5_both_57 (by decide) ?_
      cases (Option.some.inj hf).trans JR
      exact ro_zret X h (Or.inr rfl) dX5_both_58
    · have hf := wF c7 hf
      refine lv_aload_n X.x X.b dX5_both_19 rfl (lv_at hl 0 rfl) ?_
      refine lv_iconst (v := 4) X.x X.b dX5_both_20 (by decide) ?_
      obtain ⟨y11, e10, hf⟩ := wBd_s hf
      refine ro_callvI (As := [.int (4 : Int32)]) (g1 := g) (x := y11) X h (kX5_isWord l hS e10) mv_X5_isWord lk_X5_34 ⟨rfl, rfl⟩ ⟨(by dsimp only [RmN]; omega), (by dsimp only [RmN]; omega)⟩ (rC_3 X h (hS 3 (Nat.le_of_ble_eq_true rfl) (Nat.le_of_ble_eq_true rfl)) Nat.one_pos Nat.one_pos) rfl hl rfl (Nat.le_of_ble_eq_true rfl) ⟨Nat.zero_le _, Nat.zero_le _⟩ dX5_both_21 (fun H locs h => ?_)
      refine lv_if_eq (tgt := 57) X.x X.b dX5_both_24 (by decide) (fun c12 => ?_) (fun c12 => ?_)
      · have hf := wT c12 hf
        obtain ⟨t13, hf, e14⟩ := wEx_s hf
        have JR := JR t13 e14
        refine lv_iconst (v := 1) X.x X.b dX5_both_57 (by decide) ?_
        cases (Option.some.inj hf).trans JR
        exact ro_zret X h (Or.inr rfl) dX5_both_58
      · have hf := wF c12 hf
        refine lv_aload_n X.x X.b dX5_both_27 rfl (lv_at hl 0 rfl) ?_
        obtain ⟨g17, e15, hf⟩ := wBd_s hf
        refine ro_callvV (As := []) (g1 := g17) X h (kX5_next l hS e15) mv_X5_next lk_X5_31 ⟨rfl, rfl⟩ ⟨(by dsimp only [RmN]; omega), (by dsimp only [RmN]; omega)⟩ (rC_3 X h (hS 3 (Nat.le_of_ble_eq_true rfl) (Nat.le_of_ble_eq_true rfl)) Nat.one_pos Nat.one_pos) rfl hl rfl (Nat.le_of_ble_eq_true rfl) ⟨Nat.zero_le _, Nat.zero_le _⟩ dX5_both_28 (fun H locs h => ?_)
        refine lv_aload_n X.x X.b dX5_both_31 rfl (lv_at hl 0 rfl) ?_
        refine lv_iload_n X.x X.b dX5_both_32 rfl (lv_at hl 1 rfl) ?_
        obtain ⟨g20, y19, e18, hf⟩ := wB2_s hf
        refine ro_callvI (As := [.int a1]) (g1 := g20) (x := y19) X h (ih.2.2.1 _ _ _ e18) mv_X5_negated lk_X5_57 ⟨rfl, rfl⟩ ⟨(by dsimp only [RmN]; omega), (by dsimp only [RmN]; omega)⟩ (rC_3 X h (hS 3 (Nat.le_of_ble_eq_true rfl) (Nat.le_of_ble_eq_true rfl)) Nat.one_pos Nat.one_pos) rfl hl rfl (Nat.le_of_ble_eq_true rfl) ⟨Nat.zero_le _, Nat.zero_le _⟩ dX5_both_33 (fun H locs h => ?_)
        refine lv_if_ne (tgt := 41) X.x X.b dX5_both_36 (by decide) (fun c21 => ?_) (fun c21 => ?_)
        · have hf := wF c21 hf
          refine lv_aload_n X.x X.b dX5_both_41 rfl (lv_at hl 0 rfl) ?_
          obtain ⟨n22, hb24, e23, hf⟩ := wGr_s hf
          refine gC_3_6 X h (hS 3 (Nat.le_of_ble_eq_true rfl) (Nat.le_of_ble_eq_true rfl)) Nat.one_pos Nat.one_pos lk_X5_22 e23 dX5_both_42 ?_
          refine lv_sipush (v := 10009) X.x X.b dX5_both_45 (by decide) ?_
          obtain ⟨g27, e25, hf⟩ := wBd_s hf
          refine ro_callvV (As := [.int (10009 : Int32)]) (g1 := g27) X h (kX6_put l hS hb24 e25) mv_X6_put lk_X5_54 ⟨rfl, rfl⟩ ⟨(by dsimp only [RmN]; omega), (by dsimp only [RmN]; omega)⟩ (rC_5 X h (hS 5 (Nat.le_of_ble_eq_true rfl) (Nat.le_of_ble_eq_true rfl)) hb24 Nat.one_pos) rfl hl rfl (Nat.le_of_ble_eq_true rfl) ⟨Nat.zero_le _, Nat.zero_le _⟩ dX5_both_48 (fun H locs h => ?_)
          obtain ⟨y28, e29, hf⟩ := wLe_s hf
          refine lv_iinc (v := y28) (lv' := [(2, .int y28), (0, .ref (k.1 + adC 3 0 0)), (1, .int a1)]) X.x X.b dX5_both_51 hl (k := 2) rfl (by rw [e29]; rfl) (by decide) rfl (fun ls hl => ?_)
          refine lv_goto (tgt := 12) X.x X.b dX5_both_54 (by decide) ?_
          exact J1 _ _ (Option.some.inj hf).symm _ _ _ h (lv_sub hl [1, 2, 0] rfl)
        · have hf := wT c21 hf
          obtain ⟨t30, hf, e31⟩ := wEx_s hf
          have JR := JR t30 e31
          refine lv_iconst (v := 0) X.x X.b dX5_both_39 (by decide) ?_
          cases (Option.some.inj hf).trans JR
          exact ro_zret X h (Or.inl rfl) dX5_both_40
set_option maxHeartbeats 4000000 in
set_option maxRecDepth 20000 in
theorem kX5_both (l : Launch) {k : En} {S : Nat → Prop} (hS : ∀ t, 1 ≤ t → t ≤ 8 → S t) {a1 : Int32} {n : Nat} (ih : RecOk l k S n) {res : Mm × Int32} {g : Mm} (hf : fX5_both (grR n) g a1 = some res) : Mt l yX5_both cX5_both 3 (some .boolean) (RmN (n + 16) (40 * n + 400)) YC S k [.ref (k.1 + adC 3 0 0), .int a1] g (some (.int res.2)) res.1 := by
  refine Mt.of (by decide) (Nat.le_of_ble_eq_true rfl) ?_
  intro p e s m args below meth c ls X _ h hl
  have X : Cx YC S k p s m args meth c cX5_both 3 (some .boolean) RX5 := X
  have hl : lv_has ls 3 [(0, .ref (k.1 + adC 3 0 0)), (1, .int a1)] := hl
  have JR : res = res := rfl
  unfold fX5_both at hf
  refine lv_aload_n X.x X.b dX5_both_0 rfl (lv_at hl 0 rfl) ?_
  refine lv_iload_n X.x X.b dX5_both_1 rfl (lv_at hl 1 rfl) ?_
  obtain ⟨g3, y2, e1, hf⟩ := wB2_s hf
  refine ro_callvI (As := [.int a1]) (g1 := g3) (x := y2) X h (ih.2.2.1 _ _ _ e1) mv_X5_negated lk_X5_57 ⟨rfl, rfl⟩ ⟨(by dsimp only [RmN]; omega), (by dsimp only [RmN]; omega)⟩ (rC_3 X h (hS 3 (Nat.le_of_ble_eq_true rfl) (Nat.le_of_ble_eq_true rfl)) Nat.one_pos Nat.one_pos) rfl hl rfl (Nat.le_of_ble_eq_true rfl) ⟨Nat.zero_le _, Nat.zero_le _⟩ dX5_both_2 (fun H locs h => ?_)
  refine lv_if_ne (tgt := 10) X.x X.b dX5_both_5 (by decide) (fun c4 => ?_) (fun c4 => ?_)
  · have hf := wF c4 hf
    refine lv_iconst (v := 0) X.x X.b dX5_both_10 (by decide) ?_
    obtain ⟨y5, e6, hf⟩ := wLe_s hf
    refine lv_nmi e6 ?_
    refine lv_istore_n (lv' := [(2, .int y5), (0, .ref (k.1 + adC 3 0 0)), (1, .int a1)]) X.x X.b dX5_both_11 rfl hl (by decide) rfl (fun ls hl => ?_)
    exact wX5_both_L12 hS ih X JR _ _ _ _ _ _ h (lv_sub hl [1, 2, 0] rfl) hf
  · have hf := wT c4 hf
    refine lv_iconst (v := 0) X.x X.b dX5_both_8 (by decide) ?_
    cases (Option.some.inj hf).trans JR
    exact ro_zret X h (Or.inl rfl) dX5_both_9
set_option maxHeartbeats 4000000 in
set_option maxRecDepth 20000 in
theorem wX5_either_L12 {k : En} {S : Nat → Prop} (hS : ∀ t, 1 ≤ t → t ≤ 8 → S t) {a1 : Int32} {n : Nat} (ih : RecOk l k S n) {res : Mm × Int32} (X : Cx YC S k p s m args meth c cX5_either 3 (some .boolean) RX5) {r : Mm × Int32} (JR : r = res) :
    ∀ (fu : Nat) (g : Mm) (x2 : Int32) (H : Heap) (locs : List Loc) (ls : Array Slot), Hx YC S k s g H locs → lv_has ls 3 [(0, .ref (k.1 + adC 3 0 0)), (1, .int a1), (2, .int x2)] → wLp (fun q => fX5_either_B12 (grR n) q.1 a1 q.2) fu (g, x2) = some r → W p l e (RmN (n + 16) (40 * n + 400)) s m args below meth c H locs 0 0 (Fin YC S k args s below (some (.int res.2)) res.1) (F0 m 12 ls []) := by
  intro fu
  induction fu with
  | zero => intro g x2 H locs ls h hl hf; exact (wLp_0 hf).elim
  | succ fu ih1 =>
    intro g x2 H locs ls h hl hf
    obtain ⟨r1, hf, hr⟩ := wLp_s hf
    have J1n : ∀ (g : Mm) (x2 : Int32), r1 = .inl (g, x2) → ∀ (H : Heap) (locs : List Loc) (ls : Array Slot), Hx YC S k s g H locs → lv_has ls 3 [(0, .ref (k.1 + adC 3 0 0)), (1, .int a1), (2, .int x2)] → W p l e (RmN (n + 16) (40 * n + 400)) s m args below meth c H locs 0 0 (Fin YC S k args s below (some (.int res.2)) res.1) (F0 m 12 ls []) := fun g x2 q H locs ls h hl => by subst q; exact ih1 _ _ _ _ _ h hl hr
    have JRn : ∀ t1, r1 = .inr t1 → t1 = res := fun t1 q => by subst q; obtain rfl := Option.some.inj hr; exact JR
    have J1 := J1n
    have JR := JRn
    clear J1n JRn
    have hf : fX5_either_B12 (grR n) g a1 x2 = some r1 := hf
    unfold fX5_either_B12 at hf
    refine lv_iload_n X.x X.b dX5_either_12 rfl (lv_at hl 2 rfl) ?_
    refine lv_sipush (v := 160) X.x X.b dX5_either_13 (by decide) ?_
    refine lv_icmp_ge (tgt := 57) X.x X.b dX5_either_16 (by decide) (fun c7 => ?_) (fun c7 => ?_)
    · have hf := wT c7 hf
      obtain ⟨t8, hf, e9⟩ := wEx_s hf
      have JR := JR t8 e9
      refine lv_iconst (v := 1) X.x X.b dX5_either_57 (by decide) ?_
      cases (Option.some.inj hf).trans JR
      exact ro_zret X h (Or.inr rfl) dX5_either_58
    · have hf := wF c7 hf
      refine lv_aload_n X.x X.b dX5_either_19 rfl (lv_at hl 0 rfl) ?_
      refine lv_iconst (v := 3) X.x X.b dX5_either_20 (by decide) ?_
      obtain ⟨y11, e10, hf⟩ := wBd_s hf
      refine ro_callvI (As := [.int (3 : Int32)]) (g1 := g) (x := y11) X h (kX5_isWord l hS e10) mv_X5_isWord lk_X5_34 ⟨rfl, rfl⟩ ⟨(by dsimp only [RmN]; omega), (by dsimp only [RmN]; omega)⟩ (rC_3 X h (hS 3 (Nat.le_of_ble_eq_true rfl) (Nat.le_of_ble_eq_true rfl)) Nat.one_pos Nat.one_pos) rfl hl rfl (Nat.le_of_ble_eq_true rfl) ⟨Nat.zero_le _, Nat.zero_le _⟩ dX5_either_21 (fun H locs h => ?_)
      refine lv_if_eq (tgt := 57) X.x X.b dX5_either_24 (by decide) (fun c12 => ?_) (fun c12 => ?_)
      · have hf := wT c12 hf
        obtain ⟨t13, hf, e14⟩ := wEx_s hf
        have JR := JR t13 e14
        refine lv_iconst (v := 1) X.x X.b dX5_either_57 (by decide) ?_
        cases (Option.some.inj hf).trans JR
        exact ro_zret X h (Or.inr rfl) dX5_either_58
      · have hf := wF c12 hf
        refine lv_aload_n X.x X.b dX5_either_27 rfl (lv_at hl 0 rfl) ?_
        obtain ⟨g17, e15, hf⟩ := wBd_s hf
        refine ro_callvV (As := []) (g1 := g17) X h (kX5_next l hS e15) mv_X5_next lk_X5_31 ⟨rfl, rfl⟩ ⟨(by dsimp only [RmN]; omega), (by dsimp only [RmN]; omega)⟩ (rC_3 X h (hS 3 (Nat.le_of_ble_eq_true rfl) (Nat.le_of_ble_eq_true rfl)) Nat.one_pos Nat.one_pos) rfl hl rfl (Nat.le_of_ble_eq_true rfl) ⟨Nat.zero_le _, Nat.zero_le _⟩ dX5_either_28 (fun H locs h => ?_)
        refine lv_aload_n X.x X.b dX5_either_31 rfl (lv_at hl 0 rfl) ?_
        refine lv_iload_n X.x X.b dX5_either_32 rfl (lv_at hl 1 rfl) ?_
        obtain ⟨g20, y19, e18, hf⟩ := wB2_s hf
        refine ro_callvI (As := [.int a1]) (g1 := g20) (x := y19) X h (ih.2.1 _ _ _ e18) mv_X5_both lk_X5_51 ⟨rfl, rfl⟩ ⟨(by dsimp only [RmN]; omega), (by dsimp only [RmN]; omega)⟩ (rC_3 X h (hS 3 (Nat.le_of_ble_eq_true rfl) (Nat.le_of_ble_eq_true rfl)) Nat.one_pos Nat.one_pos) rfl hl rfl (Nat.le_of_ble_eq_true rfl) ⟨Nat.zero_le _, Nat.zero_le _⟩ dX5_either_33 (fun H locs h => ?_)
        refine lv_if_ne (tgt := 41) X.x X.b dX5_either_36 (by decide) (fun c21 => ?_) (fun c21 => ?_)
        · have hf := wF c21 hf
          refine lv_aload_n X.x X.b dX5_either_41 rfl (lv_at hl 0 rfl) ?_
          obtain ⟨n22, hb24, e23, hf⟩ := wGr_s hf
          refine gC_3_6 X h (hS 3 (Nat.le_of_ble_eq_true rfl) (Nat.le_of_ble_eq_true rfl)) Nat.one_pos Nat.one_pos lk_X5_22 e23 dX5_either_42 ?_
          refine lv_sipush (v := 10008) X.x X.b dX5_either_45 (by decide) ?_
          obtain ⟨g27, e25, hf⟩ := wBd_s hf
          refine ro_callvV (As := [.int (10008 : Int32)]) (g1 := g27) X h (kX6_put l hS hb24 e25) mv_X6_put lk_X5_54 ⟨rfl, rfl⟩ ⟨(by dsimp only [RmN]; omega), (by dsimp only [RmN]; omega)⟩ (rC_5 X h (hS 5 (Nat.le_of_ble_eq_true rfl) (Nat.le_of_ble_eq_true rfl)) hb24 Nat.one_pos) rfl hl rfl (Nat.le_of_ble_eq_true rfl) ⟨Nat.zero_le _, Nat.zero_le _⟩ dX5_either_48 (fun H locs h => ?_)
          obtain ⟨y28, e29, hf⟩ := wLe_s hf
          refine lv_iinc (v := y28) (lv' := [(2, .int y28), (0, .ref (k.1 + adC 3 0 0)), (1, .int a1)]) X.x X.b dX5_either_51 hl (k := 2) rfl (by rw [e29]; rfl) (by decide) rfl (fun ls hl => ?_)
          refine lv_goto (tgt := 12) X.x X.b dX5_either_54 (by decide) ?_
          exact J1 _ _ (Option.some.inj hf).symm _ _ _ h (lv_sub hl [1, 2, 0] rfl)
        · have hf := wT c21 hf
          obtain ⟨t30, hf, e31⟩ := wEx_s hf
          have JR := JR t30 e31
          refine lv_iconst (v := 0) X.x X.b dX5_either_39 (by decide) ?_
          cases (Option.some.inj hf).trans JR
          exact ro_zret X h (Or.inl rfl) dX5_either_40
set_option maxHeartbeats 4000000 in
set_option maxRecDepth 20000 in
theorem kX5_either (l : Launch) {k : En} {S : Nat → Prop} (hS : ∀ t, 1 ≤ t → t ≤ 8 → S t) {a1 : Int32} {n : Nat} (ih : RecOk l k S n) {res : Mm × Int32} {g : Mm} (hf : fX5_either (grR n) g a1 = some res) : Mt l yX5_either cX5_either 3 (some .boolean) (RmN (n + 16) (40 * n + 400)) YC S k [.ref (k.1 + adC 3 0 0), .int a1] g (some (.int res.2)) res.1 := by
  refine Mt.of (by decide) (Nat.le_of_ble_eq_true rfl) ?_
  intro p e s m args below meth c ls X _ h hl
  have X : Cx YC S k p s m args meth c cX5_either 3 (some .boolean) RX5 := X
  have hl : lv_has ls 3 [(0, .ref (k.1 + adC 3 0 0)), (1, .int a1)] := hl
  have JR : res = res := rfl
  unfold fX5_either at hf
  refine lv_aload_n X.x X.b dX5_either_0 rfl (lv_at hl 0 rfl) ?_
  refine lv_iload_n X.x X.b dX5_either_1 rfl (lv_at hl 1 rfl) ?_
  obtain ⟨g3, y2, e1, hf⟩ := wB2_s hf
  refine ro_callvI (As := [.int a1]) (g1 := g3) (x := y2) X h (ih.2.1 _ _ _ e1) mv_X5_both lk_X5_51 ⟨rfl, rfl⟩ ⟨(by dsimp only [RmN]; omega), (by dsimp only [RmN]; omega)⟩ (rC_3 X h (hS 3 (Nat.le_of_ble_eq_true rfl) (Nat.le_of_ble_eq_true rfl)) Nat.one_pos Nat.one_pos) rfl hl rfl (Nat.le_of_ble_eq_true rfl) ⟨Nat.zero_le _, Nat.zero_le _⟩ dX5_either_2 (fun H locs h => ?_)
  refine lv_if_ne (tgt := 10) X.x X.b dX5_either_5 (by decide) (fun c4 => ?_) (fun c4 => ?_)
  · have hf := wF c4 hf
    refine lv_iconst (v := 0) X.x X.b dX5_either_10 (by decide) ?_
    obtain ⟨y5, e6, hf⟩ := wLe_s hf
    refine lv_nmi e6 ?_
    refine lv_istore_n (lv' := [(2, .int y5), (0, .ref (k.1 + adC 3 0 0)), (1, .int a1)]) X.x X.b dX5_either_11 rfl hl (by decide) rfl (fun ls hl => ?_)
    exact wX5_either_L12 hS ih X JR _ _ _ _ _ _ h (lv_sub hl [1, 2, 0] rfl) hf
  · have hf := wT c4 hf
    refine lv_iconst (v := 0) X.x X.b dX5_either_8 (by decide) ?_
    cases (Option.some.inj hf).trans JR
    exact ro_zret X h (Or.inl rfl) dX5_either_9
theorem recOk (l : Launch) {k : En} {S : Nat → Prop} (hS : ∀ t, 1 ≤ t → t ≤ 8 → S t) : ∀ n, RecOk l k S n := by
  intro n
  induction n with
  | zero => refine ⟨?_, ?_, ?_, ?_, ?_, ?_, ?_, ?_, ?_⟩ <;> (intro _ _ _ q; cases q)
  | succ n ih =>
    have e1 : n + 1 + 15 = n + 16 := by omega
    have e2 : 40 * (n + 1) + 360 = 40 * n + 400 := by omega
    unfold RecOk
    rw [e1, e2]
    exact ⟨fun g a res q => kX5_either l hS ih q, fun g a res q => kX5_both l hS ih q, fun g a res q => kX5_negated l hS ih q, fun g a res q => kX5_compared l hS ih q, fun g a res q => kX5_sum l hS ih q, fun g a res q => kX5_term l hS ih q, fun g a res q => kX5_one l hS ih q, fun g a res q => kX5_enclosed l hS ih q, fun g a res q => kX5_negative l hS ih q⟩
set_option maxHeartbeats 4000000 in
set_option maxRecDepth 20000 in
theorem wX5_read_L28 {k : En} {S : Nat → Prop} (hS : ∀ t, 1 ≤ t → t ≤ 8 → S t) {a1 : Int32} {i2 : Nat} (hi2 : i2 < 6) {res : Mm × Int32} (X : Cx YC S k p s m args meth c cX5_read 4 (some .int) RX5) {r : Mm × Int32} (JR : r = res) :
    ∀ (fu : Nat) (g : Mm) (x3 : Int32) (H : Heap) (locs : List Loc) (ls : Array Slot), Hx YC S k s g H locs → lv_has ls 4 [(0, .ref (k.1 + adC 3 0 0)), (3, .int x3)] → wLp (fun q => fX5_read_B28 q.1 a1 i2 q.2) fu (g, x3) = some r → W p l e (RmN 116 4382) s m args below meth c H locs 0 0 (Fin YC S k args s below (some (.int res.2)) res.1) (F0 m 28 ls []) := by
  intro fu
  induction fu with
  | zero => intro g x3 H locs ls h hl hf; exact (wLp_0 hf).elim
  | succ fu ih1 =>
    intro g x3 H locs ls h hl hf
    obtain ⟨r1, hf, hr⟩ := wLp_s hf
    have J1n : ∀ (g : Mm) (x3 : Int32), r1 = .inl (g, x3) → ∀ (H : Heap) (locs : List Loc) (ls : Array Slot), Hx YC S k s g H locs → lv_has ls 4 [(0, .ref (k.1 + adC 3 0 0)), (3, .int x3)] → W p l e (RmN 116 4382) s m args below meth c H locs 0 0 (Fin YC S k args s below (some (.int res.2)) res.1) (F0 m 28 ls []) := fun g x3 q H locs ls h hl => by subst q; exact ih1 _ _ _ _ _ h hl hr
    have JRn : ∀ t1, r1 = .inr t1 → t1 = res := fun t1 q => by subst q; obtain rfl := Option.some.inj hr; exact JR
    have J1 := J1n
    have JR := JRn
    clear J1n JRn
    have hf : fX5_read_B28 g a1 i2 x3 = some r1 := hf
    unfold fX5_read_B28 at hf
    refine lv_iload_n X.x X.b dX5_read_28 rfl (lv_at hl 1 rfl) ?_
    refine lv_iconst (v := 3) X.x X.b dX5_read_29 (by decide) ?_
    refine lv_icmp_ge (tgt := 90) X.x X.b dX5_read_30 (by decide) (fun c18 => ?_) (fun c18 => ?_)
    · have hf := wT c18 hf
      obtain ⟨t19, hf, e20⟩ := wEx_s hf
      have JR := JR t19 e20
      refine lv_aload_n X.x X.b dX5_read_90 rfl (lv_at hl 0 rfl) ?_
      refine gC_3_3 X h (hS 3 (Nat.le_of_ble_eq_true rfl) (Nat.le_of_ble_eq_true rfl)) Nat.one_pos Nat.one_pos lk_X5_44 dX5_read_91 ?_
      refine lv_sipush (v := 256) X.x X.b dX5_read_94 (by decide) ?_
      refine lv_icmp_ne (tgt := 104) X.x X.b dX5_read_97 (by decide) (fun c21 => ?_) (fun c21 => ?_)
      · have hf := wF c21 hf
        refine lv_aload_n X.x X.b dX5_read_104 rfl (lv_at hl 0 rfl) ?_
        refine gC_3_4 X h (hS 3 (Nat.le_of_ble_eq_true rfl) (Nat.le_of_ble_eq_true rfl)) Nat.one_pos Nat.one_pos lk_X5_38 dX5_read_105 ?_
        cases (Option.some.inj hf).trans JR
        exact ro_iret X h dX5_read_108
      · have hf := wT c21 hf
        refine lv_iconst (v := (-1)) X.x X.b dX5_read_100 (by decide) ?_
        refine lv_goto (tgt := 108) X.x X.b dX5_read_101 (by decide) ?_
        cases (Option.some.inj hf).trans JR
        exact ro_iret X h dX5_read_108
    · have hf := wF c18 hf
      refine lv_aload_n X.x X.b dX5_read_33 rfl (lv_at hl 0 rfl) ?_
      refine lv_iload_n X.x X.b dX5_read_34 rfl (lv_at hl 1 rfl) ?_
      obtain ⟨y23, e22, hf⟩ := wBd_s hf
      refine ro_callvI (As := [.int x3]) (g1 := g) (x := y23) X h (kX5_isWord l hS e22) mv_X5_isWord lk_X5_34 ⟨rfl, rfl⟩ ⟨(Nat.le_of_ble_eq_true rfl), (Nat.le_of_ble_eq_true rfl)⟩ (rC_3 X h (hS 3 (Nat.le_of_ble_eq_true rfl) (Nat.le_of_ble_eq_true rfl)) Nat.one_pos Nat.one_pos) rfl hl rfl (Nat.le_of_ble_eq_true rfl) ⟨Nat.zero_le _, Nat.zero_le _⟩ dX5_read_35 (fun H locs h => ?_)
      refine lv_if_ne (tgt := 46) X.x X.b dX5_read_38 (by decide) (fun c24 => ?_) (fun c24 => ?_)
      · have hf := wF c24 hf
        refine lv_aload_n X.x X.b dX5_read_46 rfl (lv_at hl 0 rfl) ?_
        obtain ⟨g27, e25, hf⟩ := wBd_s hf
        refine ro_callvV (As := []) (g1 := g27) X h (kX5_next l hS e25) mv_X5_next lk_X5_31 ⟨rfl, rfl⟩ ⟨(Nat.le_of_ble_eq_true rfl), (Nat.le_of_ble_eq_true rfl)⟩ (rC_3 X h (hS 3 (Nat.le_of_ble_eq_true rfl) (Nat.le_of_ble_eq_true rfl)) Nat.one_pos Nat.one_pos) rfl hl rfl (Nat.le_of_ble_eq_true rfl) ⟨Nat.zero_le _, Nat.zero_le _⟩ dX5_read_47 (fun H locs h => ?_)
        refine lv_aload_n X.x X.b dX5_read_50 rfl (lv_at hl 0 rfl) ?_
        refine lv_iconst (v := 0) X.x X.b dX5_read_51 (by decide) ?_
        obtain ⟨g30, y29, e28, hf⟩ := wB2_s hf
        refine ro_callvI (As := [.int (0 : Int32)]) (g1 := g30) (x := y29) X h ((recOk l hS 100).1 _ _ _ e28) mv_X5_either lk_X5_41 ⟨rfl, rfl⟩ ⟨(Nat.le_of_ble_eq_true rfl), (Nat.le_of_ble_eq_true rfl)⟩ (rC_3 X h (hS 3 (Nat.le_of_ble_eq_true rfl) (Nat.le_of_ble_eq_true rfl)) Nat.one_pos Nat.one_pos) rfl hl rfl (Nat.le_of_ble_eq_true rfl) ⟨Nat.zero_le _, Nat.zero_le _⟩ dX5_read_52 (fun H locs h => ?_)
        refine lv_if_eq (tgt := 67) X.x X.b dX5_read_55 (by decide) (fun c31 => ?_) (fun c31 => ?_)
        · have hf := wT c31 hf
          obtain ⟨t32, hf, e33⟩ := wEx_s hf
          have JR := JR t32 e33
          refine lv_aload_n X.x X.b dX5_read_67 rfl (lv_at hl 0 rfl) ?_
          refine gC_3_4 X h (hS 3 (Nat.le_of_ble_eq_true rfl) (Nat.le_of_ble_eq_true rfl)) Nat.one_pos Nat.one_pos lk_X5_38 dX5_read_68 ?_
          cases (Option.some.inj hf).trans JR
          exact ro_iret X h dX5_read_71
        · have hf := wF c31 hf
          refine lv_aload_n X.x X.b dX5_read_58 rfl (lv_at hl 0 rfl) ?_
          refine gC_3_3 X h (hS 3 (Nat.le_of_ble_eq_true rfl) (Nat.le_of_ble_eq_true rfl)) Nat.one_pos Nat.one_pos lk_X5_44 dX5_read_59 ?_
          refine lv_bipush (v := 59) X.x X.b dX5_read_62 (by decide) ?_
          refine lv_icmp_eq (tgt := 72) X.x X.b dX5_read_64 (by decide) (fun c34 => ?_) (fun c34 => ?_)
          · have hf := wT c34 hf
            refine lv_aload_n X.x X.b dX5_read_72 rfl (lv_at hl 0 rfl) ?_
            obtain ⟨g37, e35, hf⟩ := wBd_s hf
            refine ro_callvV (As := []) (g1 := g37) X h (kX5_next l hS e35) mv_X5_next lk_X5_31 ⟨rfl, rfl⟩ ⟨(Nat.le_of_ble_eq_true rfl), (Nat.le_of_ble_eq_true rfl)⟩ (rC_3 X h (hS 3 (Nat.le_of_ble_eq_true rfl) (Nat.le_of_ble_eq_true rfl)) Nat.one_pos Nat.one_pos) rfl hl rfl (Nat.le_of_ble_eq_true rfl) ⟨Nat.zero_le _, Nat.zero_le _⟩ dX5_read_73 (fun H locs h => ?_)
            refine lv_aload_n X.x X.b dX5_read_76 rfl (lv_at hl 0 rfl) ?_
            obtain ⟨n38, hb40, e39, hf⟩ := wGr_s hf
            refine gC_3_6 X h (hS 3 (Nat.le_of_ble_eq_true rfl) (Nat.le_of_ble_eq_true rfl)) Nat.one_pos Nat.one_pos lk_X5_22 e39 dX5_read_77 ?_
            refine lv_iload_n X.x X.b dX5_read_80 rfl (lv_at hl 1 rfl) ?_
            obtain ⟨g43, e41, hf⟩ := wBd_s hf
            refine ro_callvV (As := [.int x3]) (g1 := g43) X h (kX6_endPart l hS hb40 e41) mv_X6_endPart lk_X5_47 ⟨rfl, rfl⟩ ⟨(Nat.le_of_ble_eq_true rfl), (Nat.le_of_ble_eq_true rfl)⟩ (rC_5 X h (hS 5 (Nat.le_of_ble_eq_true rfl) (Nat.le_of_ble_eq_true rfl)) hb40 Nat.one_pos) rfl hl rfl (Nat.le_of_ble_eq_true rfl) ⟨Nat.zero_le _, Nat.zero_le _⟩ dX5_read_81 (fun H locs h => ?_)
            obtain ⟨y44, e45, hf⟩ := wLe_s hf
            refine lv_iinc (v := y44) (lv' := [(3, .int y44), (0, .ref (k.1 + adC 3 0 0))]) X.x X.b dX5_read_84 hl (k := 1) rfl (by rw [e45]; rfl) (by decide) rfl (fun ls hl => ?_)
            refine lv_goto (tgt := 28) X.x X.b dX5_read_87 (by decide) ?_
            exact J1 _ _ (Option.some.inj hf).symm _ _ _ h (lv_sub hl [1, 0] rfl)
          · have hf := wF c34 hf
            obtain ⟨t46, hf, e47⟩ := wEx_s hf
            have JR := JR t46 e47
            refine lv_aload_n X.x X.b dX5_read_67 rfl (lv_at hl 0 rfl) ?_
            refine gC_3_4 X h (hS 3 (Nat.le_of_ble_eq_true rfl) (Nat.le_of_ble_eq_true rfl)) Nat.one_pos Nat.one_pos lk_X5_38 dX5_read_68 ?_
            cases (Option.some.inj hf).trans JR
            exact ro_iret X h dX5_read_71
      · have hf := wT c24 hf
        obtain ⟨t48, hf, e49⟩ := wEx_s hf
        have JR := JR t48 e49
        refine lv_aload_n X.x X.b dX5_read_41 rfl (lv_at hl 0 rfl) ?_
        refine gC_3_4 X h (hS 3 (Nat.le_of_ble_eq_true rfl) (Nat.le_of_ble_eq_true rfl)) Nat.one_pos Nat.one_pos lk_X5_38 dX5_read_42 ?_
        cases (Option.some.inj hf).trans JR
        exact ro_iret X h dX5_read_45
set_option maxHeartbeats 4000000 in
set_option maxRecDepth 20000 in
theorem kX5_read (l : Launch) {k : En} {S : Nat → Prop} (hS : ∀ t, 1 ≤ t → t ≤ 8 → S t) {a1 : Int32} {i2 : Nat} (hi2 : i2 < 6) {res : Mm × Int32} {g : Mm} (hf : fX5_read g a1 i2 = some res) : Mt l yX5_read cX5_read 4 (some .int) (RmN 116 4382) YC S k [.ref (k.1 + adC 3 0 0), .int a1, .ref (k.1 + adC 5 i2 0)] g (some (.int res.2)) res.1 := by
  refine Mt.of (by decide) (Nat.le_of_ble_eq_true rfl) ?_
  intro p e s m args below meth c ls X _ h hl
  have X : Cx YC S k p s m args meth c cX5_read 4 (some .int) RX5 := X
  have hl : lv_has ls 4 [(0, .ref (k.1 + adC 3 0 0)), (1, .int a1), (2, .ref (k.1 + adC 5 i2 0))] := hl
  have JR : res = res := rfl
  unfold fX5_read at hf
  refine lv_aload_n X.x X.b dX5_read_0 rfl (lv_at hl 0 rfl) ?_
  refine lv_iload_n X.x X.b dX5_read_1 rfl (lv_at hl 1 rfl) ?_
  obtain ⟨g1, e2, hf⟩ := wLe_s hf
  refine pC_3_1 X h (hS 3 (Nat.le_of_ble_eq_true rfl) (Nat.le_of_ble_eq_true rfl)) Nat.one_pos Nat.one_pos lk_X5_15 e2 dX5_read_2 (fun H locs h => ?_)
  refine lv_aload_n X.x X.b dX5_read_5 rfl (lv_at hl 0 rfl) ?_
  refine lv_iconst (v := 0) X.x X.b dX5_read_6 (by decide) ?_
  obtain ⟨g3, e4, hf⟩ := wLe_s hf
  refine pC_3_2 X h (hS 3 (Nat.le_of_ble_eq_true rfl) (Nat.le_of_ble_eq_true rfl)) Nat.one_pos Nat.one_pos lk_X5_19 e4 dX5_read_7 (fun H locs h => ?_)
  refine lv_aload_n X.x X.b dX5_read_10 rfl (lv_at hl 0 rfl) ?_
  refine lv_aload_n X.x X.b dX5_read_11 rfl (lv_at hl 2 rfl) ?_
  obtain ⟨g5, e6, hf⟩ := wLe_s hf
  refine pC_3_6 X h (hS 3 (Nat.le_of_ble_eq_true rfl) (Nat.le_of_ble_eq_true rfl)) Nat.one_pos Nat.one_pos lk_X5_22 hi2 e6 dX5_read_12 (fun H locs h => ?_)
  refine lv_aload_n X.x X.b dX5_read_15 rfl (lv_at hl 0 rfl) ?_
  obtain ⟨n7, hb9, e8, hf⟩ := wGr_s hf
  refine gC_3_6 X h (hS 3 (Nat.le_of_ble_eq_true rfl) (Nat.le_of_ble_eq_true rfl)) Nat.one_pos Nat.one_pos lk_X5_22 e8 dX5_read_16 ?_
  obtain ⟨g12, e10, hf⟩ := wBd_s hf
  refine ro_callvV (As := []) (g1 := g12) X h (kX6_clear l hS hb9 e10) mv_X6_clear lk_X5_26 ⟨rfl, rfl⟩ ⟨(Nat.le_of_ble_eq_true rfl), (Nat.le_of_ble_eq_true rfl)⟩ (rC_5 X h (hS 5 (Nat.le_of_ble_eq_true rfl) (Nat.le_of_ble_eq_true rfl)) hb9 Nat.one_pos) rfl hl rfl (Nat.le_of_ble_eq_true rfl) ⟨Nat.zero_le _, Nat.zero_le _⟩ dX5_read_19 (fun H locs h => ?_)
  refine lv_aload_n X.x X.b dX5_read_22 rfl (lv_at hl 0 rfl) ?_
  obtain ⟨g15, e13, hf⟩ := wBd_s hf
  refine ro_callvV (As := []) (g1 := g15) X h (kX5_next l hS e13) mv_X5_next lk_X5_31 ⟨rfl, rfl⟩ ⟨(Nat.le_of_ble_eq_true rfl), (Nat.le_of_ble_eq_true rfl)⟩ (rC_3 X h (hS 3 (Nat.le_of_ble_eq_true rfl) (Nat.le_of_ble_eq_true rfl)) Nat.one_pos Nat.one_pos) rfl hl rfl (Nat.le_of_ble_eq_true rfl) ⟨Nat.zero_le _, Nat.zero_le _⟩ dX5_read_23 (fun H locs h => ?_)
  refine lv_iconst (v := 0) X.x X.b dX5_read_26 (by decide) ?_
  obtain ⟨y16, e17, hf⟩ := wLe_s hf
  refine lv_nmi e17 ?_
  refine lv_istore_n (lv' := [(3, .int y16), (0, .ref (k.1 + adC 3 0 0)), (1, .int a1), (2, .ref (k.1 + adC 5 i2 0))]) X.x X.b dX5_read_27 rfl hl (by decide) rfl (fun ls hl => ?_)
  exact wX5_read_L28 hS hi2 X JR _ _ _ _ _ _ h (lv_sub hl [1, 0] rfl) hf
set_option maxHeartbeats 4000000 in
set_option maxRecDepth 20000 in
theorem kX8_take (l : Launch) {k : En} {S : Nat → Prop} (hS : ∀ t, 1 ≤ t → t ≤ 8 → S t) {res : Mm × Int32} {g : Mm} (hf : fX8_take g = some res) : Mt l yX8_take cX8_take 2 (some .int) (RmN 117 4405) YC S k [.ref (k.1 + adC 1 0 0)] g (some (.int res.2)) res.1 := by
  refine Mt.of (by decide) (Nat.le_of_ble_eq_true rfl) ?_
  intro p e s m args below meth c ls X _ h hl
  have X : Cx YC S k p s m args meth c cX8_take 2 (some .int) RX8 := X
  have hl : lv_has ls 2 [(0, .ref (k.1 + adC 1 0 0))] := hl
  have JR : res = res := rfl
  unfold fX8_take at hf
  refine lv_aload_n X.x X.b dX8_take_0 rfl (lv_at hl 0 rfl) ?_
  refine gC_1_1 X h (hS 1 (Nat.le_of_ble_eq_true rfl) (Nat.le_of_ble_eq_true rfl)) Nat.one_pos Nat.one_pos lk_X8_51 dX8_take_1 ?_
  refine lv_bipush (v := 6) X.x X.b dX8_take_4 (by decide) ?_
  refine lv_icmp_lt (tgt := 12) X.x X.b dX8_take_6 (by decide) (fun c1 => ?_) (fun c1 => ?_)
  · have hf := wT c1 hf
    refine lv_aload_n X.x X.b dX8_take_12 rfl (lv_at hl 0 rfl) ?_
    refine gC_1_4 X h (hS 1 (Nat.le_of_ble_eq_true rfl) (Nat.le_of_ble_eq_true rfl)) Nat.one_pos Nat.one_pos lk_X8_20 dX8_take_13 ?_
    refine lv_aload_n X.x X.b dX8_take_16 rfl (lv_at hl 0 rfl) ?_
    refine gC_1_0 X h (hS 1 (Nat.le_of_ble_eq_true rfl) (Nat.le_of_ble_eq_true rfl)) Nat.one_pos Nat.one_pos lk_X8_41 dX8_take_17 ?_
    refine lv_aload_n X.x X.b dX8_take_20 rfl (lv_at hl 0 rfl) ?_
    refine gC_1_3 X h (hS 1 (Nat.le_of_ble_eq_true rfl) (Nat.le_of_ble_eq_true rfl)) Nat.one_pos Nat.one_pos lk_X8_13 dX8_take_21 ?_
    refine lv_aload_n X.x X.b dX8_take_24 rfl (lv_at hl 0 rfl) ?_
    refine gC_1_1 X h (hS 1 (Nat.le_of_ble_eq_true rfl) (Nat.le_of_ble_eq_true rfl)) Nat.one_pos Nat.one_pos lk_X8_51 dX8_take_25 ?_
    obtain ⟨b2, hf⟩ := wGi_s hf
    refine qC_2 X h (hS 2 (Nat.le_of_ble_eq_true rfl) (Nat.le_of_ble_eq_true rfl)) Nat.one_pos Nat.one_pos b2 dX8_take_28 ?_
    obtain ⟨g5, y4, e3, hf⟩ := wB2_s hf
    refine ro_callvI (As := [.int (g 1 0 0 0), .ref (k.1 + adC 5 ((g 1 0 0 1).toNatClampNeg) 0)]) (g1 := g5) (x := y4) X h (kX5_read l hS (vin_lt b2) e3) mv_X5_read lk_X8_54 ⟨rfl, rfl⟩ ⟨(Nat.le_of_ble_eq_true rfl), (Nat.le_of_ble_eq_true rfl)⟩ (rC_3 X h (hS 3 (Nat.le_of_ble_eq_true rfl) (Nat.le_of_ble_eq_true rfl)) Nat.one_pos Nat.one_pos) rfl hl rfl (Nat.le_of_ble_eq_true rfl) ⟨Nat.zero_le _, Nat.zero_le _⟩ dX8_take_29 (fun H locs h => ?_)
    refine lv_istore_n (lv' := [(1, .int y4), (0, .ref (k.1 + adC 1 0 0))]) X.x X.b dX8_take_32 rfl hl (by decide) rfl (fun ls hl => ?_)
    refine lv_aload_n X.x X.b dX8_take_33 rfl (lv_at hl 1 rfl) ?_
    refine lv_iconst (v := 0) X.x X.b dX8_take_34 (by decide) ?_
    obtain ⟨g6, e7, hf⟩ := wLe_s hf
    refine pC_1_0 X h (hS 1 (Nat.le_of_ble_eq_true rfl) (Nat.le_of_ble_eq_true rfl)) Nat.one_pos Nat.one_pos lk_X8_41 e7 dX8_take_35 (fun H locs h => ?_)
    refine lv_iload_n X.x X.b dX8_take_38 rfl (lv_at hl 0 rfl) ?_
    refine lv_if_lt (tgt := 49) X.x X.b dX8_take_39 (by decide) (fun c8 => ?_) (fun c8 => ?_)
    · have hf := wT c8 hf
      refine lv_aload_n X.x X.b dX8_take_49 rfl (lv_at hl 1 rfl) ?_
      refine lv_dup X.x X.b dX8_take_50 rfl ?_
      refine gC_1_1 X h (hS 1 (Nat.le_of_ble_eq_true rfl) (Nat.le_of_ble_eq_true rfl)) Nat.one_pos Nat.one_pos lk_X8_51 dX8_take_51 ?_
      refine lv_dup_x1 X.x X.b dX8_take_54 rfl rfl ?_
      refine lv_iconst (v := 1) X.x X.b dX8_take_55 (by decide) ?_
      refine lv_iadd X.x X.b dX8_take_56 ?_
      obtain ⟨g9, e10, hf⟩ := wLe_s hf
      refine pC_1_1 X h (hS 1 (Nat.le_of_ble_eq_true rfl) (Nat.le_of_ble_eq_true rfl)) Nat.one_pos Nat.one_pos lk_X8_51 e10 dX8_take_57 (fun H locs h => ?_)
      cases (Option.some.inj hf).trans JR
      exact ro_iret X h dX8_take_60
    · have hf := wF c8 hf
      refine lv_bipush (v := (-100)) X.x X.b dX8_take_42 (by decide) ?_
      refine lv_iload_n X.x X.b dX8_take_44 rfl (lv_at hl 0 rfl) ?_
      refine lv_isub X.x X.b dX8_take_45 ?_
      refine lv_goto (tgt := 60) X.x X.b dX8_take_46 (by decide) ?_
      cases (Option.some.inj hf).trans JR
      exact ro_iret X h dX8_take_60
  · have hf := wF c1 hf
    refine lv_bipush (v := (-4)) X.x X.b dX8_take_9 (by decide) ?_
    cases (Option.some.inj hf).trans JR
    exact ro_iret X h dX8_take_11
set_option maxHeartbeats 4000000 in
set_option maxRecDepth 20000 in
theorem kX8_rule (l : Launch) {k : En} {S : Nat → Prop} (hS : ∀ t, 1 ≤ t → t ≤ 8 → S t) {g0 : Mm} {res : Nat} (hf : fX8_rule g0 = some res) : Mt l yX8_rule cX8_rule 1 (some (.object "WingPort$Rule")) (RmN 0 0) YC S k [.ref (k.1 + adC 1 0 0)] g0 (some (.ref (k.1 + adC 5 res 0))) g0 := by
  refine Mt.of (by decide) (Nat.le_of_ble_eq_true rfl) ?_
  intro p e s m args below meth c ls X _ h hl
  have X : Cx YC S k p s m args meth c cX8_rule 1 (some (.object "WingPort$Rule")) RX8 := X
  have hl : lv_has ls 1 [(0, .ref (k.1 + adC 1 0 0))] := hl
  have JR : res = res := rfl
  unfold fX8_rule at hf
  refine lv_aload_n X.x X.b dX8_rule_0 rfl (lv_at hl 0 rfl) ?_
  refine gC_1_3 X h (hS 1 (Nat.le_of_ble_eq_true rfl) (Nat.le_of_ble_eq_true rfl)) Nat.one_pos Nat.one_pos lk_X8_13 dX8_rule_1 ?_
  refine lv_aload_n X.x X.b dX8_rule_4 rfl (lv_at hl 0 rfl) ?_
  refine gC_1_2 X h (hS 1 (Nat.le_of_ble_eq_true rfl) (Nat.le_of_ble_eq_true rfl)) Nat.one_pos Nat.one_pos lk_X8_48 dX8_rule_5 ?_
  obtain ⟨b1, hf⟩ := wGi_s hf
  refine qC_2 X h (hS 2 (Nat.le_of_ble_eq_true rfl) (Nat.le_of_ble_eq_true rfl)) Nat.one_pos Nat.one_pos b1 dX8_rule_8 ?_
  cases (Option.some.inj hf).trans JR
  exact ro_aret X h dX8_rule_9
set_option maxHeartbeats 4000000 in
set_option maxRecDepth 20000 in
theorem wX8_append_L20 {k : En} {S : Nat → Prop} (hS : ∀ t, 1 ≤ t → t ≤ 8 → S t) {a1 : Int64} {a3 : Int32} {res : Mm × Int32} (X : Cx YC S k p s m args meth c cX8_append 5 (some .int) RX8) {r : Mm × Int32} (JR : r = res) :
    ∀ (fu : Nat) (g : Mm) (x4 : Int32) (H : Heap) (locs : List Loc) (ls : Array Slot), Hx YC S k s g H locs → lv_has ls 5 [(0, .ref (k.1 + adC 1 0 0)), (1, .long a1), (4, .int x4)] → wLp (fun q => fX8_append_B20 q.1 a1 a3 q.2) fu (g, x4) = some r → W p l e (RmN 0 0) s m args below meth c H locs 0 0 (Fin YC S k args s below (some (.int res.2)) res.1) (F0 m 20 ls []) := by
  intro fu
  induction fu with
  | zero => intro g x4 H locs ls h hl hf; exact (wLp_0 hf).elim
  | succ fu ih1 =>
    intro g x4 H locs ls h hl hf
    obtain ⟨r1, hf, hr⟩ := wLp_s hf
    have J1n : ∀ (g : Mm) (x4 : Int32), r1 = .inl (g, x4) → ∀ (H : Heap) (locs : List Loc) (ls : Array Slot), Hx YC S k s g H locs → lv_has ls 5 [(0, .ref (k.1 + adC 1 0 0)), (1, .long a1), (4, .int x4)] → W p l e (RmN 0 0) s m args below meth c H locs 0 0 (Fin YC S k args s below (some (.int res.2)) res.1) (F0 m 20 ls []) := fun g x4 q H locs ls h hl => by subst q; exact ih1 _ _ _ _ _ h hl hr
    have JRn : ∀ t1, r1 = .inr t1 → t1 = res := fun t1 q => by subst q; obtain rfl := Option.some.inj hr; exact JR
    have J1 := J1n
    have JR := JRn
    clear J1n JRn
    have hf : fX8_append_B20 g a1 a3 x4 = some r1 := hf
    unfold fX8_append_B20 at hf
    refine lv_iload X.x X.b dX8_append_20 (lv_at hl 2 rfl) ?_
    refine lv_if_lt (tgt := 65) X.x X.b dX8_append_22 (by decide) (fun c4 => ?_) (fun c4 => ?_)
    · have hf := wT c4 hf
      obtain ⟨t5, hf, e6⟩ := wEx_s hf
      have JR := JR t5 e6
      refine lv_aload_n X.x X.b dX8_append_65 rfl (lv_at hl 0 rfl) ?_
      refine gC_1_0 X h (hS 1 (Nat.le_of_ble_eq_true rfl) (Nat.le_of_ble_eq_true rfl)) Nat.one_pos Nat.one_pos lk_X8_41 dX8_append_66 ?_
      cases (Option.some.inj hf).trans JR
      exact ro_iret X h dX8_append_69
    · have hf := wF c4 hf
      refine lv_aload_n X.x X.b dX8_append_25 rfl (lv_at hl 0 rfl) ?_
      refine gC_1_4 X h (hS 1 (Nat.le_of_ble_eq_true rfl) (Nat.le_of_ble_eq_true rfl)) Nat.one_pos Nat.one_pos lk_X8_20 dX8_append_26 ?_
      refine gC_3_0 X h (hS 3 (Nat.le_of_ble_eq_true rfl) (Nat.le_of_ble_eq_true rfl)) Nat.one_pos Nat.one_pos lk_X8_33 dX8_append_29 ?_
      refine lv_aload_n X.x X.b dX8_append_32 rfl (lv_at hl 0 rfl) ?_
      refine gC_1_0 X h (hS 1 (Nat.le_of_ble_eq_true rfl) (Nat.le_of_ble_eq_true rfl)) Nat.one_pos Nat.one_pos lk_X8_41 dX8_append_33 ?_
      refine lv_lload_n X.x X.b dX8_append_36 rfl (lv_at hl 1 rfl) ?_
      refine lv_bipush (v := 8) X.x X.b dX8_append_37 (by decide) ?_
      refine lv_iload X.x X.b dX8_append_39 (lv_at hl 2 rfl) ?_
      refine lv_imul X.x X.b dX8_append_41 ?_
      refine lv_lshr X.x X.b dX8_append_42 rfl ?_
      refine lv_l2i X.x X.b dX8_append_43 rfl ?_
      refine lv_sipush (v := 255) X.x X.b dX8_append_44 (by decide) ?_
      refine lv_iand X.x X.b dX8_append_47 ?_
      obtain ⟨b7, hf⟩ := wGi_s hf
      obtain ⟨g8, e9, hf⟩ := wLe_s hf
      refine bC_4 X h (hS 4 (Nat.le_of_ble_eq_true rfl) (Nat.le_of_ble_eq_true rfl)) Nat.one_pos Nat.one_pos e9 b7 dX8_append_48 (fun H locs h => ?_)
      refine lv_aload_n X.x X.b dX8_append_49 rfl (lv_at hl 0 rfl) ?_
      refine lv_dup X.x X.b dX8_append_50 rfl ?_
      refine gC_1_0 X h (hS 1 (Nat.le_of_ble_eq_true rfl) (Nat.le_of_ble_eq_true rfl)) Nat.one_pos Nat.one_pos lk_X8_41 dX8_append_51 ?_
      refine lv_iconst (v := 1) X.x X.b dX8_append_54 (by decide) ?_
      refine lv_iadd X.x X.b dX8_append_55 ?_
      obtain ⟨g10, e11, hf⟩ := wLe_s hf
      refine pC_1_0 X h (hS 1 (Nat.le_of_ble_eq_true rfl) (Nat.le_of_ble_eq_true rfl)) Nat.one_pos Nat.one_pos lk_X8_41 e11 dX8_append_56 (fun H locs h => ?_)
      obtain ⟨y12, e13, hf⟩ := wLe_s hf
      refine lv_iinc (v := y12) (lv' := [(4, .int y12), (0, .ref (k.1 + adC 1 0 0)), (1, .long a1)]) X.x X.b dX8_append_59 hl (k := 2) rfl (by rw [e13]; rfl) (by decide) rfl (fun ls hl => ?_)
      refine lv_goto (tgt := 20) X.x X.b dX8_append_62 (by decide) ?_
      exact J1 _ _ (Option.some.inj hf).symm _ _ _ h (lv_sub hl [1, 2, 0] rfl)
set_option maxHeartbeats 4000000 in
set_option maxRecDepth 20000 in
theorem kX8_append (l : Launch) {k : En} {S : Nat → Prop} (hS : ∀ t, 1 ≤ t → t ≤ 8 → S t) {a1 : Int64} {a3 : Int32} {res : Mm × Int32} {g : Mm} (hf : fX8_append g a1 a3 = some res) : Mt l yX8_append cX8_append 5 (some .int) (RmN 0 0) YC S k [.ref (k.1 + adC 1 0 0), .long a1, .int a3] g (some (.int res.2)) res.1 := by
  refine Mt.of (by decide) (Nat.le_of_ble_eq_true rfl) ?_
  intro p e s m args below meth c ls X _ h hl
  have X : Cx YC S k p s m args meth c cX8_append 5 (some .int) RX8 := X
  have hl : lv_has ls 5 [(0, .ref (k.1 + adC 1 0 0)), (1, .long a1), (3, .int a3)] := hl
  have JR : res = res := rfl
  unfold fX8_append at hf
  refine lv_aload_n X.x X.b dX8_append_0 rfl (lv_at hl 0 rfl) ?_
  refine gC_1_0 X h (hS 1 (Nat.le_of_ble_eq_true rfl) (Nat.le_of_ble_eq_true rfl)) Nat.one_pos Nat.one_pos lk_X8_41 dX8_append_1 ?_
  refine lv_iload_n X.x X.b dX8_append_4 rfl (lv_at hl 2 rfl) ?_
  refine lv_iadd X.x X.b dX8_append_5 ?_
  refine lv_sipush (v := 160) X.x X.b dX8_append_6 (by decide) ?_
  refine lv_icmp_le (tgt := 15) X.x X.b dX8_append_9 (by decide) (fun c1 => ?_) (fun c1 => ?_)
  · have hf := wT c1 hf
    refine lv_iload_n X.x X.b dX8_append_15 rfl (lv_at hl 2 rfl) ?_
    refine lv_iconst (v := 1) X.x X.b dX8_append_16 (by decide) ?_
    refine lv_isub X.x X.b dX8_append_17 ?_
    obtain ⟨y2, e3, hf⟩ := wLe_s hf
    refine lv_nmi e3 ?_
    refine lv_istore (lv' := [(4, .int y2), (0, .ref (k.1 + adC 1 0 0)), (1, .long a1), (3, .int a3)]) X.x X.b dX8_append_18 hl (by decide) rfl (fun ls hl => ?_)
    exact wX8_append_L20 hS X JR _ _ _ _ _ _ h (lv_sub hl [1, 2, 0] rfl) hf
  · have hf := wF c1 hf
    refine lv_bipush (v := (-4)) X.x X.b dX8_append_12 (by decide) ?_
    cases (Option.some.inj hf).trans JR
    exact ro_iret X h dX8_append_14
end WK
