set_option maxRecDepth 10000 in
theorem oi_f : Cond.instanceMethod Lib.objectInit ∈ Gt ∧ Cond.code Lib.objectInit ⟨#[0xb1]⟩ 1 none ∈ Gt := ⟨gr0 27 rfl rfl, gr0 28 rfl rfl⟩
set_option maxRecDepth 10000 in
theorem arr_int : Cond.arrayClass .int ∈ Gt := gr0 66 rfl rfl
theorem arr_1 : aoL[0] ∈ aoL := List.getElem_mem _
theorem arr_2 : aoL[1] ∈ aoL := List.getElem_mem _
theorem arr_3 : aoL[2] ∈ aoL := List.getElem_mem _
theorem arr_4 : aoL[3] ∈ aoL := List.getElem_mem _
set_option maxRecDepth 10000 in
theorem cl_X10_7 : Cond.classLink RX10 7 "WingPort$Texts" ∈ Gt := gr0 29 rfl rfl
set_option maxRecDepth 10000 in
theorem cl_X10_16 : Cond.classLink RX10 16 "WingPort$Port" ∈ Gt := gr1 61 rfl rfl
set_option maxRecDepth 10000 in
theorem cl_X10_32 : Cond.classLink RX10 32 "WingPort$Plan" ∈ Gt := gr1 235 rfl rfl
set_option maxRecDepth 10000 in
theorem cl_X10_39 : Cond.classLink RX10 39 "WingPort$Estimates" ∈ Gt := gr2 15 rfl rfl
set_option maxRecDepth 10000 in
theorem cl_X10_46 : Cond.classLink RX10 46 "WingPort$Sheet" ∈ Gt := gr2 35 rfl rfl
set_option maxRecDepth 10000 in
theorem cl_X4_32 : Cond.classLink RX4 32 "WingPort$Visit" ∈ Gt := gr1 71 rfl rfl
set_option maxRecDepth 10000 in
theorem cl_X4_38 : Cond.classLink RX4 38 "WingPort$Feed" ∈ Gt := gr1 73 rfl rfl
set_option maxRecDepth 10000 in
theorem cl_X8_11 : Cond.classLink RX8 11 "WingPort$Rule" ∈ Gt := gr0 35 rfl rfl
set_option maxRecDepth 10000 in
theorem cl_X8_17 : Cond.classLink RX8 17 "WingPort$Reader" ∈ Gt := gr0 37 rfl rfl
set_option maxRecDepth 10000 in
theorem in_X10 : Cond.instantiable RX10 6 ∈ Gt := gr0 22 rfl rfl
set_option maxRecDepth 10000 in
theorem ini_X10 : Cond.initialized RX10 ∈ Gt := gr0 1 rfl rfl
set_option maxRecDepth 10000 in
theorem in_X8 : Cond.instantiable RX8 5 ∈ Gt := gr0 30 rfl rfl
set_option maxRecDepth 10000 in
theorem ini_X8 : Cond.initialized RX8 ∈ Gt := gr0 2 rfl rfl
set_option maxRecDepth 10000 in
theorem in_X5 : Cond.instantiable RX5 7 ∈ Gt := gr0 38 rfl rfl
set_option maxRecDepth 10000 in
theorem ini_X5 : Cond.initialized RX5 ∈ Gt := gr0 3 rfl rfl
set_option maxRecDepth 10000 in
theorem in_X6 : Cond.instantiable RX6 4 ∈ Gt := gr0 67 rfl rfl
set_option maxRecDepth 10000 in
theorem ini_X6 : Cond.initialized RX6 ∈ Gt := gr0 4 rfl rfl
set_option maxRecDepth 10000 in
theorem in_X4 : Cond.instantiable RX4 14 ∈ Gt := gr1 62 rfl rfl
set_option maxRecDepth 10000 in
theorem ini_X4 : Cond.initialized RX4 ∈ Gt := gr0 11 rfl rfl
set_option maxRecDepth 10000 in
theorem in_X9 : Cond.instantiable RX9 15 ∈ Gt := gr1 75 rfl rfl
set_option maxRecDepth 10000 in
theorem ini_X9 : Cond.initialized RX9 ∈ Gt := gr0 12 rfl rfl
set_option maxRecDepth 10000 in
theorem in_X1 : Cond.instantiable RX1 6 ∈ Gt := gr1 144 rfl rfl
set_option maxRecDepth 10000 in
theorem ini_X1 : Cond.initialized RX1 ∈ Gt := gr0 13 rfl rfl
set_option maxRecDepth 10000 in
theorem in_X2 : Cond.instantiable RX2 4 ∈ Gt := gr1 236 rfl rfl
set_option maxRecDepth 10000 in
theorem ini_X2 : Cond.initialized RX2 ∈ Gt := gr0 14 rfl rfl
set_option maxRecDepth 10000 in
theorem in_X0 : Cond.instantiable RX0 4 ∈ Gt := gr2 16 rfl rfl
set_option maxRecDepth 10000 in
theorem ini_X0 : Cond.initialized RX0 ∈ Gt := gr0 15 rfl rfl
set_option maxRecDepth 10000 in
theorem in_X7 : Cond.instantiable RX7 3 ∈ Gt := gr2 37 rfl rfl
set_option maxRecDepth 10000 in
theorem ini_X7 : Cond.initialized RX7 ∈ Gt := gr0 16 rfl rfl
set_option maxRecDepth 10000 in
theorem in_X11 : Cond.instantiable RX11 37 ∈ Gt := gr4 94 rfl rfl
set_option maxRecDepth 10000 in
theorem ini_X11 : Cond.initialized RX11 ∈ Gt := gr0 17 rfl rfl
set_option maxRecDepth 10000 in
theorem miv_X0_init : Miv yX0_init cX0_init 1 0 := ⟨gr2 18 rfl rfl, gr0 15 rfl rfl, gr2 19 rfl rfl, ⟨by decide, by decide, by decide +kernel⟩, rfl⟩
set_option maxRecDepth 10000 in
theorem miv_X1_init : Miv yX1_init cX1_init 1 0 := ⟨gr1 146 rfl rfl, gr0 13 rfl rfl, gr1 147 rfl rfl, ⟨by decide, by decide, by decide +kernel⟩, rfl⟩
set_option maxRecDepth 10000 in
theorem miv_X2_init : Miv yX2_init cX2_init 1 0 := ⟨gr1 238 rfl rfl, gr0 14 rfl rfl, gr1 239 rfl rfl, ⟨by decide, by decide, by decide +kernel⟩, rfl⟩
set_option maxRecDepth 10000 in
theorem miv_X4_init : Miv yX4_init cX4_init 3 1 := ⟨gr1 68 rfl rfl, gr0 11 rfl rfl, gr1 69 rfl rfl, ⟨by decide, by decide, by decide +kernel⟩, rfl⟩
set_option maxRecDepth 10000 in
theorem miv_X5_init : Miv yX5_init cX5_init 1 0 := ⟨gr0 40 rfl rfl, gr0 3 rfl rfl, gr0 41 rfl rfl, ⟨by decide, by decide, by decide +kernel⟩, rfl⟩
set_option maxRecDepth 10000 in
theorem miv_X6_init : Miv yX6_init cX6_init 1 0 := ⟨gr0 69 rfl rfl, gr0 4 rfl rfl, gr0 70 rfl rfl, ⟨by decide, by decide, by decide +kernel⟩, rfl⟩
set_option maxRecDepth 10000 in
theorem miv_X7_init : Miv yX7_init cX7_init 1 0 := ⟨gr2 39 rfl rfl, gr0 16 rfl rfl, gr2 40 rfl rfl, ⟨by decide, by decide, by decide +kernel⟩, rfl⟩
set_option maxRecDepth 10000 in
theorem miv_X8_init : Miv yX8_init cX8_init 2 0 := ⟨gr0 32 rfl rfl, gr0 2 rfl rfl, gr0 33 rfl rfl, ⟨by decide, by decide, by decide +kernel⟩, rfl⟩
set_option maxRecDepth 10000 in
theorem miv_X9_init : Miv yX9_init cX9_init 1 0 := ⟨gr1 77 rfl rfl, gr0 12 rfl rfl, gr1 78 rfl rfl, ⟨by decide, by decide, by decide +kernel⟩, rfl⟩
set_option maxRecDepth 10000 in
theorem miv_X10_init : Miv yX10_init cX10_init 2 0 := ⟨gr0 24 rfl rfl, gr0 1 rfl rfl, gr0 25 rfl rfl, ⟨by decide, by decide, by decide +kernel⟩, rfl⟩
set_option maxRecDepth 10000 in
theorem miv_X11_init : Miv yX11_init cX11_init 2 0 := ⟨gr4 96 rfl rfl, gr0 17 rfl rfl, gr4 97 rfl rfl, ⟨by decide, by decide, by decide +kernel⟩, rfl⟩
theorem dX1_init_0 : decode cX1_init 0 = .ok (.aload_n 0, 1) := by decide +kernel
theorem dX1_init_1 : decode cX1_init 1 = .ok (.invokespecial 3, 3) := by decide +kernel
theorem dX1_init_4 : decode cX1_init 4 = .ok (.return_, 1) := by decide +kernel
theorem dX2_init_0 : decode cX2_init 0 = .ok (.aload_n 0, 1) := by decide +kernel
theorem dX2_init_1 : decode cX2_init 1 = .ok (.invokespecial 1, 3) := by decide +kernel
theorem dX2_init_4 : decode cX2_init 4 = .ok (.return_, 1) := by decide +kernel
theorem dX9_init_0 : decode cX9_init 0 = .ok (.aload_n 0, 1) := by decide +kernel
theorem dX9_init_1 : decode cX9_init 1 = .ok (.invokespecial 3, 3) := by decide +kernel
theorem dX9_init_4 : decode cX9_init 4 = .ok (.aload_n 0, 1) := by decide +kernel
theorem dX9_init_5 : decode cX9_init 5 = .ok (.bipush 8, 2) := by decide +kernel
theorem dX9_init_7 : decode cX9_init 7 = .ok (.newarray .int, 2) := by decide +kernel
theorem dX9_init_9 : decode cX9_init 9 = .ok (.putfield 11, 3) := by decide +kernel
theorem dX9_init_12 : decode cX9_init 12 = .ok (.aload_n 0, 1) := by decide +kernel
theorem dX9_init_13 : decode cX9_init 13 = .ok (.bipush 9, 2) := by decide +kernel
theorem dX9_init_15 : decode cX9_init 15 = .ok (.newarray .int, 2) := by decide +kernel
theorem dX9_init_17 : decode cX9_init 17 = .ok (.putfield 17, 3) := by decide +kernel
theorem dX9_init_20 : decode cX9_init 20 = .ok (.return_, 1) := by decide +kernel
theorem dX0_init_0 : decode cX0_init 0 = .ok (.aload_n 0, 1) := by decide +kernel
theorem dX0_init_1 : decode cX0_init 1 = .ok (.invokespecial 3, 3) := by decide +kernel
theorem dX0_init_4 : decode cX0_init 4 = .ok (.aload_n 0, 1) := by decide +kernel
theorem dX0_init_5 : decode cX0_init 5 = .ok (.bipush 40, 2) := by decide +kernel
theorem dX0_init_7 : decode cX0_init 7 = .ok (.newarray .int, 2) := by decide +kernel
theorem dX0_init_9 : decode cX0_init 9 = .ok (.putfield 11, 3) := by decide +kernel
theorem dX0_init_12 : decode cX0_init 12 = .ok (.aload_n 0, 1) := by decide +kernel
theorem dX0_init_13 : decode cX0_init 13 = .ok (.bipush 40, 2) := by decide +kernel
theorem dX0_init_15 : decode cX0_init 15 = .ok (.newarray .int, 2) := by decide +kernel
theorem dX0_init_17 : decode cX0_init 17 = .ok (.putfield 15, 3) := by decide +kernel
theorem dX0_init_20 : decode cX0_init 20 = .ok (.aload_n 0, 1) := by decide +kernel
theorem dX0_init_21 : decode cX0_init 21 = .ok (.bipush 40, 2) := by decide +kernel
theorem dX0_init_23 : decode cX0_init 23 = .ok (.newarray .int, 2) := by decide +kernel
theorem dX0_init_25 : decode cX0_init 25 = .ok (.putfield 18, 3) := by decide +kernel
theorem dX0_init_28 : decode cX0_init 28 = .ok (.return_, 1) := by decide +kernel
theorem dX5_init_0 : decode cX5_init 0 = .ok (.aload_n 0, 1) := by decide +kernel
theorem dX5_init_1 : decode cX5_init 1 = .ok (.invokespecial 1, 3) := by decide +kernel
theorem dX5_init_4 : decode cX5_init 4 = .ok (.aload_n 0, 1) := by decide +kernel
theorem dX5_init_5 : decode cX5_init 5 = .ok (.sipush 160, 3) := by decide +kernel
theorem dX5_init_8 : decode cX5_init 8 = .ok (.newarray .int, 2) := by decide +kernel
theorem dX5_init_10 : decode cX5_init 10 = .ok (.putfield 9, 3) := by decide +kernel
theorem dX5_init_13 : decode cX5_init 13 = .ok (.return_, 1) := by decide +kernel
theorem dX6_init_0 : decode cX6_init 0 = .ok (.aload_n 0, 1) := by decide +kernel
theorem dX6_init_1 : decode cX6_init 1 = .ok (.invokespecial 3, 3) := by decide +kernel
theorem dX6_init_4 : decode cX6_init 4 = .ok (.aload_n 0, 1) := by decide +kernel
theorem dX6_init_5 : decode cX6_init 5 = .ok (.sipush 160, 3) := by decide +kernel
theorem dX6_init_8 : decode cX6_init 8 = .ok (.newarray .int, 2) := by decide +kernel
theorem dX6_init_10 : decode cX6_init 10 = .ok (.putfield 11, 3) := by decide +kernel
theorem dX6_init_13 : decode cX6_init 13 = .ok (.aload_n 0, 1) := by decide +kernel
theorem dX6_init_14 : decode cX6_init 14 = .ok (.iconst 3, 1) := by decide +kernel
theorem dX6_init_15 : decode cX6_init 15 = .ok (.newarray .int, 2) := by decide +kernel
theorem dX6_init_17 : decode cX6_init 17 = .ok (.putfield 15, 3) := by decide +kernel
theorem dX6_init_20 : decode cX6_init 20 = .ok (.aload_n 0, 1) := by decide +kernel
theorem dX6_init_21 : decode cX6_init 21 = .ok (.sipush 160, 3) := by decide +kernel
theorem dX6_init_24 : decode cX6_init 24 = .ok (.newarray .int, 2) := by decide +kernel
theorem dX6_init_26 : decode cX6_init 26 = .ok (.putfield 18, 3) := by decide +kernel
theorem dX6_init_29 : decode cX6_init 29 = .ok (.return_, 1) := by decide +kernel
theorem dX7_init_0 : decode cX7_init 0 = .ok (.aload_n 0, 1) := by decide +kernel
theorem dX7_init_1 : decode cX7_init 1 = .ok (.invokespecial 1, 3) := by decide +kernel
theorem dX7_init_4 : decode cX7_init 4 = .ok (.aload_n 0, 1) := by decide +kernel
theorem dX7_init_5 : decode cX7_init 5 = .ok (.iconst (-1), 1) := by decide +kernel
theorem dX7_init_6 : decode cX7_init 6 = .ok (.putfield 9, 3) := by decide +kernel
theorem dX7_init_9 : decode cX7_init 9 = .ok (.aload_n 0, 1) := by decide +kernel
theorem dX7_init_10 : decode cX7_init 10 = .ok (.bipush 40, 2) := by decide +kernel
theorem dX7_init_12 : decode cX7_init 12 = .ok (.newarray .int, 2) := by decide +kernel
theorem dX7_init_14 : decode cX7_init 14 = .ok (.putfield 13, 3) := by decide +kernel
theorem dX7_init_17 : decode cX7_init 17 = .ok (.return_, 1) := by decide +kernel
theorem dX4_init_0 : decode cX4_init 0 = .ok (.aload_n 0, 1) := by decide +kernel
theorem dX4_init_1 : decode cX4_init 1 = .ok (.invokespecial 3, 3) := by decide +kernel
theorem dX4_init_4 : decode cX4_init 4 = .ok (.aload_n 0, 1) := by decide +kernel
theorem dX4_init_5 : decode cX4_init 5 = .ok (.bipush 9, 2) := by decide +kernel
theorem dX4_init_7 : decode cX4_init 7 = .ok (.newarray .int, 2) := by decide +kernel
theorem dX4_init_9 : decode cX4_init 9 = .ok (.putfield 11, 3) := by decide +kernel
theorem dX4_init_12 : decode cX4_init 12 = .ok (.aload_n 0, 1) := by decide +kernel
theorem dX4_init_13 : decode cX4_init 13 = .ok (.iconst 5, 1) := by decide +kernel
theorem dX4_init_14 : decode cX4_init 14 = .ok (.newarray .int, 2) := by decide +kernel
theorem dX4_init_16 : decode cX4_init 16 = .ok (.putfield 17, 3) := by decide +kernel
theorem dX4_init_19 : decode cX4_init 19 = .ok (.aload_n 0, 1) := by decide +kernel
theorem dX4_init_20 : decode cX4_init 20 = .ok (.bipush 6, 2) := by decide +kernel
theorem dX4_init_22 : decode cX4_init 22 = .ok (.newarray .int, 2) := by decide +kernel
theorem dX4_init_24 : decode cX4_init 24 = .ok (.putfield 20, 3) := by decide +kernel
theorem dX4_init_27 : decode cX4_init 27 = .ok (.aload_n 0, 1) := by decide +kernel
theorem dX4_init_28 : decode cX4_init 28 = .ok (.bipush 6, 2) := by decide +kernel
theorem dX4_init_30 : decode cX4_init 30 = .ok (.newarray .int, 2) := by decide +kernel
theorem dX4_init_32 : decode cX4_init 32 = .ok (.putfield 23, 3) := by decide +kernel
theorem dX4_init_35 : decode cX4_init 35 = .ok (.aload_n 0, 1) := by decide +kernel
theorem dX4_init_36 : decode cX4_init 36 = .ok (.iconst 2, 1) := by decide +kernel
theorem dX4_init_37 : decode cX4_init 37 = .ok (.newarray .int, 2) := by decide +kernel
theorem dX4_init_39 : decode cX4_init 39 = .ok (.putfield 26, 3) := by decide +kernel
theorem dX4_init_42 : decode cX4_init 42 = .ok (.aload_n 0, 1) := by decide +kernel
theorem dX4_init_43 : decode cX4_init 43 = .ok (.iconst 2, 1) := by decide +kernel
theorem dX4_init_44 : decode cX4_init 44 = .ok (.newarray .int, 2) := by decide +kernel
theorem dX4_init_46 : decode cX4_init 46 = .ok (.putfield 29, 3) := by decide +kernel
theorem dX4_init_49 : decode cX4_init 49 = .ok (.aload_n 0, 1) := by decide +kernel
theorem dX4_init_50 : decode cX4_init 50 = .ok (.bipush 12, 2) := by decide +kernel
theorem dX4_init_52 : decode cX4_init 52 = .ok (.anewarray 32, 3) := by decide +kernel
theorem dX4_init_55 : decode cX4_init 55 = .ok (.putfield 34, 3) := by decide +kernel
theorem dX4_init_58 : decode cX4_init 58 = .ok (.aload_n 0, 1) := by decide +kernel
theorem dX4_init_59 : decode cX4_init 59 = .ok (.bipush 16, 2) := by decide +kernel
theorem dX4_init_61 : decode cX4_init 61 = .ok (.anewarray 38, 3) := by decide +kernel
theorem dX4_init_64 : decode cX4_init 64 = .ok (.putfield 40, 3) := by decide +kernel
theorem dX4_init_67 : decode cX4_init 67 = .ok (.aload_n 0, 1) := by decide +kernel
theorem dX4_init_68 : decode cX4_init 68 = .ok (.bipush 8, 2) := by decide +kernel
theorem dX4_init_70 : decode cX4_init 70 = .ok (.newarray .int, 2) := by decide +kernel
theorem dX4_init_72 : decode cX4_init 72 = .ok (.putfield 46, 3) := by decide +kernel
theorem dX4_init_75 : decode cX4_init 75 = .ok (.aload_n 0, 1) := by decide +kernel
theorem dX4_init_76 : decode cX4_init 76 = .ok (.aload_n 1, 1) := by decide +kernel
theorem dX4_init_77 : decode cX4_init 77 = .ok (.putfield 49, 3) := by decide +kernel
theorem dX4_init_80 : decode cX4_init 80 = .ok (.aload_n 0, 1) := by decide +kernel
theorem dX4_init_81 : decode cX4_init 81 = .ok (.getfield 11, 3) := by decide +kernel
theorem dX4_init_84 : decode cX4_init 84 = .ok (.bipush 8, 2) := by decide +kernel
theorem dX4_init_86 : decode cX4_init 86 = .ok (.iconst 1, 1) := by decide +kernel
theorem dX4_init_87 : decode cX4_init 87 = .ok (.iastore, 1) := by decide +kernel
theorem dX4_init_88 : decode cX4_init 88 = .ok (.iconst 0, 1) := by decide +kernel
theorem dX4_init_89 : decode cX4_init 89 = .ok (.istore_n 2, 1) := by decide +kernel
theorem dX4_init_90 : decode cX4_init 90 = .ok (.iload_n 2, 1) := by decide +kernel
theorem dX4_init_91 : decode cX4_init 91 = .ok (.iconst 2, 1) := by decide +kernel
theorem dX4_init_92 : decode cX4_init 92 = .ok (.if_icmp .ge 16, 3) := by decide +kernel
theorem dX4_init_95 : decode cX4_init 95 = .ok (.aload_n 0, 1) := by decide +kernel
theorem dX4_init_96 : decode cX4_init 96 = .ok (.getfield 29, 3) := by decide +kernel
theorem dX4_init_99 : decode cX4_init 99 = .ok (.iload_n 2, 1) := by decide +kernel
theorem dX4_init_100 : decode cX4_init 100 = .ok (.iconst (-1), 1) := by decide +kernel
theorem dX4_init_101 : decode cX4_init 101 = .ok (.iastore, 1) := by decide +kernel
theorem dX4_init_102 : decode cX4_init 102 = .ok (.iinc 2 1, 3) := by decide +kernel
theorem dX4_init_105 : decode cX4_init 105 = .ok (.goto (-15), 3) := by decide +kernel
theorem dX4_init_108 : decode cX4_init 108 = .ok (.iconst 0, 1) := by decide +kernel
theorem dX4_init_109 : decode cX4_init 109 = .ok (.istore_n 2, 1) := by decide +kernel
theorem dX4_init_110 : decode cX4_init 110 = .ok (.iload_n 2, 1) := by decide +kernel
theorem dX4_init_111 : decode cX4_init 111 = .ok (.bipush 12, 2) := by decide +kernel
theorem dX4_init_113 : decode cX4_init 113 = .ok (.if_icmp .ge 22, 3) := by decide +kernel
theorem dX4_init_116 : decode cX4_init 116 = .ok (.aload_n 0, 1) := by decide +kernel
theorem dX4_init_117 : decode cX4_init 117 = .ok (.getfield 34, 3) := by decide +kernel
theorem dX4_init_120 : decode cX4_init 120 = .ok (.iload_n 2, 1) := by decide +kernel
theorem dX4_init_121 : decode cX4_init 121 = .ok (.new 32, 3) := by decide +kernel
theorem dX4_init_124 : decode cX4_init 124 = .ok (.dup, 1) := by decide +kernel
theorem dX4_init_125 : decode cX4_init 125 = .ok (.invokespecial 53, 3) := by decide +kernel
theorem dX4_init_128 : decode cX4_init 128 = .ok (.aastore, 1) := by decide +kernel
theorem dX4_init_129 : decode cX4_init 129 = .ok (.iinc 2 1, 3) := by decide +kernel
theorem dX4_init_132 : decode cX4_init 132 = .ok (.goto (-22), 3) := by decide +kernel
theorem dX4_init_135 : decode cX4_init 135 = .ok (.iconst 0, 1) := by decide +kernel
theorem dX4_init_136 : decode cX4_init 136 = .ok (.istore_n 2, 1) := by decide +kernel
theorem dX4_init_137 : decode cX4_init 137 = .ok (.iload_n 2, 1) := by decide +kernel
theorem dX4_init_138 : decode cX4_init 138 = .ok (.bipush 16, 2) := by decide +kernel
theorem dX4_init_140 : decode cX4_init 140 = .ok (.if_icmp .ge 22, 3) := by decide +kernel
theorem dX4_init_143 : decode cX4_init 143 = .ok (.aload_n 0, 1) := by decide +kernel
theorem dX4_init_144 : decode cX4_init 144 = .ok (.getfield 40, 3) := by decide +kernel
theorem dX4_init_147 : decode cX4_init 147 = .ok (.iload_n 2, 1) := by decide +kernel
theorem dX4_init_148 : decode cX4_init 148 = .ok (.new 38, 3) := by decide +kernel
theorem dX4_init_151 : decode cX4_init 151 = .ok (.dup, 1) := by decide +kernel
theorem dX4_init_152 : decode cX4_init 152 = .ok (.invokespecial 54, 3) := by decide +kernel
theorem dX4_init_155 : decode cX4_init 155 = .ok (.aastore, 1) := by decide +kernel
theorem dX4_init_156 : decode cX4_init 156 = .ok (.iinc 2 1, 3) := by decide +kernel
theorem dX4_init_159 : decode cX4_init 159 = .ok (.goto (-22), 3) := by decide +kernel
theorem dX4_init_162 : decode cX4_init 162 = .ok (.return_, 1) := by decide +kernel
theorem dX8_init_0 : decode cX8_init 0 = .ok (.aload_n 0, 1) := by decide +kernel
theorem dX8_init_1 : decode cX8_init 1 = .ok (.invokespecial 3, 3) := by decide +kernel
theorem dX8_init_4 : decode cX8_init 4 = .ok (.aload_n 0, 1) := by decide +kernel
theorem dX8_init_5 : decode cX8_init 5 = .ok (.bipush 6, 2) := by decide +kernel
theorem dX8_init_7 : decode cX8_init 7 = .ok (.anewarray 11, 3) := by decide +kernel
theorem dX8_init_10 : decode cX8_init 10 = .ok (.putfield 13, 3) := by decide +kernel
theorem dX8_init_13 : decode cX8_init 13 = .ok (.aload_n 0, 1) := by decide +kernel
theorem dX8_init_14 : decode cX8_init 14 = .ok (.new 17, 3) := by decide +kernel
theorem dX8_init_17 : decode cX8_init 17 = .ok (.dup, 1) := by decide +kernel
theorem dX8_init_18 : decode cX8_init 18 = .ok (.invokespecial 19, 3) := by decide +kernel
theorem dX8_init_21 : decode cX8_init 21 = .ok (.putfield 20, 3) := by decide +kernel
theorem dX8_init_24 : decode cX8_init 24 = .ok (.iconst 0, 1) := by decide +kernel
theorem dX8_init_25 : decode cX8_init 25 = .ok (.istore_n 1, 1) := by decide +kernel
theorem dX8_init_26 : decode cX8_init 26 = .ok (.iload_n 1, 1) := by decide +kernel
theorem dX8_init_27 : decode cX8_init 27 = .ok (.bipush 6, 2) := by decide +kernel
theorem dX8_init_29 : decode cX8_init 29 = .ok (.if_icmp .ge 22, 3) := by decide +kernel
theorem dX8_init_32 : decode cX8_init 32 = .ok (.aload_n 0, 1) := by decide +kernel
theorem dX8_init_33 : decode cX8_init 33 = .ok (.getfield 13, 3) := by decide +kernel
theorem dX8_init_36 : decode cX8_init 36 = .ok (.iload_n 1, 1) := by decide +kernel
theorem dX8_init_37 : decode cX8_init 37 = .ok (.new 11, 3) := by decide +kernel
theorem dX8_init_40 : decode cX8_init 40 = .ok (.dup, 1) := by decide +kernel
theorem dX8_init_41 : decode cX8_init 41 = .ok (.invokespecial 24, 3) := by decide +kernel
theorem dX8_init_44 : decode cX8_init 44 = .ok (.aastore, 1) := by decide +kernel
theorem dX8_init_45 : decode cX8_init 45 = .ok (.iinc 1 1, 3) := by decide +kernel
theorem dX8_init_48 : decode cX8_init 48 = .ok (.goto (-22), 3) := by decide +kernel
theorem dX8_init_51 : decode cX8_init 51 = .ok (.iconst 0, 1) := by decide +kernel
theorem dX8_init_52 : decode cX8_init 52 = .ok (.istore_n 1, 1) := by decide +kernel
theorem dX8_init_53 : decode cX8_init 53 = .ok (.iload_n 1, 1) := by decide +kernel
theorem dX8_init_54 : decode cX8_init 54 = .ok (.ldc 25, 2) := by decide +kernel
theorem dX8_init_56 : decode cX8_init 56 = .ok (.invokevirtual 27, 3) := by decide +kernel
theorem dX8_init_59 : decode cX8_init 59 = .ok (.if_icmp .ge 31, 3) := by decide +kernel
theorem dX8_init_62 : decode cX8_init 62 = .ok (.iload_n 1, 1) := by decide +kernel
theorem dX8_init_63 : decode cX8_init 63 = .ok (.sipush 160, 3) := by decide +kernel
theorem dX8_init_66 : decode cX8_init 66 = .ok (.if_icmp .ge 24, 3) := by decide +kernel
theorem dX8_init_69 : decode cX8_init 69 = .ok (.aload_n 0, 1) := by decide +kernel
theorem dX8_init_70 : decode cX8_init 70 = .ok (.getfield 20, 3) := by decide +kernel
theorem dX8_init_73 : decode cX8_init 73 = .ok (.getfield 33, 3) := by decide +kernel
theorem dX8_init_76 : decode cX8_init 76 = .ok (.iload_n 1, 1) := by decide +kernel
theorem dX8_init_77 : decode cX8_init 77 = .ok (.ldc 25, 2) := by decide +kernel
theorem dX8_init_79 : decode cX8_init 79 = .ok (.iload_n 1, 1) := by decide +kernel
theorem dX8_init_80 : decode cX8_init 80 = .ok (.invokevirtual 37, 3) := by decide +kernel
theorem dX8_init_83 : decode cX8_init 83 = .ok (.iastore, 1) := by decide +kernel
theorem dX8_init_84 : decode cX8_init 84 = .ok (.iinc 1 1, 3) := by decide +kernel
theorem dX8_init_87 : decode cX8_init 87 = .ok (.goto (-34), 3) := by decide +kernel
theorem dX8_init_90 : decode cX8_init 90 = .ok (.aload_n 0, 1) := by decide +kernel
theorem dX8_init_91 : decode cX8_init 91 = .ok (.ldc 25, 2) := by decide +kernel
theorem dX8_init_93 : decode cX8_init 93 = .ok (.invokevirtual 27, 3) := by decide +kernel
theorem dX8_init_96 : decode cX8_init 96 = .ok (.putfield 41, 3) := by decide +kernel
theorem dX8_init_99 : decode cX8_init 99 = .ok (.aload_n 0, 1) := by decide +kernel
theorem dX8_init_100 : decode cX8_init 100 = .ok (.invokevirtual 45, 3) := by decide +kernel
theorem dX8_init_103 : decode cX8_init 103 = .ok (.pop, 1) := by decide +kernel
theorem dX8_init_104 : decode cX8_init 104 = .ok (.return_, 1) := by decide +kernel
theorem dX10_init_0 : decode cX10_init 0 = .ok (.aload_n 0, 1) := by decide +kernel
theorem dX10_init_1 : decode cX10_init 1 = .ok (.invokespecial 1, 3) := by decide +kernel
theorem dX10_init_4 : decode cX10_init 4 = .ok (.aload_n 0, 1) := by decide +kernel
theorem dX10_init_5 : decode cX10_init 5 = .ok (.new 7, 3) := by decide +kernel
theorem dX10_init_8 : decode cX10_init 8 = .ok (.dup, 1) := by decide +kernel
theorem dX10_init_9 : decode cX10_init 9 = .ok (.invokespecial 9, 3) := by decide +kernel
theorem dX10_init_12 : decode cX10_init 12 = .ok (.putfield 10, 3) := by decide +kernel
theorem dX10_init_15 : decode cX10_init 15 = .ok (.aload_n 0, 1) := by decide +kernel
theorem dX10_init_16 : decode cX10_init 16 = .ok (.new 16, 3) := by decide +kernel
theorem dX10_init_19 : decode cX10_init 19 = .ok (.dup, 1) := by decide +kernel
theorem dX10_init_20 : decode cX10_init 20 = .ok (.aload_n 0, 1) := by decide +kernel
theorem dX10_init_21 : decode cX10_init 21 = .ok (.getfield 10, 3) := by decide +kernel
theorem dX10_init_24 : decode cX10_init 24 = .ok (.invokevirtual 18, 3) := by decide +kernel
theorem dX10_init_27 : decode cX10_init 27 = .ok (.invokespecial 22, 3) := by decide +kernel
theorem dX10_init_30 : decode cX10_init 30 = .ok (.putfield 25, 3) := by decide +kernel
theorem dX10_init_33 : decode cX10_init 33 = .ok (.aload_n 0, 1) := by decide +kernel
theorem dX10_init_34 : decode cX10_init 34 = .ok (.new 16, 3) := by decide +kernel
theorem dX10_init_37 : decode cX10_init 37 = .ok (.dup, 1) := by decide +kernel
theorem dX10_init_38 : decode cX10_init 38 = .ok (.aload_n 0, 1) := by decide +kernel
theorem dX10_init_39 : decode cX10_init 39 = .ok (.getfield 10, 3) := by decide +kernel
theorem dX10_init_42 : decode cX10_init 42 = .ok (.invokevirtual 18, 3) := by decide +kernel
theorem dX10_init_45 : decode cX10_init 45 = .ok (.invokespecial 22, 3) := by decide +kernel
theorem dX10_init_48 : decode cX10_init 48 = .ok (.putfield 29, 3) := by decide +kernel
theorem dX10_init_51 : decode cX10_init 51 = .ok (.aload_n 0, 1) := by decide +kernel
theorem dX10_init_52 : decode cX10_init 52 = .ok (.new 32, 3) := by decide +kernel
theorem dX10_init_55 : decode cX10_init 55 = .ok (.dup, 1) := by decide +kernel
theorem dX10_init_56 : decode cX10_init 56 = .ok (.invokespecial 34, 3) := by decide +kernel
theorem dX10_init_59 : decode cX10_init 59 = .ok (.putfield 35, 3) := by decide +kernel
theorem dX10_init_62 : decode cX10_init 62 = .ok (.aload_n 0, 1) := by decide +kernel
theorem dX10_init_63 : decode cX10_init 63 = .ok (.new 39, 3) := by decide +kernel
theorem dX10_init_66 : decode cX10_init 66 = .ok (.dup, 1) := by decide +kernel
theorem dX10_init_67 : decode cX10_init 67 = .ok (.invokespecial 41, 3) := by decide +kernel
theorem dX10_init_70 : decode cX10_init 70 = .ok (.putfield 42, 3) := by decide +kernel
theorem dX10_init_73 : decode cX10_init 73 = .ok (.aload_n 0, 1) := by decide +kernel
theorem dX10_init_74 : decode cX10_init 74 = .ok (.iconst 4, 1) := by decide +kernel
theorem dX10_init_75 : decode cX10_init 75 = .ok (.anewarray 46, 3) := by decide +kernel
theorem dX10_init_78 : decode cX10_init 78 = .ok (.putfield 48, 3) := by decide +kernel
theorem dX10_init_81 : decode cX10_init 81 = .ok (.iconst 0, 1) := by decide +kernel
theorem dX10_init_82 : decode cX10_init 82 = .ok (.istore_n 1, 1) := by decide +kernel
theorem dX10_init_83 : decode cX10_init 83 = .ok (.iload_n 1, 1) := by decide +kernel
theorem dX10_init_84 : decode cX10_init 84 = .ok (.iconst 4, 1) := by decide +kernel
theorem dX10_init_85 : decode cX10_init 85 = .ok (.if_icmp .ge 22, 3) := by decide +kernel
theorem dX10_init_88 : decode cX10_init 88 = .ok (.aload_n 0, 1) := by decide +kernel
theorem dX10_init_89 : decode cX10_init 89 = .ok (.getfield 48, 3) := by decide +kernel
theorem dX10_init_92 : decode cX10_init 92 = .ok (.iload_n 1, 1) := by decide +kernel
theorem dX10_init_93 : decode cX10_init 93 = .ok (.new 46, 3) := by decide +kernel
theorem dX10_init_96 : decode cX10_init 96 = .ok (.dup, 1) := by decide +kernel
theorem dX10_init_97 : decode cX10_init 97 = .ok (.invokespecial 52, 3) := by decide +kernel
theorem dX10_init_100 : decode cX10_init 100 = .ok (.aastore, 1) := by decide +kernel
theorem dX10_init_101 : decode cX10_init 101 = .ok (.iinc 1 1, 3) := by decide +kernel
theorem dX10_init_104 : decode cX10_init 104 = .ok (.goto (-21), 3) := by decide +kernel
theorem dX10_init_107 : decode cX10_init 107 = .ok (.return_, 1) := by decide +kernel
theorem dX11_init_0 : decode cX11_init 0 = .ok (.aload_n 0, 1) := by decide +kernel
theorem dX11_init_1 : decode cX11_init 1 = .ok (.invokespecial 1, 3) := by decide +kernel
theorem dX11_init_4 : decode cX11_init 4 = .ok (.aload_n 0, 1) := by decide +kernel
theorem dX11_init_5 : decode cX11_init 5 = .ok (.sipush 510, 3) := by decide +kernel
theorem dX11_init_8 : decode cX11_init 8 = .ok (.newarray .int, 2) := by decide +kernel
theorem dX11_init_10 : decode cX11_init 10 = .ok (.putfield 7, 3) := by decide +kernel
theorem dX11_init_13 : decode cX11_init 13 = .ok (.aload_n 0, 1) := by decide +kernel
theorem dX11_init_14 : decode cX11_init 14 = .ok (.bipush 40, 2) := by decide +kernel
theorem dX11_init_16 : decode cX11_init 16 = .ok (.newarray .int, 2) := by decide +kernel
theorem dX11_init_18 : decode cX11_init 18 = .ok (.putfield 13, 3) := by decide +kernel
theorem dX11_init_21 : decode cX11_init 21 = .ok (.aload_n 0, 1) := by decide +kernel
theorem dX11_init_22 : decode cX11_init 22 = .ok (.bipush 40, 2) := by decide +kernel
theorem dX11_init_24 : decode cX11_init 24 = .ok (.newarray .int, 2) := by decide +kernel
theorem dX11_init_26 : decode cX11_init 26 = .ok (.putfield 16, 3) := by decide +kernel
theorem dX11_init_29 : decode cX11_init 29 = .ok (.aload_n 0, 1) := by decide +kernel
theorem dX11_init_30 : decode cX11_init 30 = .ok (.bipush 40, 2) := by decide +kernel
theorem dX11_init_32 : decode cX11_init 32 = .ok (.newarray .int, 2) := by decide +kernel
theorem dX11_init_34 : decode cX11_init 34 = .ok (.putfield 19, 3) := by decide +kernel
theorem dX11_init_37 : decode cX11_init 37 = .ok (.aload_n 0, 1) := by decide +kernel
theorem dX11_init_38 : decode cX11_init 38 = .ok (.bipush 12, 2) := by decide +kernel
theorem dX11_init_40 : decode cX11_init 40 = .ok (.newarray .int, 2) := by decide +kernel
theorem dX11_init_42 : decode cX11_init 42 = .ok (.putfield 22, 3) := by decide +kernel
theorem dX11_init_45 : decode cX11_init 45 = .ok (.aload_n 0, 1) := by decide +kernel
theorem dX11_init_46 : decode cX11_init 46 = .ok (.sipush 160, 3) := by decide +kernel
theorem dX11_init_49 : decode cX11_init 49 = .ok (.newarray .int, 2) := by decide +kernel
theorem dX11_init_51 : decode cX11_init 51 = .ok (.putfield 25, 3) := by decide +kernel
theorem dX11_init_54 : decode cX11_init 54 = .ok (.aload_n 0, 1) := by decide +kernel
theorem dX11_init_55 : decode cX11_init 55 = .ok (.sipush 1200, 3) := by decide +kernel
theorem dX11_init_58 : decode cX11_init 58 = .ok (.newarray .int, 2) := by decide +kernel
theorem dX11_init_60 : decode cX11_init 60 = .ok (.putfield 28, 3) := by decide +kernel
theorem dX11_init_63 : decode cX11_init 63 = .ok (.aload_n 0, 1) := by decide +kernel
theorem dX11_init_64 : decode cX11_init 64 = .ok (.bipush 24, 2) := by decide +kernel
theorem dX11_init_66 : decode cX11_init 66 = .ok (.newarray .int, 2) := by decide +kernel
theorem dX11_init_68 : decode cX11_init 68 = .ok (.putfield 31, 3) := by decide +kernel
theorem dX11_init_71 : decode cX11_init 71 = .ok (.aload_n 0, 1) := by decide +kernel
theorem dX11_init_72 : decode cX11_init 72 = .ok (.bipush 11, 2) := by decide +kernel
theorem dX11_init_74 : decode cX11_init 74 = .ok (.newarray .int, 2) := by decide +kernel
theorem dX11_init_76 : decode cX11_init 76 = .ok (.dup, 1) := by decide +kernel
theorem dX11_init_77 : decode cX11_init 77 = .ok (.iconst 0, 1) := by decide +kernel
theorem dX11_init_78 : decode cX11_init 78 = .ok (.iconst 0, 1) := by decide +kernel
theorem dX11_init_79 : decode cX11_init 79 = .ok (.iastore, 1) := by decide +kernel
theorem dX11_init_80 : decode cX11_init 80 = .ok (.dup, 1) := by decide +kernel
theorem dX11_init_81 : decode cX11_init 81 = .ok (.iconst 1, 1) := by decide +kernel
theorem dX11_init_82 : decode cX11_init 82 = .ok (.ldc 34, 2) := by decide +kernel
theorem dX11_init_84 : decode cX11_init 84 = .ok (.iastore, 1) := by decide +kernel
theorem dX11_init_85 : decode cX11_init 85 = .ok (.dup, 1) := by decide +kernel
theorem dX11_init_86 : decode cX11_init 86 = .ok (.iconst 2, 1) := by decide +kernel
theorem dX11_init_87 : decode cX11_init 87 = .ok (.bipush 18, 2) := by decide +kernel
theorem dX11_init_89 : decode cX11_init 89 = .ok (.iastore, 1) := by decide +kernel
theorem dX11_init_90 : decode cX11_init 90 = .ok (.dup, 1) := by decide +kernel
theorem dX11_init_91 : decode cX11_init 91 = .ok (.iconst 3, 1) := by decide +kernel
theorem dX11_init_92 : decode cX11_init 92 = .ok (.iconst 3, 1) := by decide +kernel
theorem dX11_init_93 : decode cX11_init 93 = .ok (.iastore, 1) := by decide +kernel
theorem dX11_init_94 : decode cX11_init 94 = .ok (.dup, 1) := by decide +kernel
theorem dX11_init_95 : decode cX11_init 95 = .ok (.iconst 4, 1) := by decide +kernel
theorem dX11_init_96 : decode cX11_init 96 = .ok (.bipush 16, 2) := by decide +kernel
theorem dX11_init_98 : decode cX11_init 98 = .ok (.iastore, 1) := by decide +kernel
theorem dX11_init_99 : decode cX11_init 99 = .ok (.dup, 1) := by decide +kernel
theorem dX11_init_100 : decode cX11_init 100 = .ok (.iconst 5, 1) := by decide +kernel
theorem dX11_init_101 : decode cX11_init 101 = .ok (.ldc 35, 2) := by decide +kernel
theorem dX11_init_103 : decode cX11_init 103 = .ok (.iastore, 1) := by decide +kernel
theorem dX11_init_104 : decode cX11_init 104 = .ok (.dup, 1) := by decide +kernel
theorem dX11_init_105 : decode cX11_init 105 = .ok (.bipush 6, 2) := by decide +kernel
theorem dX11_init_107 : decode cX11_init 107 = .ok (.iconst 5, 1) := by decide +kernel
theorem dX11_init_108 : decode cX11_init 108 = .ok (.iastore, 1) := by decide +kernel
theorem dX11_init_109 : decode cX11_init 109 = .ok (.dup, 1) := by decide +kernel
theorem dX11_init_110 : decode cX11_init 110 = .ok (.bipush 7, 2) := by decide +kernel
theorem dX11_init_112 : decode cX11_init 112 = .ok (.ldc 36, 2) := by decide +kernel
theorem dX11_init_114 : decode cX11_init 114 = .ok (.iastore, 1) := by decide +kernel
theorem dX11_init_115 : decode cX11_init 115 = .ok (.dup, 1) := by decide +kernel
theorem dX11_init_116 : decode cX11_init 116 = .ok (.bipush 8, 2) := by decide +kernel
theorem dX11_init_118 : decode cX11_init 118 = .ok (.bipush 18, 2) := by decide +kernel
theorem dX11_init_120 : decode cX11_init 120 = .ok (.iastore, 1) := by decide +kernel
theorem dX11_init_121 : decode cX11_init 121 = .ok (.dup, 1) := by decide +kernel
theorem dX11_init_122 : decode cX11_init 122 = .ok (.bipush 9, 2) := by decide +kernel
theorem dX11_init_124 : decode cX11_init 124 = .ok (.bipush 16, 2) := by decide +kernel
theorem dX11_init_126 : decode cX11_init 126 = .ok (.iastore, 1) := by decide +kernel
theorem dX11_init_127 : decode cX11_init 127 = .ok (.dup, 1) := by decide +kernel
theorem dX11_init_128 : decode cX11_init 128 = .ok (.bipush 10, 2) := by decide +kernel
theorem dX11_init_130 : decode cX11_init 130 = .ok (.ldc 37, 2) := by decide +kernel
theorem dX11_init_132 : decode cX11_init 132 = .ok (.iastore, 1) := by decide +kernel
theorem dX11_init_133 : decode cX11_init 133 = .ok (.putfield 38, 3) := by decide +kernel
theorem dX11_init_136 : decode cX11_init 136 = .ok (.aload_n 0, 1) := by decide +kernel
theorem dX11_init_137 : decode cX11_init 137 = .ok (.iconst 4, 1) := by decide +kernel
theorem dX11_init_138 : decode cX11_init 138 = .ok (.newarray .int, 2) := by decide +kernel
theorem dX11_init_140 : decode cX11_init 140 = .ok (.dup, 1) := by decide +kernel
theorem dX11_init_141 : decode cX11_init 141 = .ok (.iconst 0, 1) := by decide +kernel
theorem dX11_init_142 : decode cX11_init 142 = .ok (.iconst (-1), 1) := by decide +kernel
theorem dX11_init_143 : decode cX11_init 143 = .ok (.iastore, 1) := by decide +kernel
theorem dX11_init_144 : decode cX11_init 144 = .ok (.dup, 1) := by decide +kernel
theorem dX11_init_145 : decode cX11_init 145 = .ok (.iconst 1, 1) := by decide +kernel
theorem dX11_init_146 : decode cX11_init 146 = .ok (.iconst (-1), 1) := by decide +kernel
theorem dX11_init_147 : decode cX11_init 147 = .ok (.iastore, 1) := by decide +kernel
theorem dX11_init_148 : decode cX11_init 148 = .ok (.dup, 1) := by decide +kernel
theorem dX11_init_149 : decode cX11_init 149 = .ok (.iconst 2, 1) := by decide +kernel
theorem dX11_init_150 : decode cX11_init 150 = .ok (.iconst (-1), 1) := by decide +kernel
theorem dX11_init_151 : decode cX11_init 151 = .ok (.iastore, 1) := by decide +kernel
theorem dX11_init_152 : decode cX11_init 152 = .ok (.dup, 1) := by decide +kernel
theorem dX11_init_153 : decode cX11_init 153 = .ok (.iconst 3, 1) := by decide +kernel
theorem dX11_init_154 : decode cX11_init 154 = .ok (.iconst (-1), 1) := by decide +kernel
theorem dX11_init_155 : decode cX11_init 155 = .ok (.iastore, 1) := by decide +kernel
theorem dX11_init_156 : decode cX11_init 156 = .ok (.putfield 41, 3) := by decide +kernel
theorem dX11_init_159 : decode cX11_init 159 = .ok (.aload_n 0, 1) := by decide +kernel
theorem dX11_init_160 : decode cX11_init 160 = .ok (.iconst 4, 1) := by decide +kernel
theorem dX11_init_161 : decode cX11_init 161 = .ok (.newarray .int, 2) := by decide +kernel
theorem dX11_init_163 : decode cX11_init 163 = .ok (.putfield 44, 3) := by decide +kernel
theorem dX11_init_166 : decode cX11_init 166 = .ok (.aload_n 0, 1) := by decide +kernel
theorem dX11_init_167 : decode cX11_init 167 = .ok (.sipush 160, 3) := by decide +kernel
theorem dX11_init_170 : decode cX11_init 170 = .ok (.newarray .int, 2) := by decide +kernel
theorem dX11_init_172 : decode cX11_init 172 = .ok (.putfield 47, 3) := by decide +kernel
theorem dX11_init_175 : decode cX11_init 175 = .ok (.aload_n 0, 1) := by decide +kernel
theorem dX11_init_176 : decode cX11_init 176 = .ok (.bipush 48, 2) := by decide +kernel
theorem dX11_init_178 : decode cX11_init 178 = .ok (.newarray .int, 2) := by decide +kernel
theorem dX11_init_180 : decode cX11_init 180 = .ok (.dup, 1) := by decide +kernel
theorem dX11_init_181 : decode cX11_init 181 = .ok (.iconst 0, 1) := by decide +kernel
theorem dX11_init_182 : decode cX11_init 182 = .ok (.iconst 2, 1) := by decide +kernel
theorem dX11_init_183 : decode cX11_init 183 = .ok (.iastore, 1) := by decide +kernel
theorem dX11_init_184 : decode cX11_init 184 = .ok (.dup, 1) := by decide +kernel
theorem dX11_init_185 : decode cX11_init 185 = .ok (.iconst 1, 1) := by decide +kernel
theorem dX11_init_186 : decode cX11_init 186 = .ok (.bipush 6, 2) := by decide +kernel
theorem dX11_init_188 : decode cX11_init 188 = .ok (.iastore, 1) := by decide +kernel
theorem dX11_init_189 : decode cX11_init 189 = .ok (.dup, 1) := by decide +kernel
theorem dX11_init_190 : decode cX11_init 190 = .ok (.iconst 2, 1) := by decide +kernel
theorem dX11_init_191 : decode cX11_init 191 = .ok (.iconst 4, 1) := by decide +kernel
theorem dX11_init_192 : decode cX11_init 192 = .ok (.iastore, 1) := by decide +kernel
theorem dX11_init_193 : decode cX11_init 193 = .ok (.dup, 1) := by decide +kernel
theorem dX11_init_194 : decode cX11_init 194 = .ok (.iconst 3, 1) := by decide +kernel
theorem dX11_init_195 : decode cX11_init 195 = .ok (.iconst 5, 1) := by decide +kernel
theorem dX11_init_196 : decode cX11_init 196 = .ok (.iastore, 1) := by decide +kernel
theorem dX11_init_197 : decode cX11_init 197 = .ok (.dup, 1) := by decide +kernel
theorem dX11_init_198 : decode cX11_init 198 = .ok (.iconst 4, 1) := by decide +kernel
theorem dX11_init_199 : decode cX11_init 199 = .ok (.iconst 4, 1) := by decide +kernel
theorem dX11_init_200 : decode cX11_init 200 = .ok (.iastore, 1) := by decide +kernel
theorem dX11_init_201 : decode cX11_init 201 = .ok (.dup, 1) := by decide +kernel
theorem dX11_init_202 : decode cX11_init 202 = .ok (.iconst 5, 1) := by decide +kernel
theorem dX11_init_203 : decode cX11_init 203 = .ok (.bipush 8, 2) := by decide +kernel
theorem dX11_init_205 : decode cX11_init 205 = .ok (.iastore, 1) := by decide +kernel
theorem dX11_init_206 : decode cX11_init 206 = .ok (.dup, 1) := by decide +kernel
theorem dX11_init_207 : decode cX11_init 207 = .ok (.bipush 6, 2) := by decide +kernel
theorem dX11_init_209 : decode cX11_init 209 = .ok (.bipush 6, 2) := by decide +kernel
theorem dX11_init_211 : decode cX11_init 211 = .ok (.iastore, 1) := by decide +kernel
theorem dX11_init_212 : decode cX11_init 212 = .ok (.dup, 1) := by decide +kernel
theorem dX11_init_213 : decode cX11_init 213 = .ok (.bipush 7, 2) := by decide +kernel
theorem dX11_init_215 : decode cX11_init 215 = .ok (.iconst 3, 1) := by decide +kernel
theorem dX11_init_216 : decode cX11_init 216 = .ok (.iastore, 1) := by decide +kernel
theorem dX11_init_217 : decode cX11_init 217 = .ok (.dup, 1) := by decide +kernel
theorem dX11_init_218 : decode cX11_init 218 = .ok (.bipush 8, 2) := by decide +kernel
theorem dX11_init_220 : decode cX11_init 220 = .ok (.iconst 2, 1) := by decide +kernel
theorem dX11_init_221 : decode cX11_init 221 = .ok (.iastore, 1) := by decide +kernel
theorem dX11_init_222 : decode cX11_init 222 = .ok (.dup, 1) := by decide +kernel
theorem dX11_init_223 : decode cX11_init 223 = .ok (.bipush 9, 2) := by decide +kernel
theorem dX11_init_225 : decode cX11_init 225 = .ok (.bipush 10, 2) := by decide +kernel
theorem dX11_init_227 : decode cX11_init 227 = .ok (.iastore, 1) := by decide +kernel
theorem dX11_init_228 : decode cX11_init 228 = .ok (.dup, 1) := by decide +kernel
theorem dX11_init_229 : decode cX11_init 229 = .ok (.bipush 10, 2) := by decide +kernel
theorem dX11_init_231 : decode cX11_init 231 = .ok (.iconst 4, 1) := by decide +kernel
theorem dX11_init_232 : decode cX11_init 232 = .ok (.iastore, 1) := by decide +kernel
theorem dX11_init_233 : decode cX11_init 233 = .ok (.dup, 1) := by decide +kernel
theorem dX11_init_234 : decode cX11_init 234 = .ok (.bipush 11, 2) := by decide +kernel
theorem dX11_init_236 : decode cX11_init 236 = .ok (.bipush 8, 2) := by decide +kernel
theorem dX11_init_238 : decode cX11_init 238 = .ok (.iastore, 1) := by decide +kernel
theorem dX11_init_239 : decode cX11_init 239 = .ok (.dup, 1) := by decide +kernel
theorem dX11_init_240 : decode cX11_init 240 = .ok (.bipush 12, 2) := by decide +kernel
theorem dX11_init_242 : decode cX11_init 242 = .ok (.iconst 4, 1) := by decide +kernel
theorem dX11_init_243 : decode cX11_init 243 = .ok (.iastore, 1) := by decide +kernel
theorem dX11_init_244 : decode cX11_init 244 = .ok (.dup, 1) := by decide +kernel
theorem dX11_init_245 : decode cX11_init 245 = .ok (.bipush 13, 2) := by decide +kernel
theorem dX11_init_247 : decode cX11_init 247 = .ok (.bipush 12, 2) := by decide +kernel
theorem dX11_init_249 : decode cX11_init 249 = .ok (.iastore, 1) := by decide +kernel
theorem dX11_init_250 : decode cX11_init 250 = .ok (.dup, 1) := by decide +kernel
theorem dX11_init_251 : decode cX11_init 251 = .ok (.bipush 14, 2) := by decide +kernel
theorem dX11_init_253 : decode cX11_init 253 = .ok (.bipush 6, 2) := by decide +kernel
theorem dX11_init_255 : decode cX11_init 255 = .ok (.iastore, 1) := by decide +kernel
theorem dX11_init_256 : decode cX11_init 256 = .ok (.dup, 1) := by decide +kernel
theorem dX11_init_257 : decode cX11_init 257 = .ok (.bipush 15, 2) := by decide +kernel
theorem dX11_init_259 : decode cX11_init 259 = .ok (.iconst 3, 1) := by decide +kernel
theorem dX11_init_260 : decode cX11_init 260 = .ok (.iastore, 1) := by decide +kernel
theorem dX11_init_261 : decode cX11_init 261 = .ok (.dup, 1) := by decide +kernel
theorem dX11_init_262 : decode cX11_init 262 = .ok (.bipush 16, 2) := by decide +kernel
theorem dX11_init_264 : decode cX11_init 264 = .ok (.iconst 2, 1) := by decide +kernel
theorem dX11_init_265 : decode cX11_init 265 = .ok (.iastore, 1) := by decide +kernel
theorem dX11_init_266 : decode cX11_init 266 = .ok (.dup, 1) := by decide +kernel
theorem dX11_init_267 : decode cX11_init 267 = .ok (.bipush 17, 2) := by decide +kernel
theorem dX11_init_269 : decode cX11_init 269 = .ok (.bipush 6, 2) := by decide +kernel
theorem dX11_init_271 : decode cX11_init 271 = .ok (.iastore, 1) := by decide +kernel
theorem dX11_init_272 : decode cX11_init 272 = .ok (.dup, 1) := by decide +kernel
theorem dX11_init_273 : decode cX11_init 273 = .ok (.bipush 18, 2) := by decide +kernel
theorem dX11_init_275 : decode cX11_init 275 = .ok (.iconst 2, 1) := by decide +kernel
theorem dX11_init_276 : decode cX11_init 276 = .ok (.iastore, 1) := by decide +kernel
theorem dX11_init_277 : decode cX11_init 277 = .ok (.dup, 1) := by decide +kernel
theorem dX11_init_278 : decode cX11_init 278 = .ok (.bipush 19, 2) := by decide +kernel
theorem dX11_init_280 : decode cX11_init 280 = .ok (.iconst 5, 1) := by decide +kernel
theorem dX11_init_281 : decode cX11_init 281 = .ok (.iastore, 1) := by decide +kernel
theorem dX11_init_282 : decode cX11_init 282 = .ok (.dup, 1) := by decide +kernel
theorem dX11_init_283 : decode cX11_init 283 = .ok (.bipush 20, 2) := by decide +kernel
theorem dX11_init_285 : decode cX11_init 285 = .ok (.iconst 0, 1) := by decide +kernel
theorem dX11_init_286 : decode cX11_init 286 = .ok (.iastore, 1) := by decide +kernel
theorem dX11_init_287 : decode cX11_init 287 = .ok (.dup, 1) := by decide +kernel
theorem dX11_init_288 : decode cX11_init 288 = .ok (.bipush 21, 2) := by decide +kernel
theorem dX11_init_290 : decode cX11_init 290 = .ok (.bipush 8, 2) := by decide +kernel
theorem dX11_init_292 : decode cX11_init 292 = .ok (.iastore, 1) := by decide +kernel
theorem dX11_init_293 : decode cX11_init 293 = .ok (.dup, 1) := by decide +kernel
theorem dX11_init_294 : decode cX11_init 294 = .ok (.bipush 22, 2) := by decide +kernel
theorem dX11_init_296 : decode cX11_init 296 = .ok (.bipush 6, 2) := by decide +kernel
theorem dX11_init_298 : decode cX11_init 298 = .ok (.iastore, 1) := by decide +kernel
theorem dX11_init_299 : decode cX11_init 299 = .ok (.dup, 1) := by decide +kernel
theorem dX11_init_300 : decode cX11_init 300 = .ok (.bipush 23, 2) := by decide +kernel
theorem dX11_init_302 : decode cX11_init 302 = .ok (.iconst 3, 1) := by decide +kernel
theorem dX11_init_303 : decode cX11_init 303 = .ok (.iastore, 1) := by decide +kernel
theorem dX11_init_304 : decode cX11_init 304 = .ok (.dup, 1) := by decide +kernel
theorem dX11_init_305 : decode cX11_init 305 = .ok (.bipush 24, 2) := by decide +kernel
theorem dX11_init_307 : decode cX11_init 307 = .ok (.iconst 2, 1) := by decide +kernel
theorem dX11_init_308 : decode cX11_init 308 = .ok (.iastore, 1) := by decide +kernel
theorem dX11_init_309 : decode cX11_init 309 = .ok (.dup, 1) := by decide +kernel
theorem dX11_init_310 : decode cX11_init 310 = .ok (.bipush 25, 2) := by decide +kernel
theorem dX11_init_312 : decode cX11_init 312 = .ok (.bipush 20, 2) := by decide +kernel
theorem dX11_init_314 : decode cX11_init 314 = .ok (.iastore, 1) := by decide +kernel
theorem dX11_init_315 : decode cX11_init 315 = .ok (.dup, 1) := by decide +kernel
theorem dX11_init_316 : decode cX11_init 316 = .ok (.bipush 26, 2) := by decide +kernel
theorem dX11_init_318 : decode cX11_init 318 = .ok (.iconst 4, 1) := by decide +kernel
theorem dX11_init_319 : decode cX11_init 319 = .ok (.iastore, 1) := by decide +kernel
theorem dX11_init_320 : decode cX11_init 320 = .ok (.dup, 1) := by decide +kernel
theorem dX11_init_321 : decode cX11_init 321 = .ok (.bipush 27, 2) := by decide +kernel
theorem dX11_init_323 : decode cX11_init 323 = .ok (.bipush 8, 2) := by decide +kernel
theorem dX11_init_325 : decode cX11_init 325 = .ok (.iastore, 1) := by decide +kernel
theorem dX11_init_326 : decode cX11_init 326 = .ok (.dup, 1) := by decide +kernel
theorem dX11_init_327 : decode cX11_init 327 = .ok (.bipush 28, 2) := by decide +kernel
theorem dX11_init_329 : decode cX11_init 329 = .ok (.iconst 4, 1) := by decide +kernel
theorem dX11_init_330 : decode cX11_init 330 = .ok (.iastore, 1) := by decide +kernel
theorem dX11_init_331 : decode cX11_init 331 = .ok (.dup, 1) := by decide +kernel
theorem dX11_init_332 : decode cX11_init 332 = .ok (.bipush 29, 2) := by decide +kernel
theorem dX11_init_334 : decode cX11_init 334 = .ok (.bipush 24, 2) := by decide +kernel
theorem dX11_init_336 : decode cX11_init 336 = .ok (.iastore, 1) := by decide +kernel
theorem dX11_init_337 : decode cX11_init 337 = .ok (.dup, 1) := by decide +kernel
theorem dX11_init_338 : decode cX11_init 338 = .ok (.bipush 30, 2) := by decide +kernel
theorem dX11_init_340 : decode cX11_init 340 = .ok (.bipush 12, 2) := by decide +kernel
theorem dX11_init_342 : decode cX11_init 342 = .ok (.iastore, 1) := by decide +kernel
theorem dX11_init_343 : decode cX11_init 343 = .ok (.dup, 1) := by decide +kernel
theorem dX11_init_344 : decode cX11_init 344 = .ok (.bipush 31, 2) := by decide +kernel
theorem dX11_init_346 : decode cX11_init 346 = .ok (.iconst 3, 1) := by decide +kernel
theorem dX11_init_347 : decode cX11_init 347 = .ok (.iastore, 1) := by decide +kernel
theorem dX11_init_348 : decode cX11_init 348 = .ok (.dup, 1) := by decide +kernel
theorem dX11_init_349 : decode cX11_init 349 = .ok (.bipush 32, 2) := by decide +kernel
theorem dX11_init_351 : decode cX11_init 351 = .ok (.iconst 2, 1) := by decide +kernel
theorem dX11_init_352 : decode cX11_init 352 = .ok (.iastore, 1) := by decide +kernel
theorem dX11_init_353 : decode cX11_init 353 = .ok (.dup, 1) := by decide +kernel
theorem dX11_init_354 : decode cX11_init 354 = .ok (.bipush 33, 2) := by decide +kernel
theorem dX11_init_356 : decode cX11_init 356 = .ok (.iconst 3, 1) := by decide +kernel
theorem dX11_init_357 : decode cX11_init 357 = .ok (.iastore, 1) := by decide +kernel
theorem dX11_init_358 : decode cX11_init 358 = .ok (.dup, 1) := by decide +kernel
theorem dX11_init_359 : decode cX11_init 359 = .ok (.bipush 34, 2) := by decide +kernel
theorem dX11_init_361 : decode cX11_init 361 = .ok (.iconst 2, 1) := by decide +kernel
theorem dX11_init_362 : decode cX11_init 362 = .ok (.iastore, 1) := by decide +kernel
theorem dX11_init_363 : decode cX11_init 363 = .ok (.dup, 1) := by decide +kernel
theorem dX11_init_364 : decode cX11_init 364 = .ok (.bipush 35, 2) := by decide +kernel
theorem dX11_init_366 : decode cX11_init 366 = .ok (.iconst 5, 1) := by decide +kernel
theorem dX11_init_367 : decode cX11_init 367 = .ok (.iastore, 1) := by decide +kernel
theorem dX11_init_368 : decode cX11_init 368 = .ok (.dup, 1) := by decide +kernel
theorem dX11_init_369 : decode cX11_init 369 = .ok (.bipush 36, 2) := by decide +kernel
theorem dX11_init_371 : decode cX11_init 371 = .ok (.iconst 0, 1) := by decide +kernel
theorem dX11_init_372 : decode cX11_init 372 = .ok (.iastore, 1) := by decide +kernel
theorem dX11_init_373 : decode cX11_init 373 = .ok (.dup, 1) := by decide +kernel
theorem dX11_init_374 : decode cX11_init 374 = .ok (.bipush 37, 2) := by decide +kernel
theorem dX11_init_376 : decode cX11_init 376 = .ok (.iconst 4, 1) := by decide +kernel
theorem dX11_init_377 : decode cX11_init 377 = .ok (.iastore, 1) := by decide +kernel
theorem dX11_init_378 : decode cX11_init 378 = .ok (.dup, 1) := by decide +kernel
theorem dX11_init_379 : decode cX11_init 379 = .ok (.bipush 38, 2) := by decide +kernel
theorem dX11_init_381 : decode cX11_init 381 = .ok (.bipush 6, 2) := by decide +kernel
theorem dX11_init_383 : decode cX11_init 383 = .ok (.iastore, 1) := by decide +kernel
theorem dX11_init_384 : decode cX11_init 384 = .ok (.dup, 1) := by decide +kernel
theorem dX11_init_385 : decode cX11_init 385 = .ok (.bipush 39, 2) := by decide +kernel
theorem dX11_init_387 : decode cX11_init 387 = .ok (.iconst 3, 1) := by decide +kernel
theorem dX11_init_388 : decode cX11_init 388 = .ok (.iastore, 1) := by decide +kernel
theorem dX11_init_389 : decode cX11_init 389 = .ok (.dup, 1) := by decide +kernel
theorem dX11_init_390 : decode cX11_init 390 = .ok (.bipush 40, 2) := by decide +kernel
theorem dX11_init_392 : decode cX11_init 392 = .ok (.iconst 2, 1) := by decide +kernel
theorem dX11_init_393 : decode cX11_init 393 = .ok (.iastore, 1) := by decide +kernel
theorem dX11_init_394 : decode cX11_init 394 = .ok (.dup, 1) := by decide +kernel
theorem dX11_init_395 : decode cX11_init 395 = .ok (.bipush 41, 2) := by decide +kernel
theorem dX11_init_397 : decode cX11_init 397 = .ok (.bipush 20, 2) := by decide +kernel
theorem dX11_init_399 : decode cX11_init 399 = .ok (.iastore, 1) := by decide +kernel
theorem dX11_init_400 : decode cX11_init 400 = .ok (.dup, 1) := by decide +kernel
theorem dX11_init_401 : decode cX11_init 401 = .ok (.bipush 42, 2) := by decide +kernel
theorem dX11_init_403 : decode cX11_init 403 = .ok (.iconst 0, 1) := by decide +kernel
theorem dX11_init_404 : decode cX11_init 404 = .ok (.iastore, 1) := by decide +kernel
theorem dX11_init_405 : decode cX11_init 405 = .ok (.dup, 1) := by decide +kernel
theorem dX11_init_406 : decode cX11_init 406 = .ok (.bipush 43, 2) := by decide +kernel
theorem dX11_init_408 : decode cX11_init 408 = .ok (.bipush 8, 2) := by decide +kernel
theorem dX11_init_410 : decode cX11_init 410 = .ok (.iastore, 1) := by decide +kernel
theorem dX11_init_411 : decode cX11_init 411 = .ok (.dup, 1) := by decide +kernel
theorem dX11_init_412 : decode cX11_init 412 = .ok (.bipush 44, 2) := by decide +kernel
theorem dX11_init_414 : decode cX11_init 414 = .ok (.iconst 0, 1) := by decide +kernel
theorem dX11_init_415 : decode cX11_init 415 = .ok (.iastore, 1) := by decide +kernel
theorem dX11_init_416 : decode cX11_init 416 = .ok (.dup, 1) := by decide +kernel
theorem dX11_init_417 : decode cX11_init 417 = .ok (.bipush 45, 2) := by decide +kernel
theorem dX11_init_419 : decode cX11_init 419 = .ok (.bipush 34, 2) := by decide +kernel
theorem dX11_init_421 : decode cX11_init 421 = .ok (.iastore, 1) := by decide +kernel
theorem dX11_init_422 : decode cX11_init 422 = .ok (.dup, 1) := by decide +kernel
theorem dX11_init_423 : decode cX11_init 423 = .ok (.bipush 46, 2) := by decide +kernel
theorem dX11_init_425 : decode cX11_init 425 = .ok (.bipush 12, 2) := by decide +kernel
theorem dX11_init_427 : decode cX11_init 427 = .ok (.iastore, 1) := by decide +kernel
theorem dX11_init_428 : decode cX11_init 428 = .ok (.dup, 1) := by decide +kernel
theorem dX11_init_429 : decode cX11_init 429 = .ok (.bipush 47, 2) := by decide +kernel
theorem dX11_init_431 : decode cX11_init 431 = .ok (.iconst 3, 1) := by decide +kernel
theorem dX11_init_432 : decode cX11_init 432 = .ok (.iastore, 1) := by decide +kernel
theorem dX11_init_433 : decode cX11_init 433 = .ok (.putfield 50, 3) := by decide +kernel
theorem dX11_init_436 : decode cX11_init 436 = .ok (.aload_n 0, 1) := by decide +kernel
theorem dX11_init_437 : decode cX11_init 437 = .ok (.bipush 6, 2) := by decide +kernel
theorem dX11_init_439 : decode cX11_init 439 = .ok (.newarray .int, 2) := by decide +kernel
theorem dX11_init_441 : decode cX11_init 441 = .ok (.dup, 1) := by decide +kernel
theorem dX11_init_442 : decode cX11_init 442 = .ok (.iconst 0, 1) := by decide +kernel
theorem dX11_init_443 : decode cX11_init 443 = .ok (.iconst 1, 1) := by decide +kernel
theorem dX11_init_444 : decode cX11_init 444 = .ok (.iastore, 1) := by decide +kernel
theorem dX11_init_445 : decode cX11_init 445 = .ok (.dup, 1) := by decide +kernel
theorem dX11_init_446 : decode cX11_init 446 = .ok (.iconst 1, 1) := by decide +kernel
theorem dX11_init_447 : decode cX11_init 447 = .ok (.iconst 2, 1) := by decide +kernel
theorem dX11_init_448 : decode cX11_init 448 = .ok (.iastore, 1) := by decide +kernel
theorem dX11_init_449 : decode cX11_init 449 = .ok (.dup, 1) := by decide +kernel
theorem dX11_init_450 : decode cX11_init 450 = .ok (.iconst 2, 1) := by decide +kernel
theorem dX11_init_451 : decode cX11_init 451 = .ok (.iconst 1, 1) := by decide +kernel
theorem dX11_init_452 : decode cX11_init 452 = .ok (.iastore, 1) := by decide +kernel
theorem dX11_init_453 : decode cX11_init 453 = .ok (.dup, 1) := by decide +kernel
theorem dX11_init_454 : decode cX11_init 454 = .ok (.iconst 3, 1) := by decide +kernel
theorem dX11_init_455 : decode cX11_init 455 = .ok (.iconst 3, 1) := by decide +kernel
theorem dX11_init_456 : decode cX11_init 456 = .ok (.iastore, 1) := by decide +kernel
theorem dX11_init_457 : decode cX11_init 457 = .ok (.dup, 1) := by decide +kernel
theorem dX11_init_458 : decode cX11_init 458 = .ok (.iconst 4, 1) := by decide +kernel
theorem dX11_init_459 : decode cX11_init 459 = .ok (.iconst 1, 1) := by decide +kernel
theorem dX11_init_460 : decode cX11_init 460 = .ok (.iastore, 1) := by decide +kernel
theorem dX11_init_461 : decode cX11_init 461 = .ok (.dup, 1) := by decide +kernel
theorem dX11_init_462 : decode cX11_init 462 = .ok (.iconst 5, 1) := by decide +kernel
theorem dX11_init_463 : decode cX11_init 463 = .ok (.iconst 3, 1) := by decide +kernel
theorem dX11_init_464 : decode cX11_init 464 = .ok (.iastore, 1) := by decide +kernel
theorem dX11_init_465 : decode cX11_init 465 = .ok (.putfield 53, 3) := by decide +kernel
theorem dX11_init_468 : decode cX11_init 468 = .ok (.aload_n 0, 1) := by decide +kernel
theorem dX11_init_469 : decode cX11_init 469 = .ok (.bipush 6, 2) := by decide +kernel
theorem dX11_init_471 : decode cX11_init 471 = .ok (.newarray .int, 2) := by decide +kernel
theorem dX11_init_473 : decode cX11_init 473 = .ok (.dup, 1) := by decide +kernel
theorem dX11_init_474 : decode cX11_init 474 = .ok (.iconst 0, 1) := by decide +kernel
theorem dX11_init_475 : decode cX11_init 475 = .ok (.iconst 2, 1) := by decide +kernel
theorem dX11_init_476 : decode cX11_init 476 = .ok (.iastore, 1) := by decide +kernel
theorem dX11_init_477 : decode cX11_init 477 = .ok (.dup, 1) := by decide +kernel
theorem dX11_init_478 : decode cX11_init 478 = .ok (.iconst 1, 1) := by decide +kernel
theorem dX11_init_479 : decode cX11_init 479 = .ok (.iconst 2, 1) := by decide +kernel
theorem dX11_init_480 : decode cX11_init 480 = .ok (.iastore, 1) := by decide +kernel
theorem dX11_init_481 : decode cX11_init 481 = .ok (.dup, 1) := by decide +kernel
theorem dX11_init_482 : decode cX11_init 482 = .ok (.iconst 2, 1) := by decide +kernel
theorem dX11_init_483 : decode cX11_init 483 = .ok (.iconst 2, 1) := by decide +kernel
theorem dX11_init_484 : decode cX11_init 484 = .ok (.iastore, 1) := by decide +kernel
theorem dX11_init_485 : decode cX11_init 485 = .ok (.dup, 1) := by decide +kernel
theorem dX11_init_486 : decode cX11_init 486 = .ok (.iconst 3, 1) := by decide +kernel
theorem dX11_init_487 : decode cX11_init 487 = .ok (.iconst 3, 1) := by decide +kernel
theorem dX11_init_488 : decode cX11_init 488 = .ok (.iastore, 1) := by decide +kernel
theorem dX11_init_489 : decode cX11_init 489 = .ok (.dup, 1) := by decide +kernel
theorem dX11_init_490 : decode cX11_init 490 = .ok (.iconst 4, 1) := by decide +kernel
theorem dX11_init_491 : decode cX11_init 491 = .ok (.iconst 2, 1) := by decide +kernel
theorem dX11_init_492 : decode cX11_init 492 = .ok (.iastore, 1) := by decide +kernel
theorem dX11_init_493 : decode cX11_init 493 = .ok (.dup, 1) := by decide +kernel
theorem dX11_init_494 : decode cX11_init 494 = .ok (.iconst 5, 1) := by decide +kernel
theorem dX11_init_495 : decode cX11_init 495 = .ok (.iconst 3, 1) := by decide +kernel
theorem dX11_init_496 : decode cX11_init 496 = .ok (.iastore, 1) := by decide +kernel
theorem dX11_init_497 : decode cX11_init 497 = .ok (.putfield 56, 3) := by decide +kernel
theorem dX11_init_500 : decode cX11_init 500 = .ok (.aload_n 0, 1) := by decide +kernel
theorem dX11_init_501 : decode cX11_init 501 = .ok (.bipush 8, 2) := by decide +kernel
theorem dX11_init_503 : decode cX11_init 503 = .ok (.newarray .int, 2) := by decide +kernel
theorem dX11_init_505 : decode cX11_init 505 = .ok (.dup, 1) := by decide +kernel
theorem dX11_init_506 : decode cX11_init 506 = .ok (.iconst 0, 1) := by decide +kernel
theorem dX11_init_507 : decode cX11_init 507 = .ok (.iconst 0, 1) := by decide +kernel
theorem dX11_init_508 : decode cX11_init 508 = .ok (.iastore, 1) := by decide +kernel
theorem dX11_init_509 : decode cX11_init 509 = .ok (.dup, 1) := by decide +kernel
theorem dX11_init_510 : decode cX11_init 510 = .ok (.iconst 1, 1) := by decide +kernel
theorem dX11_init_511 : decode cX11_init 511 = .ok (.iconst (-1), 1) := by decide +kernel
theorem dX11_init_512 : decode cX11_init 512 = .ok (.iastore, 1) := by decide +kernel
theorem dX11_init_513 : decode cX11_init 513 = .ok (.dup, 1) := by decide +kernel
theorem dX11_init_514 : decode cX11_init 514 = .ok (.iconst 2, 1) := by decide +kernel
theorem dX11_init_515 : decode cX11_init 515 = .ok (.iconst (-1), 1) := by decide +kernel
theorem dX11_init_516 : decode cX11_init 516 = .ok (.iastore, 1) := by decide +kernel
theorem dX11_init_517 : decode cX11_init 517 = .ok (.dup, 1) := by decide +kernel
theorem dX11_init_518 : decode cX11_init 518 = .ok (.iconst 3, 1) := by decide +kernel
theorem dX11_init_519 : decode cX11_init 519 = .ok (.iconst 1, 1) := by decide +kernel
theorem dX11_init_520 : decode cX11_init 520 = .ok (.iastore, 1) := by decide +kernel
theorem dX11_init_521 : decode cX11_init 521 = .ok (.dup, 1) := by decide +kernel
theorem dX11_init_522 : decode cX11_init 522 = .ok (.iconst 4, 1) := by decide +kernel
theorem dX11_init_523 : decode cX11_init 523 = .ok (.iconst 2, 1) := by decide +kernel
theorem dX11_init_524 : decode cX11_init 524 = .ok (.iastore, 1) := by decide +kernel
theorem dX11_init_525 : decode cX11_init 525 = .ok (.dup, 1) := by decide +kernel
theorem dX11_init_526 : decode cX11_init 526 = .ok (.iconst 5, 1) := by decide +kernel
theorem dX11_init_527 : decode cX11_init 527 = .ok (.iconst (-1), 1) := by decide +kernel
theorem dX11_init_528 : decode cX11_init 528 = .ok (.iastore, 1) := by decide +kernel
theorem dX11_init_529 : decode cX11_init 529 = .ok (.dup, 1) := by decide +kernel
theorem dX11_init_530 : decode cX11_init 530 = .ok (.bipush 6, 2) := by decide +kernel
theorem dX11_init_532 : decode cX11_init 532 = .ok (.iconst 4, 1) := by decide +kernel
theorem dX11_init_533 : decode cX11_init 533 = .ok (.iastore, 1) := by decide +kernel
theorem dX11_init_534 : decode cX11_init 534 = .ok (.dup, 1) := by decide +kernel
theorem dX11_init_535 : decode cX11_init 535 = .ok (.bipush 7, 2) := by decide +kernel
theorem dX11_init_537 : decode cX11_init 537 = .ok (.iconst 3, 1) := by decide +kernel
theorem dX11_init_538 : decode cX11_init 538 = .ok (.iastore, 1) := by decide +kernel
theorem dX11_init_539 : decode cX11_init 539 = .ok (.putfield 59, 3) := by decide +kernel
theorem dX11_init_542 : decode cX11_init 542 = .ok (.aload_n 0, 1) := by decide +kernel
theorem dX11_init_543 : decode cX11_init 543 = .ok (.bipush 8, 2) := by decide +kernel
theorem dX11_init_545 : decode cX11_init 545 = .ok (.newarray .int, 2) := by decide +kernel
theorem dX11_init_547 : decode cX11_init 547 = .ok (.dup, 1) := by decide +kernel
theorem dX11_init_548 : decode cX11_init 548 = .ok (.iconst 0, 1) := by decide +kernel
theorem dX11_init_549 : decode cX11_init 549 = .ok (.iconst 0, 1) := by decide +kernel
theorem dX11_init_550 : decode cX11_init 550 = .ok (.iastore, 1) := by decide +kernel
theorem dX11_init_551 : decode cX11_init 551 = .ok (.dup, 1) := by decide +kernel
theorem dX11_init_552 : decode cX11_init 552 = .ok (.iconst 1, 1) := by decide +kernel
theorem dX11_init_553 : decode cX11_init 553 = .ok (.iconst 1, 1) := by decide +kernel
theorem dX11_init_554 : decode cX11_init 554 = .ok (.iastore, 1) := by decide +kernel
theorem dX11_init_555 : decode cX11_init 555 = .ok (.dup, 1) := by decide +kernel
theorem dX11_init_556 : decode cX11_init 556 = .ok (.iconst 2, 1) := by decide +kernel
theorem dX11_init_557 : decode cX11_init 557 = .ok (.iconst 2, 1) := by decide +kernel
theorem dX11_init_558 : decode cX11_init 558 = .ok (.iastore, 1) := by decide +kernel
theorem dX11_init_559 : decode cX11_init 559 = .ok (.dup, 1) := by decide +kernel
theorem dX11_init_560 : decode cX11_init 560 = .ok (.iconst 3, 1) := by decide +kernel
theorem dX11_init_561 : decode cX11_init 561 = .ok (.iconst 2, 1) := by decide +kernel
theorem dX11_init_562 : decode cX11_init 562 = .ok (.iastore, 1) := by decide +kernel
theorem dX11_init_563 : decode cX11_init 563 = .ok (.dup, 1) := by decide +kernel
theorem dX11_init_564 : decode cX11_init 564 = .ok (.iconst 4, 1) := by decide +kernel
theorem dX11_init_565 : decode cX11_init 565 = .ok (.iconst 4, 1) := by decide +kernel
theorem dX11_init_566 : decode cX11_init 566 = .ok (.iastore, 1) := by decide +kernel
theorem dX11_init_567 : decode cX11_init 567 = .ok (.dup, 1) := by decide +kernel
theorem dX11_init_568 : decode cX11_init 568 = .ok (.iconst 5, 1) := by decide +kernel
theorem dX11_init_569 : decode cX11_init 569 = .ok (.bipush 24, 2) := by decide +kernel
theorem dX11_init_571 : decode cX11_init 571 = .ok (.iastore, 1) := by decide +kernel
theorem dX11_init_572 : decode cX11_init 572 = .ok (.dup, 1) := by decide +kernel
theorem dX11_init_573 : decode cX11_init 573 = .ok (.bipush 6, 2) := by decide +kernel
theorem dX11_init_575 : decode cX11_init 575 = .ok (.bipush 32, 2) := by decide +kernel
theorem dX11_init_577 : decode cX11_init 577 = .ok (.iastore, 1) := by decide +kernel
theorem dX11_init_578 : decode cX11_init 578 = .ok (.dup, 1) := by decide +kernel
theorem dX11_init_579 : decode cX11_init 579 = .ok (.bipush 7, 2) := by decide +kernel
theorem dX11_init_581 : decode cX11_init 581 = .ok (.bipush 96, 2) := by decide +kernel
theorem dX11_init_583 : decode cX11_init 583 = .ok (.iastore, 1) := by decide +kernel
theorem dX11_init_584 : decode cX11_init 584 = .ok (.putfield 62, 3) := by decide +kernel
theorem dX11_init_587 : decode cX11_init 587 = .ok (.aload_n 0, 1) := by decide +kernel
theorem dX11_init_588 : decode cX11_init 588 = .ok (.bipush 14, 2) := by decide +kernel
theorem dX11_init_590 : decode cX11_init 590 = .ok (.newarray .int, 2) := by decide +kernel
theorem dX11_init_592 : decode cX11_init 592 = .ok (.dup, 1) := by decide +kernel
theorem dX11_init_593 : decode cX11_init 593 = .ok (.iconst 0, 1) := by decide +kernel
theorem dX11_init_594 : decode cX11_init 594 = .ok (.ldc 65, 2) := by decide +kernel
theorem dX11_init_596 : decode cX11_init 596 = .ok (.iastore, 1) := by decide +kernel
theorem dX11_init_597 : decode cX11_init 597 = .ok (.dup, 1) := by decide +kernel
theorem dX11_init_598 : decode cX11_init 598 = .ok (.iconst 1, 1) := by decide +kernel
theorem dX11_init_599 : decode cX11_init 599 = .ok (.ldc 66, 2) := by decide +kernel
theorem dX11_init_601 : decode cX11_init 601 = .ok (.iastore, 1) := by decide +kernel
theorem dX11_init_602 : decode cX11_init 602 = .ok (.dup, 1) := by decide +kernel
theorem dX11_init_603 : decode cX11_init 603 = .ok (.iconst 2, 1) := by decide +kernel
theorem dX11_init_604 : decode cX11_init 604 = .ok (.ldc 67, 2) := by decide +kernel
theorem dX11_init_606 : decode cX11_init 606 = .ok (.iastore, 1) := by decide +kernel
theorem dX11_init_607 : decode cX11_init 607 = .ok (.dup, 1) := by decide +kernel
theorem dX11_init_608 : decode cX11_init 608 = .ok (.iconst 3, 1) := by decide +kernel
theorem dX11_init_609 : decode cX11_init 609 = .ok (.sipush 26990, 3) := by decide +kernel
theorem dX11_init_612 : decode cX11_init 612 = .ok (.iastore, 1) := by decide +kernel
theorem dX11_init_613 : decode cX11_init 613 = .ok (.dup, 1) := by decide +kernel
theorem dX11_init_614 : decode cX11_init 614 = .ok (.iconst 4, 1) := by decide +kernel
theorem dX11_init_615 : decode cX11_init 615 = .ok (.ldc 68, 2) := by decide +kernel
theorem dX11_init_617 : decode cX11_init 617 = .ok (.iastore, 1) := by decide +kernel
theorem dX11_init_618 : decode cX11_init 618 = .ok (.dup, 1) := by decide +kernel
theorem dX11_init_619 : decode cX11_init 619 = .ok (.iconst 5, 1) := by decide +kernel
theorem dX11_init_620 : decode cX11_init 620 = .ok (.ldc 69, 2) := by decide +kernel
theorem dX11_init_622 : decode cX11_init 622 = .ok (.iastore, 1) := by decide +kernel
theorem dX11_init_623 : decode cX11_init 623 = .ok (.dup, 1) := by decide +kernel
theorem dX11_init_624 : decode cX11_init 624 = .ok (.bipush 6, 2) := by decide +kernel
theorem dX11_init_626 : decode cX11_init 626 = .ok (.ldc 70, 2) := by decide +kernel
theorem dX11_init_628 : decode cX11_init 628 = .ok (.iastore, 1) := by decide +kernel
theorem dX11_init_629 : decode cX11_init 629 = .ok (.dup, 1) := by decide +kernel
theorem dX11_init_630 : decode cX11_init 630 = .ok (.bipush 7, 2) := by decide +kernel
theorem dX11_init_632 : decode cX11_init 632 = .ok (.ldc 71, 2) := by decide +kernel
theorem dX11_init_634 : decode cX11_init 634 = .ok (.iastore, 1) := by decide +kernel
theorem dX11_init_635 : decode cX11_init 635 = .ok (.dup, 1) := by decide +kernel
theorem dX11_init_636 : decode cX11_init 636 = .ok (.bipush 8, 2) := by decide +kernel
theorem dX11_init_638 : decode cX11_init 638 = .ok (.ldc 72, 2) := by decide +kernel
theorem dX11_init_640 : decode cX11_init 640 = .ok (.iastore, 1) := by decide +kernel
theorem dX11_init_641 : decode cX11_init 641 = .ok (.dup, 1) := by decide +kernel
theorem dX11_init_642 : decode cX11_init 642 = .ok (.bipush 9, 2) := by decide +kernel
theorem dX11_init_644 : decode cX11_init 644 = .ok (.ldc 73, 2) := by decide +kernel
theorem dX11_init_646 : decode cX11_init 646 = .ok (.iastore, 1) := by decide +kernel
theorem dX11_init_647 : decode cX11_init 647 = .ok (.dup, 1) := by decide +kernel
theorem dX11_init_648 : decode cX11_init 648 = .ok (.bipush 10, 2) := by decide +kernel
theorem dX11_init_650 : decode cX11_init 650 = .ok (.ldc 74, 2) := by decide +kernel
theorem dX11_init_652 : decode cX11_init 652 = .ok (.iastore, 1) := by decide +kernel
theorem dX11_init_653 : decode cX11_init 653 = .ok (.dup, 1) := by decide +kernel
theorem dX11_init_654 : decode cX11_init 654 = .ok (.bipush 11, 2) := by decide +kernel
theorem dX11_init_656 : decode cX11_init 656 = .ok (.sipush 28530, 3) := by decide +kernel
theorem dX11_init_659 : decode cX11_init 659 = .ok (.iastore, 1) := by decide +kernel
theorem dX11_init_660 : decode cX11_init 660 = .ok (.dup, 1) := by decide +kernel
theorem dX11_init_661 : decode cX11_init 661 = .ok (.bipush 12, 2) := by decide +kernel
theorem dX11_init_663 : decode cX11_init 663 = .ok (.ldc 75, 2) := by decide +kernel
theorem dX11_init_665 : decode cX11_init 665 = .ok (.iastore, 1) := by decide +kernel
theorem dX11_init_666 : decode cX11_init 666 = .ok (.dup, 1) := by decide +kernel
theorem dX11_init_667 : decode cX11_init 667 = .ok (.bipush 13, 2) := by decide +kernel
theorem dX11_init_669 : decode cX11_init 669 = .ok (.ldc 76, 2) := by decide +kernel
theorem dX11_init_671 : decode cX11_init 671 = .ok (.iastore, 1) := by decide +kernel
theorem dX11_init_672 : decode cX11_init 672 = .ok (.putfield 77, 3) := by decide +kernel
theorem dX11_init_675 : decode cX11_init 675 = .ok (.aload_n 0, 1) := by decide +kernel
theorem dX11_init_676 : decode cX11_init 676 = .ok (.sipush 200, 3) := by decide +kernel
theorem dX11_init_679 : decode cX11_init 679 = .ok (.newarray .int, 2) := by decide +kernel
theorem dX11_init_681 : decode cX11_init 681 = .ok (.putfield 80, 3) := by decide +kernel
theorem dX11_init_684 : decode cX11_init 684 = .ok (.aload_n 0, 1) := by decide +kernel
theorem dX11_init_685 : decode cX11_init 685 = .ok (.sipush 200, 3) := by decide +kernel
theorem dX11_init_688 : decode cX11_init 688 = .ok (.newarray .int, 2) := by decide +kernel
theorem dX11_init_690 : decode cX11_init 690 = .ok (.putfield 83, 3) := by decide +kernel
theorem dX11_init_693 : decode cX11_init 693 = .ok (.aload_n 0, 1) := by decide +kernel
theorem dX11_init_694 : decode cX11_init 694 = .ok (.bipush 12, 2) := by decide +kernel
theorem dX11_init_696 : decode cX11_init 696 = .ok (.newarray .int, 2) := by decide +kernel
theorem dX11_init_698 : decode cX11_init 698 = .ok (.putfield 86, 3) := by decide +kernel
theorem dX11_init_701 : decode cX11_init 701 = .ok (.aload_n 0, 1) := by decide +kernel
theorem dX11_init_702 : decode cX11_init 702 = .ok (.sipush 510, 3) := by decide +kernel
theorem dX11_init_705 : decode cX11_init 705 = .ok (.newarray .int, 2) := by decide +kernel
theorem dX11_init_707 : decode cX11_init 707 = .ok (.putfield 89, 3) := by decide +kernel
theorem dX11_init_710 : decode cX11_init 710 = .ok (.aload_n 0, 1) := by decide +kernel
theorem dX11_init_711 : decode cX11_init 711 = .ok (.getfield 7, 3) := by decide +kernel
theorem dX11_init_714 : decode cX11_init 714 = .ok (.sipush 462, 3) := by decide +kernel
theorem dX11_init_717 : decode cX11_init 717 = .ok (.iconst (-1), 1) := by decide +kernel
theorem dX11_init_718 : decode cX11_init 718 = .ok (.iastore, 1) := by decide +kernel
theorem dX11_init_719 : decode cX11_init 719 = .ok (.aload_n 0, 1) := by decide +kernel
theorem dX11_init_720 : decode cX11_init 720 = .ok (.getfield 7, 3) := by decide +kernel
theorem dX11_init_723 : decode cX11_init 723 = .ok (.sipush 463, 3) := by decide +kernel
theorem dX11_init_726 : decode cX11_init 726 = .ok (.iconst (-1), 1) := by decide +kernel
theorem dX11_init_727 : decode cX11_init 727 = .ok (.iastore, 1) := by decide +kernel
theorem dX11_init_728 : decode cX11_init 728 = .ok (.aload_n 0, 1) := by decide +kernel
theorem dX11_init_729 : decode cX11_init 729 = .ok (.getfield 7, 3) := by decide +kernel
theorem dX11_init_732 : decode cX11_init 732 = .ok (.sipush 484, 3) := by decide +kernel
theorem dX11_init_735 : decode cX11_init 735 = .ok (.iconst 1, 1) := by decide +kernel
theorem dX11_init_736 : decode cX11_init 736 = .ok (.iastore, 1) := by decide +kernel
theorem dX11_init_737 : decode cX11_init 737 = .ok (.iconst 0, 1) := by decide +kernel
theorem dX11_init_738 : decode cX11_init 738 = .ok (.istore_n 1, 1) := by decide +kernel
theorem dX11_init_739 : decode cX11_init 739 = .ok (.iload_n 1, 1) := by decide +kernel
theorem dX11_init_740 : decode cX11_init 740 = .ok (.bipush 6, 2) := by decide +kernel
theorem dX11_init_742 : decode cX11_init 742 = .ok (.if_icmp .ge 20, 3) := by decide +kernel
theorem dX11_init_745 : decode cX11_init 745 = .ok (.aload_n 0, 1) := by decide +kernel
theorem dX11_init_746 : decode cX11_init 746 = .ok (.getfield 7, 3) := by decide +kernel
theorem dX11_init_749 : decode cX11_init 749 = .ok (.sipush 496, 3) := by decide +kernel
theorem dX11_init_752 : decode cX11_init 752 = .ok (.iload_n 1, 1) := by decide +kernel
theorem dX11_init_753 : decode cX11_init 753 = .ok (.iadd, 1) := by decide +kernel
theorem dX11_init_754 : decode cX11_init 754 = .ok (.iconst (-1), 1) := by decide +kernel
theorem dX11_init_755 : decode cX11_init 755 = .ok (.iastore, 1) := by decide +kernel
theorem dX11_init_756 : decode cX11_init 756 = .ok (.iinc 1 1, 3) := by decide +kernel
theorem dX11_init_759 : decode cX11_init 759 = .ok (.goto (-20), 3) := by decide +kernel
theorem dX11_init_762 : decode cX11_init 762 = .ok (.iconst 0, 1) := by decide +kernel
theorem dX11_init_763 : decode cX11_init 763 = .ok (.istore_n 1, 1) := by decide +kernel
theorem dX11_init_764 : decode cX11_init 764 = .ok (.iload_n 1, 1) := by decide +kernel
theorem dX11_init_765 : decode cX11_init 765 = .ok (.bipush 11, 2) := by decide +kernel
theorem dX11_init_767 : decode cX11_init 767 = .ok (.if_icmp .ge 21, 3) := by decide +kernel
theorem dX11_init_770 : decode cX11_init 770 = .ok (.aload_n 0, 1) := by decide +kernel
theorem dX11_init_771 : decode cX11_init 771 = .ok (.getfield 28, 3) := by decide +kernel
theorem dX11_init_774 : decode cX11_init 774 = .ok (.iload_n 1, 1) := by decide +kernel
theorem dX11_init_775 : decode cX11_init 775 = .ok (.aload_n 0, 1) := by decide +kernel
theorem dX11_init_776 : decode cX11_init 776 = .ok (.getfield 38, 3) := by decide +kernel
theorem dX11_init_779 : decode cX11_init 779 = .ok (.iload_n 1, 1) := by decide +kernel
theorem dX11_init_780 : decode cX11_init 780 = .ok (.iaload, 1) := by decide +kernel
theorem dX11_init_781 : decode cX11_init 781 = .ok (.iastore, 1) := by decide +kernel
theorem dX11_init_782 : decode cX11_init 782 = .ok (.iinc 1 1, 3) := by decide +kernel
theorem dX11_init_785 : decode cX11_init 785 = .ok (.goto (-21), 3) := by decide +kernel
theorem dX11_init_788 : decode cX11_init 788 = .ok (.aload_n 0, 1) := by decide +kernel
theorem dX11_init_789 : decode cX11_init 789 = .ok (.getfield 31, 3) := by decide +kernel
theorem dX11_init_792 : decode cX11_init 792 = .ok (.iconst 1, 1) := by decide +kernel
theorem dX11_init_793 : decode cX11_init 793 = .ok (.iconst 5, 1) := by decide +kernel
theorem dX11_init_794 : decode cX11_init 794 = .ok (.iastore, 1) := by decide +kernel
theorem dX11_init_795 : decode cX11_init 795 = .ok (.aload_n 0, 1) := by decide +kernel
theorem dX11_init_796 : decode cX11_init 796 = .ok (.getfield 31, 3) := by decide +kernel
theorem dX11_init_799 : decode cX11_init 799 = .ok (.iconst 2, 1) := by decide +kernel
theorem dX11_init_800 : decode cX11_init 800 = .ok (.bipush 10, 2) := by decide +kernel
theorem dX11_init_802 : decode cX11_init 802 = .ok (.iastore, 1) := by decide +kernel
theorem dX11_init_803 : decode cX11_init 803 = .ok (.aload_n 0, 1) := by decide +kernel
theorem dX11_init_804 : decode cX11_init 804 = .ok (.getfield 31, 3) := by decide +kernel
theorem dX11_init_807 : decode cX11_init 807 = .ok (.iconst 3, 1) := by decide +kernel
theorem dX11_init_808 : decode cX11_init 808 = .ok (.bipush 11, 2) := by decide +kernel
theorem dX11_init_810 : decode cX11_init 810 = .ok (.iastore, 1) := by decide +kernel
theorem dX11_init_811 : decode cX11_init 811 = .ok (.aload_n 0, 1) := by decide +kernel
theorem dX11_init_812 : decode cX11_init 812 = .ok (.iconst 1, 1) := by decide +kernel
theorem dX11_init_813 : decode cX11_init 813 = .ok (.putfield 92, 3) := by decide +kernel
theorem dX11_init_816 : decode cX11_init 816 = .ok (.return_, 1) := by decide +kernel
section WK
variable {p : Program} {l : Launch} {e : Env} {s : State} {m : MethodId} {args : Array Value} {below : List Frame} {meth : Method} {c : Code}
def fX1_init (n0 : Nat) (g0 : Mm) (c0 : Nat) : Option (Nat × Mm) :=
  wGd (n0 ≤ n0 + 0 ∧ slC n0 ≤ slC n0 + 0) (some (n0, g0))
set_option maxHeartbeats 4000000 in
set_option maxRecDepth 20000 in
theorem kX1_init (l : Launch) {k : En} {n0 : Nat} {c0 : Nat} {res : Nat × Mm} {g0 : Mm} (hf : fX1_init n0 g0 c0 = some res) : MtD l yX1_init cX1_init 1 (RmI 1 0 0 30) 0 0 DC k n0 [.ref (k.1 + c0)] g0 res.1 res.2 := by
  refine MtD.of (by decide) rfl (Nat.le_of_ble_eq_true rfl) ?_
  intro p e s m args below meth c ls X h hl
  have X : Cd k p s m args meth c cX1_init 1 RX1 := X
  have hl : lv_has ls 1 [(0, .ref (k.1 + c0))] := hl
  have hc : 0 + n0 = n0 := Nat.zero_add _
  have hz : 0 + slC n0 = slC n0 := Nat.zero_add _
  have JR : res = res := rfl
  unfold fX1_init at hf
  refine lv_aload_n X.x X.b dX1_init_0 rfl (lv_at hl 0 rfl) ?_
  refine rd_obj X hl lk_X1_3 oi_f (Nat.le_of_ble_eq_true rfl) (Nat.le_of_ble_eq_true rfl) dX1_init_1 ?_
  obtain ⟨hb1, hf⟩ := wGd_s hf
  cases (Option.some.inj hf).trans JR
  exact rd_ret X h (by omega) (by omega) dX1_init_4
def fX2_init (n0 : Nat) (g0 : Mm) (c0 : Nat) : Option (Nat × Mm) :=
  wGd (n0 ≤ n0 + 0 ∧ slC n0 ≤ slC n0 + 0) (some (n0, g0))
set_option maxHeartbeats 4000000 in
set_option maxRecDepth 20000 in
theorem kX2_init (l : Launch) {k : En} {n0 : Nat} {c0 : Nat} {res : Nat × Mm} {g0 : Mm} (hf : fX2_init n0 g0 c0 = some res) : MtD l yX2_init cX2_init 1 (RmI 1 0 0 30) 0 0 DC k n0 [.ref (k.1 + c0)] g0 res.1 res.2 := by
  refine MtD.of (by decide) rfl (Nat.le_of_ble_eq_true rfl) ?_
  intro p e s m args below meth c ls X h hl
  have X : Cd k p s m args meth c cX2_init 1 RX2 := X
  have hl : lv_has ls 1 [(0, .ref (k.1 + c0))] := hl
  have hc : 0 + n0 = n0 := Nat.zero_add _
  have hz : 0 + slC n0 = slC n0 := Nat.zero_add _
  have JR : res = res := rfl
  unfold fX2_init at hf
  refine lv_aload_n X.x X.b dX2_init_0 rfl (lv_at hl 0 rfl) ?_
  refine rd_obj X hl lk_X2_1 oi_f (Nat.le_of_ble_eq_true rfl) (Nat.le_of_ble_eq_true rfl) dX2_init_1 ?_
  obtain ⟨hb1, hf⟩ := wGd_s hf
  cases (Option.some.inj hf).trans JR
  exact rd_ret X h (by omega) (by omega) dX2_init_4
def fX9_init (n0 : Nat) (g0 : Mm) (c0 : Nat) : Option (Nat × Mm) :=
  wGd (kdC n0 = 20 ∧ slC (n0 + 1) = slC n0 + 8 ∧ n0 + 1 ≤ n0 + 2 ∧ slC (n0 + 1) ≤ slC n0 + 17) (wLe (n0 + 1) fun n1 => wLe (nw g0 n0) fun g2 => wGd (c0 < n1 ∧ c0 < 167 ∧ kdC c0 = 19) (wGd (n0 + 1 < 2 ^ 31) (wLe (st g2 c0 0 0 13 (nI (n0 + 1))) fun g8 => wGd (kdC n1 = 21 ∧ slC (n1 + 1) = slC n1 + 9 ∧ n1 + 1 ≤ n0 + 2 ∧ slC (n1 + 1) ≤ slC n0 + 17) (wLe (n1 + 1) fun n10 => wLe (nw g8 n1) fun g11 => wGd (c0 < n10 ∧ c0 < 167 ∧ kdC c0 = 19) (wGd (n1 + 1 < 2 ^ 31) (wLe (st g11 c0 0 0 14 (nI (n1 + 1))) fun g17 => wGd (n10 ≤ n0 + 2 ∧ slC n10 ≤ slC n0 + 17) (some (n10, g17))))))))
set_option maxHeartbeats 4000000 in
set_option maxRecDepth 20000 in
theorem kX9_init (l : Launch) {k : En} {n0 : Nat} {c0 : Nat} {res : Nat × Mm} {g0 : Mm} (hf : fX9_init n0 g0 c0 = some res) : MtD l yX9_init cX9_init 1 (RmI 1 2 17 30) 2 17 DC k n0 [.ref (k.1 + c0)] g0 res.1 res.2 := by
  refine MtD.of (by decide) rfl (Nat.le_of_ble_eq_true rfl) ?_
  intro p e s m args below meth c ls X h hl
  have X : Cd k p s m args meth c cX9_init 1 RX9 := X
  have hl : lv_has ls 1 [(0, .ref (k.1 + c0))] := hl
  have hc : 0 + n0 = n0 := Nat.zero_add _
  have hz : 0 + slC n0 = slC n0 := Nat.zero_add _
  have JR : res = res := rfl
  unfold fX9_init at hf
  refine lv_aload_n X.x X.b dX9_init_0 rfl (lv_at hl 0 rfl) ?_
  refine rd_obj X hl lk_X9_3 oi_f (Nat.le_of_ble_eq_true rfl) (Nat.le_of_ble_eq_true rfl) dX9_init_1 ?_
  refine lv_aload_n X.x X.b dX9_init_4 rfl (lv_at hl 0 rfl) ?_
  refine lv_bipush (v := 8) X.x X.b dX9_init_5 (by decide) ?_
  obtain ⟨⟨hk5, ha6a, ha6b, ha6c⟩, hf⟩ := wGd_s hf
  obtain ⟨n1, e3, hf⟩ := wLe_s hf
  obtain ⟨g2, e4, hf⟩ := wLe_s hf
  have hc24 : 1 + n0 = n1 := by omega
  have hz25 : 8 + slC n0 = slC n1 := by rw [e3]; omega
  refine rd_newa (cells' := 1) (slots' := 8) (t := 20) (N := 8) X h hk5 (fun _ => rfl) (by decide) (by decide) (by decide) arr_int rfl rfl ⟨by show 1 ≤ 2; omega, by show 8 ≤ 17; omega⟩ dX9_init_7 (fun H h => ?_)
  have hc := hc24
  have hz := hz25
  rw [← e3, ← e4] at h
  obtain ⟨ha7, hf⟩ := wGd_s hf
  obtain ⟨hb23, hf⟩ := wGd_s hf
  obtain ⟨g8, e9, hf⟩ := wLe_s hf
  refine rd_put (t := 19) (ci := 8) (j := 13) (C := RX9) (T := TX9) (N := 15) (x := nI (n0 + 1)) (val := .ref (k.1 + n0)) X h ha7 rfl rfl (by decide) iX9 tyX9_ok nmX9 rfl rfl rfl (Nat.le_of_ble_eq_true rfl) lk_X9_11 e9 (congrArg (fun z => (Sum.inr (8, [.int (g2 c0 0 0 0), .int (g2 c0 0 0 1), .int (g2 c0 0 0 2), .int (g2 c0 0 0 3), .int (g2 c0 0 0 4), .int (g2 c0 0 0 5), .int (g2 c0 0 0 6), .int (g2 c0 0 0 7), .int (g2 c0 0 0 8), .int (g2 c0 0 0 9), .int (g2 c0 0 0 10), .int (g2 c0 0 0 11), .int (g2 c0 0 0 12), z, rD k (g2 c0 0 0 14)]) : va_E)) (rD_set k hb23)) dX9_init_9 (fun H locs h => ?_)
  refine lv_aload_n X.x X.b dX9_init_12 rfl (lv_at hl 0 rfl) ?_
  refine lv_bipush (v := 9) X.x X.b dX9_init_13 (by decide) ?_
  obtain ⟨⟨hk14, ha15a, ha15b, ha15c⟩, hf⟩ := wGd_s hf
  obtain ⟨n10, e12, hf⟩ := wLe_s hf
  obtain ⟨g11, e13, hf⟩ := wLe_s hf
  have hc21 : 2 + n0 = n10 := by omega
  have hz22 : 17 + slC n0 = slC n10 := by rw [e12]; omega
  refine rd_newa (cells' := 2) (slots' := 17) (t := 21) (N := 9) X h hk14 (fun _ => rfl) (by decide) (by decide) (by decide) arr_int rfl rfl ⟨by show 2 ≤ 2; omega, by show 17 ≤ 17; omega⟩ dX9_init_15 (fun H h => ?_)
  have hc := hc21
  have hz := hz22
  rw [← e12, ← e13] at h
  obtain ⟨ha16, hf⟩ := wGd_s hf
  obtain ⟨hb20, hf⟩ := wGd_s hf
  obtain ⟨g17, e18, hf⟩ := wLe_s hf
  refine rd_put (t := 19) (ci := 8) (j := 14) (C := RX9) (T := TX9) (N := 15) (x := nI (n1 + 1)) (val := .ref (k.1 + n1)) X h ha16 rfl rfl (by decide) iX9 tyX9_ok nmX9 rfl rfl rfl (Nat.le_of_ble_eq_true rfl) lk_X9_17 e18 (congrArg (fun z => (Sum.inr (8, [.int (g11 c0 0 0 0), .int (g11 c0 0 0 1), .int (g11 c0 0 0 2), .int (g11 c0 0 0 3), .int (g11 c0 0 0 4), .int (g11 c0 0 0 5), .int (g11 c0 0 0 6), .int (g11 c0 0 0 7), .int (g11 c0 0 0 8), .int (g11 c0 0 0 9), .int (g11 c0 0 0 10), .int (g11 c0 0 0 11), .int (g11 c0 0 0 12), rD k (g11 c0 0 0 13), z]) : va_E)) (rD_set k hb20)) dX9_init_17 (fun H locs h => ?_)
  obtain ⟨hb19, hf⟩ := wGd_s hf
  cases (Option.some.inj hf).trans JR
  exact rd_ret X h (by omega) (by omega) dX9_init_20
def fX0_init (n0 : Nat) (g0 : Mm) (c0 : Nat) : Option (Nat × Mm) :=
  wGd (kdC n0 = 25 ∧ slC (n0 + 1) = slC n0 + 40 ∧ n0 + 1 ≤ n0 + 3 ∧ slC (n0 + 1) ≤ slC n0 + 120) (wLe (n0 + 1) fun n1 => wLe (nw g0 n0) fun g2 => wGd (c0 < n1 ∧ c0 < 167 ∧ kdC c0 = 24) (wGd (n0 + 1 < 2 ^ 31) (wLe (st g2 c0 0 0 1 (nI (n0 + 1))) fun g8 => wGd (kdC n1 = 26 ∧ slC (n1 + 1) = slC n1 + 40 ∧ n1 + 1 ≤ n0 + 3 ∧ slC (n1 + 1) ≤ slC n0 + 120) (wLe (n1 + 1) fun n10 => wLe (nw g8 n1) fun g11 => wGd (c0 < n10 ∧ c0 < 167 ∧ kdC c0 = 24) (wGd (n1 + 1 < 2 ^ 31) (wLe (st g11 c0 0 0 2 (nI (n1 + 1))) fun g17 => wGd (kdC n10 = 27 ∧ slC (n10 + 1) = slC n10 + 40 ∧ n10 + 1 ≤ n0 + 3 ∧ slC (n10 + 1) ≤ slC n0 + 120) (wLe (n10 + 1) fun n19 => wLe (nw g17 n10) fun g20 => wGd (c0 < n19 ∧ c0 < 167 ∧ kdC c0 = 24) (wGd (n10 + 1 < 2 ^ 31) (wLe (st g20 c0 0 0 3 (nI (n10 + 1))) fun g26 => wGd (n19 ≤ n0 + 3 ∧ slC n19 ≤ slC n0 + 120) (some (n19, g26)))))))))))
set_option maxHeartbeats 4000000 in
set_option maxRecDepth 20000 in
theorem kX0_init (l : Launch) {k : En} {n0 : Nat} {c0 : Nat} {res : Nat × Mm} {g0 : Mm} (hf : fX0_init n0 g0 c0 = some res) : MtD l yX0_init cX0_init 1 (RmI 1 3 120 30) 3 120 DC k n0 [.ref (k.1 + c0)] g0 res.1 res.2 := by
  refine MtD.of (by decide) rfl (Nat.le_of_ble_eq_true rfl) ?_
  intro p e s m args below meth c ls X h hl
  have X : Cd k p s m args meth c cX0_init 1 RX0 := X
  have hl : lv_has ls 1 [(0, .ref (k.1 + c0))] := hl
  have hc : 0 + n0 = n0 := Nat.zero_add _
  have hz : 0 + slC n0 = slC n0 := Nat.zero_add _
  have JR : res = res := rfl
  unfold fX0_init at hf
  refine lv_aload_n X.x X.b dX0_init_0 rfl (lv_at hl 0 rfl) ?_
  refine rd_obj X hl lk_X0_3 oi_f (Nat.le_of_ble_eq_true rfl) (Nat.le_of_ble_eq_true rfl) dX0_init_1 ?_
  refine lv_aload_n X.x X.b dX0_init_4 rfl (lv_at hl 0 rfl) ?_
  refine lv_bipush (v := 40) X.x X.b dX0_init_5 (by decide) ?_
  obtain ⟨⟨hk5, ha6a, ha6b, ha6c⟩, hf⟩ := wGd_s hf
  obtain ⟨n1, e3, hf⟩ := wLe_s hf
  obtain ⟨g2, e4, hf⟩ := wLe_s hf
  have hc36 : 1 + n0 = n1 := by omega
  have hz37 : 40 + slC n0 = slC n1 := by rw [e3]; omega
  refine rd_newa (cells' := 1) (slots' := 40) (t := 25) (N := 40) X h hk5 (fun _ => rfl) (by decide) (by decide) (by decide) arr_int rfl rfl ⟨by show 1 ≤ 3; omega, by show 40 ≤ 120; omega⟩ dX0_init_7 (fun H h => ?_)
  have hc := hc36
  have hz := hz37
  rw [← e3, ← e4] at h
  obtain ⟨ha7, hf⟩ := wGd_s hf
  obtain ⟨hb35, hf⟩ := wGd_s hf
  obtain ⟨g8, e9, hf⟩ := wLe_s hf
  refine rd_put (t := 24) (ci := 0) (j := 1) (C := RX0) (T := TX0) (N := 4) (x := nI (n0 + 1)) (val := .ref (k.1 + n0)) X h ha7 rfl rfl (by decide) iX0 tyX0_ok nmX0 rfl rfl rfl (Nat.le_of_ble_eq_true rfl) lk_X0_11 e9 (congrArg (fun z => (Sum.inr (0, [.int (g2 c0 0 0 0), z, rD k (g2 c0 0 0 2), rD k (g2 c0 0 0 3)]) : va_E)) (rD_set k hb35)) dX0_init_9 (fun H locs h => ?_)
  refine lv_aload_n X.x X.b dX0_init_12 rfl (lv_at hl 0 rfl) ?_
  refine lv_bipush (v := 40) X.x X.b dX0_init_13 (by decide) ?_
  obtain ⟨⟨hk14, ha15a, ha15b, ha15c⟩, hf⟩ := wGd_s hf
  obtain ⟨n10, e12, hf⟩ := wLe_s hf
  obtain ⟨g11, e13, hf⟩ := wLe_s hf
  have hc33 : 2 + n0 = n10 := by omega
  have hz34 : 80 + slC n0 = slC n10 := by rw [e12]; omega
  refine rd_newa (cells' := 2) (slots' := 80) (t := 26) (N := 40) X h hk14 (fun _ => rfl) (by decide) (by decide) (by decide) arr_int rfl rfl ⟨by show 2 ≤ 3; omega, by show 80 ≤ 120; omega⟩ dX0_init_15 (fun H h => ?_)
  have hc := hc33
  have hz := hz34
  rw [← e12, ← e13] at h
  obtain ⟨ha16, hf⟩ := wGd_s hf
  obtain ⟨hb32, hf⟩ := wGd_s hf
  obtain ⟨g17, e18, hf⟩ := wLe_s hf
  refine rd_put (t := 24) (ci := 0) (j := 2) (C := RX0) (T := TX0) (N := 4) (x := nI (n1 + 1)) (val := .ref (k.1 + n1)) X h ha16 rfl rfl (by decide) iX0 tyX0_ok nmX0 rfl rfl rfl (Nat.le_of_ble_eq_true rfl) lk_X0_15 e18 (congrArg (fun z => (Sum.inr (0, [.int (g11 c0 0 0 0), rD k (g11 c0 0 0 1), z, rD k (g11 c0 0 0 3)]) : va_E)) (rD_set k hb32)) dX0_init_17 (fun H locs h => ?_)
  refine lv_aload_n X.x X.b dX0_init_20 rfl (lv_at hl 0 rfl) ?_
  refine lv_bipush (v := 40) X.x X.b dX0_init_21 (by decide) ?_
  obtain ⟨⟨hk23, ha24a, ha24b, ha24c⟩, hf⟩ := wGd_s hf
  obtain ⟨n19, e21, hf⟩ := wLe_s hf
  obtain ⟨g20, e22, hf⟩ := wLe_s hf
  have hc30 : 3 + n0 = n19 := by omega
  have hz31 : 120 + slC n0 = slC n19 := by rw [e21]; omega
  refine rd_newa (cells' := 3) (slots' := 120) (t := 27) (N := 40) X h hk23 (fun _ => rfl) (by decide) (by decide) (by decide) arr_int rfl rfl ⟨by show 3 ≤ 3; omega, by show 120 ≤ 120; omega⟩ dX0_init_23 (fun H h => ?_)
  have hc := hc30
  have hz := hz31
  rw [← e21, ← e22] at h
  obtain ⟨ha25, hf⟩ := wGd_s hf
  obtain ⟨hb29, hf⟩ := wGd_s hf
  obtain ⟨g26, e27, hf⟩ := wLe_s hf
  refine rd_put (t := 24) (ci := 0) (j := 3) (C := RX0) (T := TX0) (N := 4) (x := nI (n10 + 1)) (val := .ref (k.1 + n10)) X h ha25 rfl rfl (by decide) iX0 tyX0_ok nmX0 rfl rfl rfl (Nat.le_of_ble_eq_true rfl) lk_X0_18 e27 (congrArg (fun z => (Sum.inr (0, [.int (g20 c0 0 0 0), rD k (g20 c0 0 0 1), rD k (g20 c0 0 0 2), z]) : va_E)) (rD_set k hb29)) dX0_init_25 (fun H locs h => ?_)
  obtain ⟨hb28, hf⟩ := wGd_s hf
  cases (Option.some.inj hf).trans JR
  exact rd_ret X h (by omega) (by omega) dX0_init_28
def fX5_init (n0 : Nat) (g0 : Mm) (c0 : Nat) : Option (Nat × Mm) :=
  wGd (kdC n0 = 4 ∧ slC (n0 + 1) = slC n0 + 160 ∧ n0 + 1 ≤ n0 + 1 ∧ slC (n0 + 1) ≤ slC n0 + 160) (wLe (n0 + 1) fun n1 => wLe (nw g0 n0) fun g2 => wGd (c0 < n1 ∧ c0 < 167 ∧ kdC c0 = 3) (wGd (n0 + 1 < 2 ^ 31) (wLe (st g2 c0 0 0 0 (nI (n0 + 1))) fun g8 => wGd (n1 ≤ n0 + 1 ∧ slC n1 ≤ slC n0 + 160) (some (n1, g8)))))
set_option maxHeartbeats 4000000 in
set_option maxRecDepth 20000 in
theorem kX5_init (l : Launch) {k : En} {n0 : Nat} {c0 : Nat} {res : Nat × Mm} {g0 : Mm} (hf : fX5_init n0 g0 c0 = some res) : MtD l yX5_init cX5_init 1 (RmI 1 1 160 30) 1 160 DC k n0 [.ref (k.1 + c0)] g0 res.1 res.2 := by
  refine MtD.of (by decide) rfl (Nat.le_of_ble_eq_true rfl) ?_
  intro p e s m args below meth c ls X h hl
  have X : Cd k p s m args meth c cX5_init 1 RX5 := X
  have hl : lv_has ls 1 [(0, .ref (k.1 + c0))] := hl
  have hc : 0 + n0 = n0 := Nat.zero_add _
  have hz : 0 + slC n0 = slC n0 := Nat.zero_add _
  have JR : res = res := rfl
  unfold fX5_init at hf
  refine lv_aload_n X.x X.b dX5_init_0 rfl (lv_at hl 0 rfl) ?_
  refine rd_obj X hl lk_X5_1 oi_f (Nat.le_of_ble_eq_true rfl) (Nat.le_of_ble_eq_true rfl) dX5_init_1 ?_
  refine lv_aload_n X.x X.b dX5_init_4 rfl (lv_at hl 0 rfl) ?_
  refine lv_sipush (v := 160) X.x X.b dX5_init_5 (by decide) ?_
  obtain ⟨⟨hk5, ha6a, ha6b, ha6c⟩, hf⟩ := wGd_s hf
  obtain ⟨n1, e3, hf⟩ := wLe_s hf
  obtain ⟨g2, e4, hf⟩ := wLe_s hf
  have hc12 : 1 + n0 = n1 := by omega
  have hz13 : 160 + slC n0 = slC n1 := by rw [e3]; omega
  refine rd_newa (cells' := 1) (slots' := 160) (t := 4) (N := 160) X h hk5 (fun _ => rfl) (by decide) (by decide) (by decide) arr_int rfl rfl ⟨by show 1 ≤ 1; omega, by show 160 ≤ 160; omega⟩ dX5_init_8 (fun H h => ?_)
  have hc := hc12
  have hz := hz13
  rw [← e3, ← e4] at h
  obtain ⟨ha7, hf⟩ := wGd_s hf
  obtain ⟨hb11, hf⟩ := wGd_s hf
  obtain ⟨g8, e9, hf⟩ := wLe_s hf
  refine rd_put (t := 3) (ci := 4) (j := 0) (C := RX5) (T := TX5) (N := 7) (x := nI (n0 + 1)) (val := .ref (k.1 + n0)) X h ha7 rfl rfl (by decide) iX5 tyX5_ok nmX5 rfl rfl rfl (Nat.le_of_ble_eq_true rfl) lk_X5_9 e9 (congrArg (fun z => (Sum.inr (4, [z, .int (g2 c0 0 0 1), .int (g2 c0 0 0 2), .int (g2 c0 0 0 3), .int (g2 c0 0 0 4), .int (g2 c0 0 0 5), rqC k (g2 c0 0 0 6)]) : va_E)) (rD_set k hb11)) dX5_init_10 (fun H locs h => ?_)
  obtain ⟨hb10, hf⟩ := wGd_s hf
  cases (Option.some.inj hf).trans JR
  exact rd_ret X h (by omega) (by omega) dX5_init_13
def fX6_init (n0 : Nat) (g0 : Mm) (c0 : Nat) : Option (Nat × Mm) :=
  wGd (kdC n0 = 6 ∧ slC (n0 + 1) = slC n0 + 160 ∧ n0 + 1 ≤ n0 + 3 ∧ slC (n0 + 1) ≤ slC n0 + 323) (wLe (n0 + 1) fun n1 => wLe (nw g0 n0) fun g2 => wGd (c0 < n1 ∧ c0 < 167 ∧ kdC c0 = 5) (wGd (n0 + 1 < 2 ^ 31) (wLe (st g2 c0 0 0 0 (nI (n0 + 1))) fun g8 => wGd (kdC n1 = 7 ∧ slC (n1 + 1) = slC n1 + 3 ∧ n1 + 1 ≤ n0 + 3 ∧ slC (n1 + 1) ≤ slC n0 + 323) (wLe (n1 + 1) fun n10 => wLe (nw g8 n1) fun g11 => wGd (c0 < n10 ∧ c0 < 167 ∧ kdC c0 = 5) (wGd (n1 + 1 < 2 ^ 31) (wLe (st g11 c0 0 0 1 (nI (n1 + 1))) fun g17 => wGd (kdC n10 = 8 ∧ slC (n10 + 1) = slC n10 + 160 ∧ n10 + 1 ≤ n0 + 3 ∧ slC (n10 + 1) ≤ slC n0 + 323) (wLe (n10 + 1) fun n19 => wLe (nw g17 n10) fun g20 => wGd (c0 < n19 ∧ c0 < 167 ∧ kdC c0 = 5) (wGd (n10 + 1 < 2 ^ 31) (wLe (st g20 c0 0 0 2 (nI (n10 + 1))) fun g26 => wGd (n19 ≤ n0 + 3 ∧ slC n19 ≤ slC n0 + 323) (some (n19, g26)))))))))))
set_option maxHeartbeats 4000000 in
set_option maxRecDepth 20000 in
theorem kX6_init (l : Launch) {k : En} {n0 : Nat} {c0 : Nat} {res : Nat × Mm} {g0 : Mm} (hf : fX6_init n0 g0 c0 = some res) : MtD l yX6_init cX6_init 1 (RmI 1 3 323 30) 3 323 DC k n0 [.ref (k.1 + c0)] g0 res.1 res.2 := by
  refine MtD.of (by decide) rfl (Nat.le_of_ble_eq_true rfl) ?_
  intro p e s m args below meth c ls X h hl
  have X : Cd k p s m args meth c cX6_init 1 RX6 := X
  have hl : lv_has ls 1 [(0, .ref (k.1 + c0))] := hl
  have hc : 0 + n0 = n0 := Nat.zero_add _
  have hz : 0 + slC n0 = slC n0 := Nat.zero_add _
  have JR : res = res := rfl
  unfold fX6_init at hf
  refine lv_aload_n X.x X.b dX6_init_0 rfl (lv_at hl 0 rfl) ?_
  refine rd_obj X hl lk_X6_3 oi_f (Nat.le_of_ble_eq_true rfl) (Nat.le_of_ble_eq_true rfl) dX6_init_1 ?_
  refine lv_aload_n X.x X.b dX6_init_4 rfl (lv_at hl 0 rfl) ?_
  refine lv_sipush (v := 160) X.x X.b dX6_init_5 (by decide) ?_
  obtain ⟨⟨hk5, ha6a, ha6b, ha6c⟩, hf⟩ := wGd_s hf
  obtain ⟨n1, e3, hf⟩ := wLe_s hf
  obtain ⟨g2, e4, hf⟩ := wLe_s hf
  have hc36 : 1 + n0 = n1 := by omega
  have hz37 : 160 + slC n0 = slC n1 := by rw [e3]; omega
  refine rd_newa (cells' := 1) (slots' := 160) (t := 6) (N := 160) X h hk5 (fun _ => rfl) (by decide) (by decide) (by decide) arr_int rfl rfl ⟨by show 1 ≤ 3; omega, by show 160 ≤ 323; omega⟩ dX6_init_8 (fun H h => ?_)
  have hc := hc36
  have hz := hz37
  rw [← e3, ← e4] at h
  obtain ⟨ha7, hf⟩ := wGd_s hf
  obtain ⟨hb35, hf⟩ := wGd_s hf
  obtain ⟨g8, e9, hf⟩ := wLe_s hf
  refine rd_put (t := 5) (ci := 5) (j := 0) (C := RX6) (T := TX6) (N := 4) (x := nI (n0 + 1)) (val := .ref (k.1 + n0)) X h ha7 rfl rfl (by decide) iX6 tyX6_ok nmX6 rfl rfl rfl (Nat.le_of_ble_eq_true rfl) lk_X6_11 e9 (congrArg (fun z => (Sum.inr (5, [z, rD k (g2 c0 0 0 1), rD k (g2 c0 0 0 2), .int (g2 c0 0 0 3)]) : va_E)) (rD_set k hb35)) dX6_init_10 (fun H locs h => ?_)
  refine lv_aload_n X.x X.b dX6_init_13 rfl (lv_at hl 0 rfl) ?_
  refine lv_iconst (v := 3) X.x X.b dX6_init_14 (by decide) ?_
  obtain ⟨⟨hk14, ha15a, ha15b, ha15c⟩, hf⟩ := wGd_s hf
  obtain ⟨n10, e12, hf⟩ := wLe_s hf
  obtain ⟨g11, e13, hf⟩ := wLe_s hf
  have hc33 : 2 + n0 = n10 := by omega
  have hz34 : 163 + slC n0 = slC n10 := by rw [e12]; omega
  refine rd_newa (cells' := 2) (slots' := 163) (t := 7) (N := 3) X h hk14 (fun _ => rfl) (by decide) (by decide) (by decide) arr_int rfl rfl ⟨by show 2 ≤ 3; omega, by show 163 ≤ 323; omega⟩ dX6_init_15 (fun H h => ?_)
  have hc := hc33
  have hz := hz34
  rw [← e12, ← e13] at h
  obtain ⟨ha16, hf⟩ := wGd_s hf
  obtain ⟨hb32, hf⟩ := wGd_s hf
  obtain ⟨g17, e18, hf⟩ := wLe_s hf
  refine rd_put (t := 5) (ci := 5) (j := 1) (C := RX6) (T := TX6) (N := 4) (x := nI (n1 + 1)) (val := .ref (k.1 + n1)) X h ha16 rfl rfl (by decide) iX6 tyX6_ok nmX6 rfl rfl rfl (Nat.le_of_ble_eq_true rfl) lk_X6_15 e18 (congrArg (fun z => (Sum.inr (5, [rD k (g11 c0 0 0 0), z, rD k (g11 c0 0 0 2), .int (g11 c0 0 0 3)]) : va_E)) (rD_set k hb32)) dX6_init_17 (fun H locs h => ?_)
  refine lv_aload_n X.x X.b dX6_init_20 rfl (lv_at hl 0 rfl) ?_
  refine lv_sipush (v := 160) X.x X.b dX6_init_21 (by decide) ?_
  obtain ⟨⟨hk23, ha24a, ha24b, ha24c⟩, hf⟩ := wGd_s hf
  obtain ⟨n19, e21, hf⟩ := wLe_s hf
  obtain ⟨g20, e22, hf⟩ := wLe_s hf
  have hc30 : 3 + n0 = n19 := by omega
  have hz31 : 323 + slC n0 = slC n19 := by rw [e21]; omega
  refine rd_newa (cells' := 3) (slots' := 323) (t := 8) (N := 160) X h hk23 (fun _ => rfl) (by decide) (by decide) (by decide) arr_int rfl rfl ⟨by show 3 ≤ 3; omega, by show 323 ≤ 323; omega⟩ dX6_init_24 (fun H h => ?_)
  have hc := hc30
  have hz := hz31
  rw [← e21, ← e22] at h
  obtain ⟨ha25, hf⟩ := wGd_s hf
  obtain ⟨hb29, hf⟩ := wGd_s hf
  obtain ⟨g26, e27, hf⟩ := wLe_s hf
  refine rd_put (t := 5) (ci := 5) (j := 2) (C := RX6) (T := TX6) (N := 4) (x := nI (n10 + 1)) (val := .ref (k.1 + n10)) X h ha25 rfl rfl (by decide) iX6 tyX6_ok nmX6 rfl rfl rfl (Nat.le_of_ble_eq_true rfl) lk_X6_18 e27 (congrArg (fun z => (Sum.inr (5, [rD k (g20 c0 0 0 0), rD k (g20 c0 0 0 1), z, .int (g20 c0 0 0 3)]) : va_E)) (rD_set k hb29)) dX6_init_26 (fun H locs h => ?_)
  obtain ⟨hb28, hf⟩ := wGd_s hf
  cases (Option.some.inj hf).trans JR
  exact rd_ret X h (by omega) (by omega) dX6_init_29
def fX7_init (n0 : Nat) (g0 : Mm) (c0 : Nat) : Option (Nat × Mm) :=
  wGd (c0 < n0 ∧ c0 < 167 ∧ kdC c0 = 29) (wLe (st g0 c0 0 0 0 (-1 : Int32)) fun g2 => wGd (kdC n0 = 30 ∧ slC (n0 + 1) = slC n0 + 40 ∧ n0 + 1 ≤ n0 + 1 ∧ slC (n0 + 1) ≤ slC n0 + 40) (wLe (n0 + 1) fun n4 => wLe (nw g2 n0) fun g5 => wGd (c0 < n4 ∧ c0 < 167 ∧ kdC c0 = 29) (wGd (n0 + 1 < 2 ^ 31) (wLe (st g5 c0 0 0 2 (nI (n0 + 1))) fun g11 => wGd (n4 ≤ n0 + 1 ∧ slC n4 ≤ slC n0 + 40) (some (n4, g11))))))
set_option maxHeartbeats 4000000 in
set_option maxRecDepth 20000 in
theorem kX7_init (l : Launch) {k : En} {n0 : Nat} {c0 : Nat} {res : Nat × Mm} {g0 : Mm} (hf : fX7_init n0 g0 c0 = some res) : MtD l yX7_init cX7_init 1 (RmI 1 1 40 30) 1 40 DC k n0 [.ref (k.1 + c0)] g0 res.1 res.2 := by
  refine MtD.of (by decide) rfl (Nat.le_of_ble_eq_true rfl) ?_
  intro p e s m args below meth c ls X h hl
  have X : Cd k p s m args meth c cX7_init 1 RX7 := X
  have hl : lv_has ls 1 [(0, .ref (k.1 + c0))] := hl
  have hc : 0 + n0 = n0 := Nat.zero_add _
  have hz : 0 + slC n0 = slC n0 := Nat.zero_add _
  have JR : res = res := rfl
  unfold fX7_init at hf
  refine lv_aload_n X.x X.b dX7_init_0 rfl (lv_at hl 0 rfl) ?_
  refine rd_obj X hl lk_X7_1 oi_f (Nat.le_of_ble_eq_true rfl) (Nat.le_of_ble_eq_true rfl) dX7_init_1 ?_
  refine lv_aload_n X.x X.b dX7_init_4 rfl (lv_at hl 0 rfl) ?_
  refine lv_iconst (v := (-1)) X.x X.b dX7_init_5 (by decide) ?_
  obtain ⟨ha1, hf⟩ := wGd_s hf
  obtain ⟨g2, e3, hf⟩ := wLe_s hf
  refine rd_put (t := 29) (ci := 6) (j := 0) (C := RX7) (T := TX7) (N := 3) (x := (-1 : Int32)) (val := .int (-1 : Int32)) X h ha1 rfl rfl (by decide) iX7 tyX7_ok nmX7 rfl rfl rfl (Nat.le_of_ble_eq_true rfl) lk_X7_9 e3 rfl dX7_init_6 (fun H locs h => ?_)
  refine lv_aload_n X.x X.b dX7_init_9 rfl (lv_at hl 0 rfl) ?_
  refine lv_bipush (v := 40) X.x X.b dX7_init_10 (by decide) ?_
  obtain ⟨⟨hk8, ha9a, ha9b, ha9c⟩, hf⟩ := wGd_s hf
  obtain ⟨n4, e6, hf⟩ := wLe_s hf
  obtain ⟨g5, e7, hf⟩ := wLe_s hf
  have hc15 : 1 + n0 = n4 := by omega
  have hz16 : 40 + slC n0 = slC n4 := by rw [e6]; omega
  refine rd_newa (cells' := 1) (slots' := 40) (t := 30) (N := 40) X h hk8 (fun _ => rfl) (by decide) (by decide) (by decide) arr_int rfl rfl ⟨by show 1 ≤ 1; omega, by show 40 ≤ 40; omega⟩ dX7_init_12 (fun H h => ?_)
  have hc := hc15
  have hz := hz16
  rw [← e6, ← e7] at h
  obtain ⟨ha10, hf⟩ := wGd_s hf
  obtain ⟨hb14, hf⟩ := wGd_s hf
  obtain ⟨g11, e12, hf⟩ := wLe_s hf
  refine rd_put (t := 29) (ci := 6) (j := 2) (C := RX7) (T := TX7) (N := 3) (x := nI (n0 + 1)) (val := .ref (k.1 + n0)) X h ha10 rfl rfl (by decide) iX7 tyX7_ok nmX7 rfl rfl rfl (Nat.le_of_ble_eq_true rfl) lk_X7_13 e12 (congrArg (fun z => (Sum.inr (6, [.int (g5 c0 0 0 0), .int (g5 c0 0 0 1), z]) : va_E)) (rD_set k hb14)) dX7_init_14 (fun H locs h => ?_)
  obtain ⟨hb13, hf⟩ := wGd_s hf
  cases (Option.some.inj hf).trans JR
  exact rd_ret X h (by omega) (by omega) dX7_init_17
def fX4_init_B137 (n0 : Nat) (n : Nat) (g : Mm) (c0 : Nat) (i1 : Nat) (x2 : Int32) : Option ((Nat × Mm × Int32) ⊕ (Nat × Mm)) :=
  if (16 : Int32) ≤ x2 then (wEx (wGd (n ≤ n0 + 61 ∧ slC n ≤ slC n0 + 546) (some (n, g)))) else (wGd (c0 < n ∧ c0 < 167 ∧ kdC c0 = 9) (wGn (g c0 0 0 12) fun d103 => wGd (kdC n = 22 ∧ slC (n + 1) = slC n + 6 ∧ n + 1 ≤ n0 + 61 ∧ slC (n + 1) ≤ slC n0 + 546) (wLe (n + 1) fun n105 => wLe (nw g n) fun g106 => wB2 (fX1_init n105 g106 n) fun n111 g112 => wGd (n111 = n105 + 0 ∧ slC n111 = slC n105 + 0 ∧ n111 ≤ n0 + 61 ∧ slC n111 ≤ slC n0 + 546) (wGd (d103 < n111 ∧ d103 < 167 ∧ kdC d103 = 17) (wGd (n < n111 ∧ n < 167 ∧ kdC n = 22) (wGd (n + 1 < 2 ^ 31) (wGi x2 16 (wLe (st g112 d103 0 0 (x2).toNatClampNeg (nI (n + 1))) fun g118 => wLe (x2 + 1) fun y123 => some (.inl (n111, g118, y123))))))))))
def fX4_init_L137 (n0 : Nat) (n : Nat) (g : Mm) (c0 : Nat) (i1 : Nat) (x2 : Int32) : Option (Nat × Mm) :=
  wLp (fun q => fX4_init_B137 n0 q.1 q.2.1 c0 i1 q.2.2) 1000 (n, g, x2)
set_option maxHeartbeats 4000000 in
set_option maxRecDepth 20000 in
theorem wX4_init_L137 {k : En} {n0 : Nat} {c0 : Nat} {i1 : Nat} (hi1 : i1 < 6) {res : Nat × Mm} (X : Cd k p s m args meth c cX4_init 3 RX4) {r : Nat × Mm} (JR : r = res) :
    ∀ (fu : Nat) (n : Nat) (g : Mm) (x2 : Int32) (ce sl : Nat) (H : Heap) (locs : List Loc) (ls : Array Slot), ce + n0 = n → sl + slC n0 = slC n → Hd DC k n s g H locs → lv_has ls 3 [(0, .ref (k.1 + c0)), (2, .int x2)] → wLp (fun q => fX4_init_B137 n0 q.1 q.2.1 c0 i1 q.2.2) fu (n, g, x2) = some r → W p l e (RmI 2 61 546 50) s m args below meth c H locs ce sl (FinD DC k args s below 61 546 res.1 res.2) (F0 m 137 ls []) := by
  intro fu
  induction fu with
  | zero => intro n g x2 ce sl H locs ls hc hz h hl hf; exact (wLp_0 hf).elim
  | succ fu ih1 =>
    intro n g x2 ce sl H locs ls hc hz h hl hf
    obtain ⟨r1, hf, hr⟩ := wLp_s hf
    have J1 : ∀ (n : Nat) (g : Mm) (x2 : Int32), r1 = .inl (n, g, x2) → ∀ (ce sl : Nat) (H : Heap) (locs : List Loc) (ls : Array Slot), ce + n0 = n → sl + slC n0 = slC n → Hd DC k n s g H locs → lv_has ls 3 [(0, .ref (k.1 + c0)), (2, .int x2)] → W p l e (RmI 2 61 546 50) s m args below meth c H locs ce sl (FinD DC k args s below 61 546 res.1 res.2) (F0 m 137 ls []) := fun n g x2 q ce sl H locs ls hc hz h hl => by subst q; exact ih1 _ _ _ _ _ _ _ _ hc hz h hl hr
    have JR : ∀ t1, r1 = .inr t1 → t1 = res := fun t1 q => by subst q; obtain rfl := Option.some.inj hr; exact JR
    have hf : fX4_init_B137 n0 n g c0 i1 x2 = some r1 := hf
    unfold fX4_init_B137 at hf
    refine lv_iload_n X.x X.b dX4_init_137 rfl (lv_at hl 1 rfl) ?_
    refine lv_bipush (v := 16) X.x X.b dX4_init_138 (by decide) ?_
    refine lv_icmp_ge (tgt := 162) X.x X.b dX4_init_140 (by decide) (fun c98 => ?_) (fun c98 => ?_)
    · have hf := wT c98 hf
      obtain ⟨t99, hf, e100⟩ := wEx_s hf
      have JR := JR t99 e100
      obtain ⟨hb101, hf⟩ := wGd_s hf
      cases (Option.some.inj hf).trans JR
      exact rd_ret X h (by omega) (by omega) dX4_init_162
    · have hf := wF c98 hf
      refine lv_aload_n X.x X.b dX4_init_143 rfl (lv_at hl 0 rfl) ?_
      obtain ⟨ha102, hf⟩ := wGd_s hf
      obtain ⟨d103, e104, hf⟩ := wGn_s hf
      refine rd_get (t := 9) (ci := 3) (j := 12) (C := RX4) (T := TX4) (N := 14) (val := .ref (k.1 + d103)) X h ha102 rfl rfl (by decide) iX4 lk_X4_40 (congrArg some (rD_get k e104)) dX4_init_144 ?_
      refine lv_iload_n X.x X.b dX4_init_147 rfl (lv_at hl 1 rfl) ?_
      obtain ⟨⟨hk109, ha110a, ha110b, ha110c⟩, hf⟩ := wGd_s hf
      obtain ⟨n105, e107, hf⟩ := wLe_s hf
      obtain ⟨g106, e108, hf⟩ := wLe_s hf
      have hc125 : (ce + 1) + n0 = n105 := by omega
      have hz126 : (sl + 6) + slC n0 = slC n105 := by rw [e107]; omega
      refine rd_new (cells' := (ce + 1)) (slots' := (sl + 6)) (t := 22) (C := RX1) (T := TX1) (N := 6) (ci := 1) X h hk109 rfl rfl iX1 tyX1_ok (fun j hj => match j, hj with | 0, _ => rfl | 1, _ => rfl | 2, _ => rfl | 3, _ => rfl | 4, _ => rfl | 5, _ => rfl | j + 6, hj => absurd hj (by omega)) cl_X4_38 in_X1 ini_X1 rfl rfl ⟨by show (ce + 1) ≤ 61; omega, by show (sl + 6) ≤ 546; omega⟩ dX4_init_148 (fun H h => ?_)
      have hc := hc125
      have hz := hz126
      rw [← e107, ← e108] at h
      refine lv_dup X.x X.b dX4_init_151 rfl ?_
      obtain ⟨n111, g112, e113, hf⟩ := wB2_s hf
      obtain ⟨⟨hb114a, hb114b, hb114c, hb114d⟩, hf⟩ := wGd_s hf
      have hc115 : ((ce + 1) + 0) + n0 = n111 := by omega
      have hz116 : ((sl + 6) + 0) + slC n0 = slC n111 := by omega
      refine rd_calli (cells' := ((ce + 1) + 0)) (slots' := ((sl + 6) + 0)) (mc := 0) (ms := 0) (As := []) (n1 := n111) (g1 := g112) X h (kX1_init l  e113) miv_X1_init lk_X4_54 ⟨rfl, rfl⟩ ⟨(Nat.le_of_ble_eq_true rfl), (Nat.le_of_ble_eq_true rfl)⟩ rfl hl rfl (Nat.le_of_ble_eq_true rfl) rfl rfl ⟨by show ((ce + 1) + 0) ≤ 61; omega, by show ((sl + 6) + 0) ≤ 546; omega⟩ dX4_init_152 (fun H locs h => ?_)
      have hc := hc115
      have hz := hz116
      obtain ⟨ha120, hf⟩ := wGd_s hf
      obtain ⟨ha121, hf⟩ := wGd_s hf
      obtain ⟨hb122, hf⟩ := wGd_s hf
      obtain ⟨b117, hf⟩ := wGi_s hf
      obtain ⟨g118, e119, hf⟩ := wLe_s hf
      refine rd_aast (t := 17) (N := 16) (q := 3) (t1 := 22) (ci := 1) (r := (RX1, TX1, 6)) X h ha120 (fun _ => rfl) rfl ha121 rfl rfl e119 hb122 b117 dX4_init_155 (fun H locs h => ?_)
      obtain ⟨y123, e124, hf⟩ := wLe_s hf
      refine lv_iinc (v := y123) (lv' := [(2, .int y123), (0, .ref (k.1 + c0))]) X.x X.b dX4_init_156 hl (k := 1) rfl (by rw [e124]; rfl) (by decide) rfl (fun ls hl => ?_)
      refine lv_goto (tgt := 137) X.x X.b dX4_init_159 (by decide) ?_
      exact J1 _ _ _ (Option.some.inj hf).symm _ _ _ _ _ hc hz h (lv_sub hl [1, 0] rfl)
def fX4_init_B110 (n0 : Nat) (n : Nat) (g : Mm) (c0 : Nat) (i1 : Nat) (x2 : Int32) : Option ((Nat × Mm × Int32) ⊕ (Nat × Mm)) :=
  if (12 : Int32) ≤ x2 then (wEx (fX4_init_L137 n0 n g c0 i1 (0 : Int32))) else (wGd (c0 < n ∧ c0 < 167 ∧ kdC c0 = 9) (wGn (g c0 0 0 11) fun d128 => wGd (kdC n = 19 ∧ slC (n + 1) = slC n + 15 ∧ n + 1 ≤ n0 + 61 ∧ slC (n + 1) ≤ slC n0 + 546) (wLe (n + 1) fun n130 => wLe (nw g n) fun g131 => wB2 (fX9_init n130 g131 n) fun n136 g137 => wGd (n136 = n130 + 2 ∧ slC n136 = slC n130 + 17 ∧ n136 ≤ n0 + 61 ∧ slC n136 ≤ slC n0 + 546) (wGd (d128 < n136 ∧ d128 < 167 ∧ kdC d128 = 16) (wGd (n < n136 ∧ n < 167 ∧ kdC n = 19) (wGd (n + 1 < 2 ^ 31) (wGi x2 12 (wLe (st g137 d128 0 0 (x2).toNatClampNeg (nI (n + 1))) fun g143 => wLe (x2 + 1) fun y148 => some (.inl (n136, g143, y148))))))))))
def fX4_init_L110 (n0 : Nat) (n : Nat) (g : Mm) (c0 : Nat) (i1 : Nat) (x2 : Int32) : Option (Nat × Mm) :=
  wLp (fun q => fX4_init_B110 n0 q.1 q.2.1 c0 i1 q.2.2) 1000 (n, g, x2)
set_option maxHeartbeats 4000000 in
set_option maxRecDepth 20000 in
theorem wX4_init_L110 {k : En} {n0 : Nat} {c0 : Nat} {i1 : Nat} (hi1 : i1 < 6) {res : Nat × Mm} (X : Cd k p s m args meth c cX4_init 3 RX4) {r : Nat × Mm} (JR : r = res) :
    ∀ (fu : Nat) (n : Nat) (g : Mm) (x2 : Int32) (ce sl : Nat) (H : Heap) (locs : List Loc) (ls : Array Slot), ce + n0 = n → sl + slC n0 = slC n → Hd DC k n s g H locs → lv_has ls 3 [(0, .ref (k.1 + c0)), (2, .int x2)] → wLp (fun q => fX4_init_B110 n0 q.1 q.2.1 c0 i1 q.2.2) fu (n, g, x2) = some r → W p l e (RmI 2 61 546 50) s m args below meth c H locs ce sl (FinD DC k args s below 61 546 res.1 res.2) (F0 m 110 ls []) := by
  intro fu
  induction fu with
  | zero => intro n g x2 ce sl H locs ls hc hz h hl hf; exact (wLp_0 hf).elim
  | succ fu ih1 =>
    intro n g x2 ce sl H locs ls hc hz h hl hf
    obtain ⟨r1, hf, hr⟩ := wLp_s hf
    have J1 : ∀ (n : Nat) (g : Mm) (x2 : Int32), r1 = .inl (n, g, x2) → ∀ (ce sl : Nat) (H : Heap) (locs : List Loc) (ls : Array Slot), ce + n0 = n → sl + slC n0 = slC n → Hd DC k n s g H locs → lv_has ls 3 [(0, .ref (k.1 + c0)), (2, .int x2)] → W p l e (RmI 2 61 546 50) s m args below meth c H locs ce sl (FinD DC k args s below 61 546 res.1 res.2) (F0 m 110 ls []) := fun n g x2 q ce sl H locs ls hc hz h hl => by subst q; exact ih1 _ _ _ _ _ _ _ _ hc hz h hl hr
    have JR : ∀ t1, r1 = .inr t1 → t1 = res := fun t1 q => by subst q; obtain rfl := Option.some.inj hr; exact JR
    have hf : fX4_init_B110 n0 n g c0 i1 x2 = some r1 := hf
    unfold fX4_init_B110 at hf
    refine lv_iload_n X.x X.b dX4_init_110 rfl (lv_at hl 1 rfl) ?_
    refine lv_bipush (v := 12) X.x X.b dX4_init_111 (by decide) ?_
    refine lv_icmp_ge (tgt := 135) X.x X.b dX4_init_113 (by decide) (fun c95 => ?_) (fun c95 => ?_)
    · have hf := wT c95 hf
      obtain ⟨t96, hf, e97⟩ := wEx_s hf
      have JR := JR t96 e97
      refine lv_iconst (v := 0) X.x X.b dX4_init_135 (by decide) ?_
      refine lv_istore_n (lv' := [(2, .int (0 : Int32)), (0, .ref (k.1 + c0))]) X.x X.b dX4_init_136 rfl hl (by decide) rfl (fun ls hl => ?_)
      exact wX4_init_L137 hi1 X JR _ _ _ _ _ _ _ _ _ hc hz h (lv_sub hl [1, 0] rfl) hf
    · have hf := wF c95 hf
      refine lv_aload_n X.x X.b dX4_init_116 rfl (lv_at hl 0 rfl) ?_
      obtain ⟨ha127, hf⟩ := wGd_s hf
      obtain ⟨d128, e129, hf⟩ := wGn_s hf
      refine rd_get (t := 9) (ci := 3) (j := 11) (C := RX4) (T := TX4) (N := 14) (val := .ref (k.1 + d128)) X h ha127 rfl rfl (by decide) iX4 lk_X4_34 (congrArg some (rD_get k e129)) dX4_init_117 ?_
      refine lv_iload_n X.x X.b dX4_init_120 rfl (lv_at hl 1 rfl) ?_
      obtain ⟨⟨hk134, ha135a, ha135b, ha135c⟩, hf⟩ := wGd_s hf
      obtain ⟨n130, e132, hf⟩ := wLe_s hf
      obtain ⟨g131, e133, hf⟩ := wLe_s hf
      have hc150 : (ce + 1) + n0 = n130 := by omega
      have hz151 : (sl + 15) + slC n0 = slC n130 := by rw [e132]; omega
      refine rd_new (cells' := (ce + 1)) (slots' := (sl + 15)) (t := 19) (C := RX9) (T := TX9) (N := 15) (ci := 8) X h hk134 rfl rfl iX9 tyX9_ok (fun j hj => match j, hj with | 0, _ => rfl | 1, _ => rfl | 2, _ => rfl | 3, _ => rfl | 4, _ => rfl | 5, _ => rfl | 6, _ => rfl | 7, _ => rfl | 8, _ => rfl | 9, _ => rfl | 10, _ => rfl | 11, _ => rfl | 12, _ => rfl | 13, _ => rfl | 14, _ => rfl | j + 15, hj => absurd hj (by omega)) cl_X4_32 in_X9 ini_X9 rfl rfl ⟨by show (ce + 1) ≤ 61; omega, by show (sl + 15) ≤ 546; omega⟩ dX4_init_121 (fun H h => ?_)
      have hc := hc150
      have hz := hz151
      rw [← e132, ← e133] at h
      refine lv_dup X.x X.b dX4_init_124 rfl ?_
      obtain ⟨n136, g137, e138, hf⟩ := wB2_s hf
      obtain ⟨⟨hb139a, hb139b, hb139c, hb139d⟩, hf⟩ := wGd_s hf
      have hc140 : ((ce + 1) + 2) + n0 = n136 := by omega
      have hz141 : ((sl + 15) + 17) + slC n0 = slC n136 := by omega
      refine rd_calli (cells' := ((ce + 1) + 2)) (slots' := ((sl + 15) + 17)) (mc := 2) (ms := 17) (As := []) (n1 := n136) (g1 := g137) X h (kX9_init l  e138) miv_X9_init lk_X4_53 ⟨rfl, rfl⟩ ⟨(Nat.le_of_ble_eq_true rfl), (Nat.le_of_ble_eq_true rfl)⟩ rfl hl rfl (Nat.le_of_ble_eq_true rfl) rfl rfl ⟨by show ((ce + 1) + 2) ≤ 61; omega, by show ((sl + 15) + 17) ≤ 546; omega⟩ dX4_init_125 (fun H locs h => ?_)
      have hc := hc140
      have hz := hz141
      obtain ⟨ha145, hf⟩ := wGd_s hf
      obtain ⟨ha146, hf⟩ := wGd_s hf
      obtain ⟨hb147, hf⟩ := wGd_s hf
      obtain ⟨b142, hf⟩ := wGi_s hf
      obtain ⟨g143, e144, hf⟩ := wLe_s hf
      refine rd_aast (t := 16) (N := 12) (q := 2) (t1 := 19) (ci := 8) (r := (RX9, TX9, 15)) X h ha145 (fun _ => rfl) rfl ha146 rfl rfl e144 hb147 b142 dX4_init_128 (fun H locs h => ?_)
      obtain ⟨y148, e149, hf⟩ := wLe_s hf
      refine lv_iinc (v := y148) (lv' := [(2, .int y148), (0, .ref (k.1 + c0))]) X.x X.b dX4_init_129 hl (k := 1) rfl (by rw [e149]; rfl) (by decide) rfl (fun ls hl => ?_)
      refine lv_goto (tgt := 110) X.x X.b dX4_init_132 (by decide) ?_
      exact J1 _ _ _ (Option.some.inj hf).symm _ _ _ _ _ hc hz h (lv_sub hl [1, 0] rfl)
def fX4_init_B90 (n0 : Nat) (n : Nat) (g : Mm) (c0 : Nat) (i1 : Nat) (x2 : Int32) : Option ((Nat × Mm × Int32) ⊕ (Nat × Mm)) :=
  if (2 : Int32) ≤ x2 then (wEx (fX4_init_L110 n0 n g c0 i1 (0 : Int32))) else (wGd (c0 < n ∧ c0 < 167 ∧ kdC c0 = 9) (wGn (g c0 0 0 10) fun d153 => wGd (d153 < n ∧ d153 < 167 ∧ kdC d153 = 15) (wGi x2 2 (wLe (st g d153 0 0 (x2).toNatClampNeg (-1 : Int32)) fun g156 => wLe (x2 + 1) fun y159 => some (.inl (n, g156, y159))))))
def fX4_init_L90 (n0 : Nat) (n : Nat) (g : Mm) (c0 : Nat) (i1 : Nat) (x2 : Int32) : Option (Nat × Mm) :=
  wLp (fun q => fX4_init_B90 n0 q.1 q.2.1 c0 i1 q.2.2) 1000 (n, g, x2)
set_option maxHeartbeats 4000000 in
set_option maxRecDepth 20000 in
theorem wX4_init_L90 {k : En} {n0 : Nat} {c0 : Nat} {i1 : Nat} (hi1 : i1 < 6) {res : Nat × Mm} (X : Cd k p s m args meth c cX4_init 3 RX4) {r : Nat × Mm} (JR : r = res) :
    ∀ (fu : Nat) (n : Nat) (g : Mm) (x2 : Int32) (ce sl : Nat) (H : Heap) (locs : List Loc) (ls : Array Slot), ce + n0 = n → sl + slC n0 = slC n → Hd DC k n s g H locs → lv_has ls 3 [(0, .ref (k.1 + c0)), (2, .int x2)] → wLp (fun q => fX4_init_B90 n0 q.1 q.2.1 c0 i1 q.2.2) fu (n, g, x2) = some r → W p l e (RmI 2 61 546 50) s m args below meth c H locs ce sl (FinD DC k args s below 61 546 res.1 res.2) (F0 m 90 ls []) := by
  intro fu
  induction fu with
  | zero => intro n g x2 ce sl H locs ls hc hz h hl hf; exact (wLp_0 hf).elim
  | succ fu ih1 =>
    intro n g x2 ce sl H locs ls hc hz h hl hf
    obtain ⟨r1, hf, hr⟩ := wLp_s hf
    have J1 : ∀ (n : Nat) (g : Mm) (x2 : Int32), r1 = .inl (n, g, x2) → ∀ (ce sl : Nat) (H : Heap) (locs : List Loc) (ls : Array Slot), ce + n0 = n → sl + slC n0 = slC n → Hd DC k n s g H locs → lv_has ls 3 [(0, .ref (k.1 + c0)), (2, .int x2)] → W p l e (RmI 2 61 546 50) s m args below meth c H locs ce sl (FinD DC k args s below 61 546 res.1 res.2) (F0 m 90 ls []) := fun n g x2 q ce sl H locs ls hc hz h hl => by subst q; exact ih1 _ _ _ _ _ _ _ _ hc hz h hl hr
    have JR : ∀ t1, r1 = .inr t1 → t1 = res := fun t1 q => by subst q; obtain rfl := Option.some.inj hr; exact JR
    have hf : fX4_init_B90 n0 n g c0 i1 x2 = some r1 := hf
    unfold fX4_init_B90 at hf
    refine lv_iload_n X.x X.b dX4_init_90 rfl (lv_at hl 1 rfl) ?_
    refine lv_iconst (v := 2) X.x X.b dX4_init_91 (by decide) ?_
    refine lv_icmp_ge (tgt := 108) X.x X.b dX4_init_92 (by decide) (fun c92 => ?_) (fun c92 => ?_)
    · have hf := wT c92 hf
      obtain ⟨t93, hf, e94⟩ := wEx_s hf
      have JR := JR t93 e94
      refine lv_iconst (v := 0) X.x X.b dX4_init_108 (by decide) ?_
      refine lv_istore_n (lv' := [(2, .int (0 : Int32)), (0, .ref (k.1 + c0))]) X.x X.b dX4_init_109 rfl hl (by decide) rfl (fun ls hl => ?_)
      exact wX4_init_L110 hi1 X JR _ _ _ _ _ _ _ _ _ hc hz h (lv_sub hl [1, 0] rfl) hf
    · have hf := wF c92 hf
      refine lv_aload_n X.x X.b dX4_init_95 rfl (lv_at hl 0 rfl) ?_
      obtain ⟨ha152, hf⟩ := wGd_s hf
      obtain ⟨d153, e154, hf⟩ := wGn_s hf
      refine rd_get (t := 9) (ci := 3) (j := 10) (C := RX4) (T := TX4) (N := 14) (val := .ref (k.1 + d153)) X h ha152 rfl rfl (by decide) iX4 lk_X4_29 (congrArg some (rD_get k e154)) dX4_init_96 ?_
      refine lv_iload_n X.x X.b dX4_init_99 rfl (lv_at hl 1 rfl) ?_
      refine lv_iconst (v := (-1)) X.x X.b dX4_init_100 (by decide) ?_
      obtain ⟨ha158, hf⟩ := wGd_s hf
      obtain ⟨b155, hf⟩ := wGi_s hf
      obtain ⟨g156, e157, hf⟩ := wLe_s hf
      refine rd_ast (t := 15) (N := 2) X h ha158 (fun _ => rfl) e157 b155 dX4_init_101 (fun H locs h => ?_)
      obtain ⟨y159, e160, hf⟩ := wLe_s hf
      refine lv_iinc (v := y159) (lv' := [(2, .int y159), (0, .ref (k.1 + c0))]) X.x X.b dX4_init_102 hl (k := 1) rfl (by rw [e160]; rfl) (by decide) rfl (fun ls hl => ?_)
      refine lv_goto (tgt := 90) X.x X.b dX4_init_105 (by decide) ?_
      exact J1 _ _ _ (Option.some.inj hf).symm _ _ _ _ _ hc hz h (lv_sub hl [1, 0] rfl)
def fX4_init (n0 : Nat) (g0 : Mm) (c0 : Nat) (i1 : Nat) : Option (Nat × Mm) :=
  wGd (kdC n0 = 10 ∧ slC (n0 + 1) = slC n0 + 9 ∧ n0 + 1 ≤ n0 + 61 ∧ slC (n0 + 1) ≤ slC n0 + 546) (wLe (n0 + 1) fun n1 => wLe (nw g0 n0) fun g2 => wGd (c0 < n1 ∧ c0 < 167 ∧ kdC c0 = 9) (wGd (n0 + 1 < 2 ^ 31) (wLe (st g2 c0 0 0 5 (nI (n0 + 1))) fun g8 => wGd (kdC n1 = 11 ∧ slC (n1 + 1) = slC n1 + 5 ∧ n1 + 1 ≤ n0 + 61 ∧ slC (n1 + 1) ≤ slC n0 + 546) (wLe (n1 + 1) fun n10 => wLe (nw g8 n1) fun g11 => wGd (c0 < n10 ∧ c0 < 167 ∧ kdC c0 = 9) (wGd (n1 + 1 < 2 ^ 31) (wLe (st g11 c0 0 0 6 (nI (n1 + 1))) fun g17 => wGd (kdC n10 = 12 ∧ slC (n10 + 1) = slC n10 + 6 ∧ n10 + 1 ≤ n0 + 61 ∧ slC (n10 + 1) ≤ slC n0 + 546) (wLe (n10 + 1) fun n19 => wLe (nw g17 n10) fun g20 => wGd (c0 < n19 ∧ c0 < 167 ∧ kdC c0 = 9) (wGd (n10 + 1 < 2 ^ 31) (wLe (st g20 c0 0 0 7 (nI (n10 + 1))) fun g26 => wGd (kdC n19 = 13 ∧ slC (n19 + 1) = slC n19 + 6 ∧ n19 + 1 ≤ n0 + 61 ∧ slC (n19 + 1) ≤ slC n0 + 546) (wLe (n19 + 1) fun n28 => wLe (nw g26 n19) fun g29 => wGd (c0 < n28 ∧ c0 < 167 ∧ kdC c0 = 9) (wGd (n19 + 1 < 2 ^ 31) (wLe (st g29 c0 0 0 8 (nI (n19 + 1))) fun g35 => wGd (kdC n28 = 14 ∧ slC (n28 + 1) = slC n28 + 2 ∧ n28 + 1 ≤ n0 + 61 ∧ slC (n28 + 1) ≤ slC n0 + 546) (wLe (n28 + 1) fun n37 => wLe (nw g35 n28) fun g38 => wGd (c0 < n37 ∧ c0 < 167 ∧ kdC c0 = 9) (wGd (n28 + 1 < 2 ^ 31) (wLe (st g38 c0 0 0 9 (nI (n28 + 1))) fun g44 => wGd (kdC n37 = 15 ∧ slC (n37 + 1) = slC n37 + 2 ∧ n37 + 1 ≤ n0 + 61 ∧ slC (n37 + 1) ≤ slC n0 + 546) (wLe (n37 + 1) fun n46 => wLe (nw g44 n37) fun g47 => wGd (c0 < n46 ∧ c0 < 167 ∧ kdC c0 = 9) (wGd (n37 + 1 < 2 ^ 31) (wLe (st g47 c0 0 0 10 (nI (n37 + 1))) fun g53 => wGd (kdC n46 = 16 ∧ slC (n46 + 1) = slC n46 + 12 ∧ n46 + 1 ≤ n0 + 61 ∧ slC (n46 + 1) ≤ slC n0 + 546) (wLe (n46 + 1) fun n55 => wLe (nw g53 n46) fun g56 => wGd (c0 < n55 ∧ c0 < 167 ∧ kdC c0 = 9) (wGd (n46 + 1 < 2 ^ 31) (wLe (st g56 c0 0 0 11 (nI (n46 + 1))) fun g62 => wGd (kdC n55 = 17 ∧ slC (n55 + 1) = slC n55 + 16 ∧ n55 + 1 ≤ n0 + 61 ∧ slC (n55 + 1) ≤ slC n0 + 546) (wLe (n55 + 1) fun n64 => wLe (nw g62 n55) fun g65 => wGd (c0 < n64 ∧ c0 < 167 ∧ kdC c0 = 9) (wGd (n55 + 1 < 2 ^ 31) (wLe (st g65 c0 0 0 12 (nI (n55 + 1))) fun g71 => wGd (kdC n64 = 18 ∧ slC (n64 + 1) = slC n64 + 8 ∧ n64 + 1 ≤ n0 + 61 ∧ slC (n64 + 1) ≤ slC n0 + 546) (wLe (n64 + 1) fun n73 => wLe (nw g71 n64) fun g74 => wGd (c0 < n73 ∧ c0 < 167 ∧ kdC c0 = 9) (wGd (n64 + 1 < 2 ^ 31) (wLe (st g74 c0 0 0 13 (nI (n64 + 1))) fun g80 => wGd (c0 < n73 ∧ c0 < 167 ∧ kdC c0 = 9) (wLe (st g80 c0 0 0 4 (nI (i1 + 1))) fun g83 => wGd (c0 < n73 ∧ c0 < 167 ∧ kdC c0 = 9) (wGn (g83 c0 0 0 5) fun d86 => wGd (d86 < n73 ∧ d86 < 167 ∧ kdC d86 = 10) (wGi (8 : Int32) 9 (wLe (st g83 d86 0 0 ((8 : Int32)).toNatClampNeg (1 : Int32)) fun g89 => fX4_init_L90 n0 n73 g89 c0 i1 (0 : Int32))))))))))))))))))))))))))))))))
set_option maxHeartbeats 4000000 in
set_option maxRecDepth 20000 in
theorem kX4_init (l : Launch) {k : En} {n0 : Nat} {c0 : Nat} {i1 : Nat} (hi1 : i1 < 6) {res : Nat × Mm} {g0 : Mm} (hf : fX4_init n0 g0 c0 i1 = some res) : MtD l yX4_init cX4_init 3 (RmI 2 61 546 50) 61 546 DC k n0 [.ref (k.1 + c0), .ref (k.1 + adC 5 i1 0)] g0 res.1 res.2 := by
  refine MtD.of (by decide) rfl (Nat.le_of_ble_eq_true rfl) ?_
  intro p e s m args below meth c ls X h hl
  have X : Cd k p s m args meth c cX4_init 3 RX4 := X
  have hl : lv_has ls 3 [(0, .ref (k.1 + c0)), (1, .ref (k.1 + adC 5 i1 0))] := hl
  have hc : 0 + n0 = n0 := Nat.zero_add _
  have hz : 0 + slC n0 = slC n0 := Nat.zero_add _
  have JR : res = res := rfl
  unfold fX4_init at hf
  refine lv_aload_n X.x X.b dX4_init_0 rfl (lv_at hl 0 rfl) ?_
  refine rd_obj X hl lk_X4_3 oi_f (Nat.le_of_ble_eq_true rfl) (Nat.le_of_ble_eq_true rfl) dX4_init_1 ?_
  refine lv_aload_n X.x X.b dX4_init_4 rfl (lv_at hl 0 rfl) ?_
  refine lv_bipush (v := 9) X.x X.b dX4_init_5 (by decide) ?_
  obtain ⟨⟨hk5, ha6a, ha6b, ha6c⟩, hf⟩ := wGd_s hf
  obtain ⟨n1, e3, hf⟩ := wLe_s hf
  obtain ⟨g2, e4, hf⟩ := wLe_s hf
  have hc186 : 1 + n0 = n1 := by omega
  have hz187 : 9 + slC n0 = slC n1 := by rw [e3]; omega
  refine rd_newa (cells' := 1) (slots' := 9) (t := 10) (N := 9) X h hk5 (fun _ => rfl) (by decide) (by decide) (by decide) arr_int rfl rfl ⟨by show 1 ≤ 61; omega, by show 9 ≤ 546; omega⟩ dX4_init_7 (fun H h => ?_)
  have hc := hc186
  have hz := hz187
  rw [← e3, ← e4] at h
  obtain ⟨ha7, hf⟩ := wGd_s hf
  obtain ⟨hb185, hf⟩ := wGd_s hf
  obtain ⟨g8, e9, hf⟩ := wLe_s hf
  refine rd_put (t := 9) (ci := 3) (j := 5) (C := RX4) (T := TX4) (N := 14) (x := nI (n0 + 1)) (val := .ref (k.1 + n0)) X h ha7 rfl rfl (by decide) iX4 tyX4_ok nmX4 rfl rfl rfl (Nat.le_of_ble_eq_true rfl) lk_X4_11 e9 (congrArg (fun z => (Sum.inr (3, [.int (g2 c0 0 0 0), .int (g2 c0 0 0 1), .int (g2 c0 0 0 2), .int (g2 c0 0 0 3), rqC k (g2 c0 0 0 4), z, rD k (g2 c0 0 0 6), rD k (g2 c0 0 0 7), rD k (g2 c0 0 0 8), rD k (g2 c0 0 0 9), rD k (g2 c0 0 0 10), rD k (g2 c0 0 0 11), rD k (g2 c0 0 0 12), rD k (g2 c0 0 0 13)]) : va_E)) (rD_set k hb185)) dX4_init_9 (fun H locs h => ?_)
  refine lv_aload_n X.x X.b dX4_init_12 rfl (lv_at hl 0 rfl) ?_
  refine lv_iconst (v := 5) X.x X.b dX4_init_13 (by decide) ?_
  obtain ⟨⟨hk14, ha15a, ha15b, ha15c⟩, hf⟩ := wGd_s hf
  obtain ⟨n10, e12, hf⟩ := wLe_s hf
  obtain ⟨g11, e13, hf⟩ := wLe_s hf
  have hc183 : 2 + n0 = n10 := by omega
  have hz184 : 14 + slC n0 = slC n10 := by rw [e12]; omega
  refine rd_newa (cells' := 2) (slots' := 14) (t := 11) (N := 5) X h hk14 (fun _ => rfl) (by decide) (by decide) (by decide) arr_int rfl rfl ⟨by show 2 ≤ 61; omega, by show 14 ≤ 546; omega⟩ dX4_init_14 (fun H h => ?_)
  have hc := hc183
  have hz := hz184
  rw [← e12, ← e13] at h
  obtain ⟨ha16, hf⟩ := wGd_s hf
  obtain ⟨hb182, hf⟩ := wGd_s hf
  obtain ⟨g17, e18, hf⟩ := wLe_s hf
  refine rd_put (t := 9) (ci := 3) (j := 6) (C := RX4) (T := TX4) (N := 14) (x := nI (n1 + 1)) (val := .ref (k.1 + n1)) X h ha16 rfl rfl (by decide) iX4 tyX4_ok nmX4 rfl rfl rfl (Nat.le_of_ble_eq_true rfl) lk_X4_17 e18 (congrArg (fun z => (Sum.inr (3, [.int (g11 c0 0 0 0), .int (g11 c0 0 0 1), .int (g11 c0 0 0 2), .int (g11 c0 0 0 3), rqC k (g11 c0 0 0 4), rD k (g11 c0 0 0 5), z, rD k (g11 c0 0 0 7), rD k (g11 c0 0 0 8), rD k (g11 c0 0 0 9), rD k (g11 c0 0 0 10), rD k (g11 c0 0 0 11), rD k (g11 c0 0 0 12), rD k (g11 c0 0 0 13)]) : va_E)) (rD_set k hb182)) dX4_init_16 (fun H locs h => ?_)
  refine lv_aload_n X.x X.b dX4_init_19 rfl (lv_at hl 0 rfl) ?_
  refine lv_bipush (v := 6) X.x X.b dX4_init_20 (by decide) ?_
  obtain ⟨⟨hk23, ha24a, ha24b, ha24c⟩, hf⟩ := wGd_s hf
  obtain ⟨n19, e21, hf⟩ := wLe_s hf
  obtain ⟨g20, e22, hf⟩ := wLe_s hf
  have hc180 : 3 + n0 = n19 := by omega
  have hz181 : 20 + slC n0 = slC n19 := by rw [e21]; omega
  refine rd_newa (cells' := 3) (slots' := 20) (t := 12) (N := 6) X h hk23 (fun _ => rfl) (by decide) (by decide) (by decide) arr_int rfl rfl ⟨by show 3 ≤ 61; omega, by show 20 ≤ 546; omega⟩ dX4_init_22 (fun H h => ?_)
  have hc := hc180
  have hz := hz181
  rw [← e21, ← e22] at h
  obtain ⟨ha25, hf⟩ := wGd_s hf
  obtain ⟨hb179, hf⟩ := wGd_s hf
  obtain ⟨g26, e27, hf⟩ := wLe_s hf
  refine rd_put (t := 9) (ci := 3) (j := 7) (C := RX4) (T := TX4) (N := 14) (x := nI (n10 + 1)) (val := .ref (k.1 + n10)) X h ha25 rfl rfl (by decide) iX4 tyX4_ok nmX4 rfl rfl rfl (Nat.le_of_ble_eq_true rfl) lk_X4_20 e27 (congrArg (fun z => (Sum.inr (3, [.int (g20 c0 0 0 0), .int (g20 c0 0 0 1), .int (g20 c0 0 0 2), .int (g20 c0 0 0 3), rqC k (g20 c0 0 0 4), rD k (g20 c0 0 0 5), rD k (g20 c0 0 0 6), z, rD k (g20 c0 0 0 8), rD k (g20 c0 0 0 9), rD k (g20 c0 0 0 10), rD k (g20 c0 0 0 11), rD k (g20 c0 0 0 12), rD k (g20 c0 0 0 13)]) : va_E)) (rD_set k hb179)) dX4_init_24 (fun H locs h => ?_)
  refine lv_aload_n X.x X.b dX4_init_27 rfl (lv_at hl 0 rfl) ?_
  refine lv_bipush (v := 6) X.x X.b dX4_init_28 (by decide) ?_
  obtain ⟨⟨hk32, ha33a, ha33b, ha33c⟩, hf⟩ := wGd_s hf
  obtain ⟨n28, e30, hf⟩ := wLe_s hf
  obtain ⟨g29, e31, hf⟩ := wLe_s hf
  have hc177 : 4 + n0 = n28 := by omega
  have hz178 : 26 + slC n0 = slC n28 := by rw [e30]; omega
  refine rd_newa (cells' := 4) (slots' := 26) (t := 13) (N := 6) X h hk32 (fun _ => rfl) (by decide) (by decide) (by decide) arr_int rfl rfl ⟨by show 4 ≤ 61; omega, by show 26 ≤ 546; omega⟩ dX4_init_30 (fun H h => ?_)
  have hc := hc177
  have hz := hz178
  rw [← e30, ← e31] at h
  obtain ⟨ha34, hf⟩ := wGd_s hf
  obtain ⟨hb176, hf⟩ := wGd_s hf
  obtain ⟨g35, e36, hf⟩ := wLe_s hf
  refine rd_put (t := 9) (ci := 3) (j := 8) (C := RX4) (T := TX4) (N := 14) (x := nI (n19 + 1)) (val := .ref (k.1 + n19)) X h ha34 rfl rfl (by decide) iX4 tyX4_ok nmX4 rfl rfl rfl (Nat.le_of_ble_eq_true rfl) lk_X4_23 e36 (congrArg (fun z => (Sum.inr (3, [.int (g29 c0 0 0 0), .int (g29 c0 0 0 1), .int (g29 c0 0 0 2), .int (g29 c0 0 0 3), rqC k (g29 c0 0 0 4), rD k (g29 c0 0 0 5), rD k (g29 c0 0 0 6), rD k (g29 c0 0 0 7), z, rD k (g29 c0 0 0 9), rD k (g29 c0 0 0 10), rD k (g29 c0 0 0 11), rD k (g29 c0 0 0 12), rD k (g29 c0 0 0 13)]) : va_E)) (rD_set k hb176)) dX4_init_32 (fun H locs h => ?_)
  refine lv_aload_n X.x X.b dX4_init_35 rfl (lv_at hl 0 rfl) ?_
  refine lv_iconst (v := 2) X.x X.b dX4_init_36 (by decide) ?_
  obtain ⟨⟨hk41, ha42a, ha42b, ha42c⟩, hf⟩ := wGd_s hf
  obtain ⟨n37, e39, hf⟩ := wLe_s hf
  obtain ⟨g38, e40, hf⟩ := wLe_s hf
  have hc174 : 5 + n0 = n37 := by omega
  have hz175 : 28 + slC n0 = slC n37 := by rw [e39]; omega
  refine rd_newa (cells' := 5) (slots' := 28) (t := 14) (N := 2) X h hk41 (fun _ => rfl) (by decide) (by decide) (by decide) arr_int rfl rfl ⟨by show 5 ≤ 61; omega, by show 28 ≤ 546; omega⟩ dX4_init_37 (fun H h => ?_)
  have hc := hc174
  have hz := hz175
  rw [← e39, ← e40] at h
  obtain ⟨ha43, hf⟩ := wGd_s hf
  obtain ⟨hb173, hf⟩ := wGd_s hf
  obtain ⟨g44, e45, hf⟩ := wLe_s hf
  refine rd_put (t := 9) (ci := 3) (j := 9) (C := RX4) (T := TX4) (N := 14) (x := nI (n28 + 1)) (val := .ref (k.1 + n28)) X h ha43 rfl rfl (by decide) iX4 tyX4_ok nmX4 rfl rfl rfl (Nat.le_of_ble_eq_true rfl) lk_X4_26 e45 (congrArg (fun z => (Sum.inr (3, [.int (g38 c0 0 0 0), .int (g38 c0 0 0 1), .int (g38 c0 0 0 2), .int (g38 c0 0 0 3), rqC k (g38 c0 0 0 4), rD k (g38 c0 0 0 5), rD k (g38 c0 0 0 6), rD k (g38 c0 0 0 7), rD k (g38 c0 0 0 8), z, rD k (g38 c0 0 0 10), rD k (g38 c0 0 0 11), rD k (g38 c0 0 0 12), rD k (g38 c0 0 0 13)]) : va_E)) (rD_set k hb173)) dX4_init_39 (fun H locs h => ?_)
  refine lv_aload_n X.x X.b dX4_init_42 rfl (lv_at hl 0 rfl) ?_
  refine lv_iconst (v := 2) X.x X.b dX4_init_43 (by decide) ?_
  obtain ⟨⟨hk50, ha51a, ha51b, ha51c⟩, hf⟩ := wGd_s hf
  obtain ⟨n46, e48, hf⟩ := wLe_s hf
  obtain ⟨g47, e49, hf⟩ := wLe_s hf
  have hc171 : 6 + n0 = n46 := by omega
  have hz172 : 30 + slC n0 = slC n46 := by rw [e48]; omega
  refine rd_newa (cells' := 6) (slots' := 30) (t := 15) (N := 2) X h hk50 (fun _ => rfl) (by decide) (by decide) (by decide) arr_int rfl rfl ⟨by show 6 ≤ 61; omega, by show 30 ≤ 546; omega⟩ dX4_init_44 (fun H h => ?_)
  have hc := hc171
  have hz := hz172
  rw [← e48, ← e49] at h
  obtain ⟨ha52, hf⟩ := wGd_s hf
  obtain ⟨hb170, hf⟩ := wGd_s hf
  obtain ⟨g53, e54, hf⟩ := wLe_s hf
  refine rd_put (t := 9) (ci := 3) (j := 10) (C := RX4) (T := TX4) (N := 14) (x := nI (n37 + 1)) (val := .ref (k.1 + n37)) X h ha52 rfl rfl (by decide) iX4 tyX4_ok nmX4 rfl rfl rfl (Nat.le_of_ble_eq_true rfl) lk_X4_29 e54 (congrArg (fun z => (Sum.inr (3, [.int (g47 c0 0 0 0), .int (g47 c0 0 0 1), .int (g47 c0 0 0 2), .int (g47 c0 0 0 3), rqC k (g47 c0 0 0 4), rD k (g47 c0 0 0 5), rD k (g47 c0 0 0 6), rD k (g47 c0 0 0 7), rD k (g47 c0 0 0 8), rD k (g47 c0 0 0 9), z, rD k (g47 c0 0 0 11), rD k (g47 c0 0 0 12), rD k (g47 c0 0 0 13)]) : va_E)) (rD_set k hb170)) dX4_init_46 (fun H locs h => ?_)
  refine lv_aload_n X.x X.b dX4_init_49 rfl (lv_at hl 0 rfl) ?_
  refine lv_bipush (v := 12) X.x X.b dX4_init_50 (by decide) ?_
  obtain ⟨⟨hk59, ha60a, ha60b, ha60c⟩, hf⟩ := wGd_s hf
  obtain ⟨n55, e57, hf⟩ := wLe_s hf
  obtain ⟨g56, e58, hf⟩ := wLe_s hf
  have hc168 : 7 + n0 = n55 := by omega
  have hz169 : 42 + slC n0 = slC n55 := by rw [e57]; omega
  refine rd_newq (cells' := 7) (slots' := 42) (t := 16) (N := 12) (q := 2) (C := "WingPort$Visit") X h hk59 (fun _ => rfl) rfl (by decide) (by decide) (by decide) cl_X4_32 arr_2 rfl rfl ⟨by show 7 ≤ 61; omega, by show 42 ≤ 546; omega⟩ dX4_init_52 (fun H h => ?_)
  have hc := hc168
  have hz := hz169
  rw [← e57, ← e58] at h
  obtain ⟨ha61, hf⟩ := wGd_s hf
  obtain ⟨hb167, hf⟩ := wGd_s hf
  obtain ⟨g62, e63, hf⟩ := wLe_s hf
  refine rd_put (t := 9) (ci := 3) (j := 11) (C := RX4) (T := TX4) (N := 14) (x := nI (n46 + 1)) (val := .ref (k.1 + n46)) X h ha61 rfl rfl (by decide) iX4 tyX4_ok nmX4 rfl rfl rfl (Nat.le_of_ble_eq_true rfl) lk_X4_34 e63 (congrArg (fun z => (Sum.inr (3, [.int (g56 c0 0 0 0), .int (g56 c0 0 0 1), .int (g56 c0 0 0 2), .int (g56 c0 0 0 3), rqC k (g56 c0 0 0 4), rD k (g56 c0 0 0 5), rD k (g56 c0 0 0 6), rD k (g56 c0 0 0 7), rD k (g56 c0 0 0 8), rD k (g56 c0 0 0 9), rD k (g56 c0 0 0 10), z, rD k (g56 c0 0 0 12), rD k (g56 c0 0 0 13)]) : va_E)) (rD_set k hb167)) dX4_init_55 (fun H locs h => ?_)
  refine lv_aload_n X.x X.b dX4_init_58 rfl (lv_at hl 0 rfl) ?_
  refine lv_bipush (v := 16) X.x X.b dX4_init_59 (by decide) ?_
  obtain ⟨⟨hk68, ha69a, ha69b, ha69c⟩, hf⟩ := wGd_s hf
  obtain ⟨n64, e66, hf⟩ := wLe_s hf
  obtain ⟨g65, e67, hf⟩ := wLe_s hf
  have hc165 : 8 + n0 = n64 := by omega
  have hz166 : 58 + slC n0 = slC n64 := by rw [e66]; omega
  refine rd_newq (cells' := 8) (slots' := 58) (t := 17) (N := 16) (q := 3) (C := "WingPort$Feed") X h hk68 (fun _ => rfl) rfl (by decide) (by decide) (by decide) cl_X4_38 arr_3 rfl rfl ⟨by show 8 ≤ 61; omega, by show 58 ≤ 546; omega⟩ dX4_init_61 (fun H h => ?_)
  have hc := hc165
  have hz := hz166
  rw [← e66, ← e67] at h
  obtain ⟨ha70, hf⟩ := wGd_s hf
  obtain ⟨hb164, hf⟩ := wGd_s hf
  obtain ⟨g71, e72, hf⟩ := wLe_s hf
  refine rd_put (t := 9) (ci := 3) (j := 12) (C := RX4) (T := TX4) (N := 14) (x := nI (n55 + 1)) (val := .ref (k.1 + n55)) X h ha70 rfl rfl (by decide) iX4 tyX4_ok nmX4 rfl rfl rfl (Nat.le_of_ble_eq_true rfl) lk_X4_40 e72 (congrArg (fun z => (Sum.inr (3, [.int (g65 c0 0 0 0), .int (g65 c0 0 0 1), .int (g65 c0 0 0 2), .int (g65 c0 0 0 3), rqC k (g65 c0 0 0 4), rD k (g65 c0 0 0 5), rD k (g65 c0 0 0 6), rD k (g65 c0 0 0 7), rD k (g65 c0 0 0 8), rD k (g65 c0 0 0 9), rD k (g65 c0 0 0 10), rD k (g65 c0 0 0 11), z, rD k (g65 c0 0 0 13)]) : va_E)) (rD_set k hb164)) dX4_init_64 (fun H locs h => ?_)
  refine lv_aload_n X.x X.b dX4_init_67 rfl (lv_at hl 0 rfl) ?_
  refine lv_bipush (v := 8) X.x X.b dX4_init_68 (by decide) ?_
  obtain ⟨⟨hk77, ha78a, ha78b, ha78c⟩, hf⟩ := wGd_s hf
  obtain ⟨n73, e75, hf⟩ := wLe_s hf
  obtain ⟨g74, e76, hf⟩ := wLe_s hf
  have hc162 : 9 + n0 = n73 := by omega
  have hz163 : 66 + slC n0 = slC n73 := by rw [e75]; omega
  refine rd_newa (cells' := 9) (slots' := 66) (t := 18) (N := 8) X h hk77 (fun _ => rfl) (by decide) (by decide) (by decide) arr_int rfl rfl ⟨by show 9 ≤ 61; omega, by show 66 ≤ 546; omega⟩ dX4_init_70 (fun H h => ?_)
  have hc := hc162
  have hz := hz163
  rw [← e75, ← e76] at h
  obtain ⟨ha79, hf⟩ := wGd_s hf
  obtain ⟨hb161, hf⟩ := wGd_s hf
  obtain ⟨g80, e81, hf⟩ := wLe_s hf
  refine rd_put (t := 9) (ci := 3) (j := 13) (C := RX4) (T := TX4) (N := 14) (x := nI (n64 + 1)) (val := .ref (k.1 + n64)) X h ha79 rfl rfl (by decide) iX4 tyX4_ok nmX4 rfl rfl rfl (Nat.le_of_ble_eq_true rfl) lk_X4_46 e81 (congrArg (fun z => (Sum.inr (3, [.int (g74 c0 0 0 0), .int (g74 c0 0 0 1), .int (g74 c0 0 0 2), .int (g74 c0 0 0 3), rqC k (g74 c0 0 0 4), rD k (g74 c0 0 0 5), rD k (g74 c0 0 0 6), rD k (g74 c0 0 0 7), rD k (g74 c0 0 0 8), rD k (g74 c0 0 0 9), rD k (g74 c0 0 0 10), rD k (g74 c0 0 0 11), rD k (g74 c0 0 0 12), z]) : va_E)) (rD_set k hb161)) dX4_init_72 (fun H locs h => ?_)
  refine lv_aload_n X.x X.b dX4_init_75 rfl (lv_at hl 0 rfl) ?_
  refine lv_aload_n X.x X.b dX4_init_76 rfl (lv_at hl 1 rfl) ?_
  obtain ⟨ha82, hf⟩ := wGd_s hf
  obtain ⟨g83, e84, hf⟩ := wLe_s hf
  refine rd_put (t := 9) (ci := 3) (j := 4) (C := RX4) (T := TX4) (N := 14) (x := nI (i1 + 1)) (val := .ref (k.1 + adC 5 i1 0)) X h ha82 rfl rfl (by decide) iX4 tyX4_ok nmX4 rfl rfl rfl (Nat.le_of_ble_eq_true rfl) lk_X4_49 e84 (congrArg (fun z => (Sum.inr (3, [.int (g80 c0 0 0 0), .int (g80 c0 0 0 1), .int (g80 c0 0 0 2), .int (g80 c0 0 0 3), z, rD k (g80 c0 0 0 5), rD k (g80 c0 0 0 6), rD k (g80 c0 0 0 7), rD k (g80 c0 0 0 8), rD k (g80 c0 0 0 9), rD k (g80 c0 0 0 10), rD k (g80 c0 0 0 11), rD k (g80 c0 0 0 12), rD k (g80 c0 0 0 13)]) : va_E)) (rq_set k hi1)) dX4_init_77 (fun H locs h => ?_)
  refine lv_aload_n X.x X.b dX4_init_80 rfl (lv_at hl 0 rfl) ?_
  obtain ⟨ha85, hf⟩ := wGd_s hf
  obtain ⟨d86, e87, hf⟩ := wGn_s hf
  refine rd_get (t := 9) (ci := 3) (j := 5) (C := RX4) (T := TX4) (N := 14) (val := .ref (k.1 + d86)) X h ha85 rfl rfl (by decide) iX4 lk_X4_11 (congrArg some (rD_get k e87)) dX4_init_81 ?_
  refine lv_bipush (v := 8) X.x X.b dX4_init_84 (by decide) ?_
  refine lv_iconst (v := 1) X.x X.b dX4_init_86 (by decide) ?_
  obtain ⟨ha91, hf⟩ := wGd_s hf
  obtain ⟨b88, hf⟩ := wGi_s hf
  obtain ⟨g89, e90, hf⟩ := wLe_s hf
  refine rd_ast (t := 10) (N := 9) X h ha91 (fun _ => rfl) e90 b88 dX4_init_87 (fun H locs h => ?_)
  refine lv_iconst (v := 0) X.x X.b dX4_init_88 (by decide) ?_
  refine lv_istore_n (lv' := [(2, .int (0 : Int32)), (0, .ref (k.1 + c0)), (1, .ref (k.1 + adC 5 i1 0))]) X.x X.b dX4_init_89 rfl hl (by decide) rfl (fun ls hl => ?_)
  exact wX4_init_L90 hi1 X JR _ _ _ _ _ _ _ _ _ hc hz h (lv_sub hl [1, 0] rfl) hf
def fX8_init_B53 (n0 : Nat) (n : Nat) (g : Mm) (c0 : Nat) (x1 : Int32) : Option ((Nat × Mm × Int32) ⊕ (Nat × Mm)) :=
  wGd (n ≤ n0 + 27 ∧ slC n ≤ slC n0 + 2135) (wBd (fX100_length 0) fun y29 => if y29 ≤ x1 then (wEx (wGd (n ≤ n0 + 27 ∧ slC n ≤ slC n0 + 2135) (wBd (fX100_length 0) fun y35 => wGd (c0 < n ∧ c0 < 167 ∧ kdC c0 = 1) (wLe (st g c0 0 0 0 y35) fun g38 => wGd (n ≤ n0 + 27 ∧ slC n ≤ slC n0 + 2135) (wGd (c0 = 1 ∧ 29 ≤ n ∧ ckT g38 = true) (wB2 (fX8_take (toS g38)) fun gs44 y43 => wLe (bkT g38 gs44) fun g45 => wGd (n ≤ n0 + 27 ∧ slC n ≤ slC n0 + 2135) (some (n, g45)))))))) else (if (160 : Int32) ≤ x1 then (wEx (wGd (n ≤ n0 + 27 ∧ slC n ≤ slC n0 + 2135) (wBd (fX100_length 0) fun y52 => wGd (c0 < n ∧ c0 < 167 ∧ kdC c0 = 1) (wLe (st g c0 0 0 0 y52) fun g55 => wGd (n ≤ n0 + 27 ∧ slC n ≤ slC n0 + 2135) (wGd (c0 = 1 ∧ 29 ≤ n ∧ ckT g55 = true) (wB2 (fX8_take (toS g55)) fun gs61 y60 => wLe (bkT g55 gs61) fun g62 => wGd (n ≤ n0 + 27 ∧ slC n ≤ slC n0 + 2135) (some (n, g62)))))))) else (wGd (c0 < n ∧ c0 < 167 ∧ kdC c0 = 1) (wGn (g c0 0 0 4) fun d66 => wGd (d66 < n ∧ d66 < 167 ∧ kdC d66 = 3) (wGn (g d66 0 0 0) fun d69 => wGd (n ≤ n0 + 27 ∧ slC n ≤ slC n0 + 2135) (wBd (fX100_charAt 0 x1) fun y72 => wGd (d69 < n ∧ d69 < 167 ∧ kdC d69 = 4) (wGi x1 160 (wLe (st g d69 0 0 (x1).toNatClampNeg y72) fun g75 => wLe (x1 + 1) fun y78 => some (.inl (n, g75, y78))))))))))
def fX8_init_L53 (n0 : Nat) (n : Nat) (g : Mm) (c0 : Nat) (x1 : Int32) : Option (Nat × Mm) :=
  wLp (fun q => fX8_init_B53 n0 q.1 q.2.1 c0 q.2.2) 1000 (n, g, x1)
set_option maxHeartbeats 4000000 in
set_option maxRecDepth 20000 in
theorem wX8_init_L53 {k : En} {n0 : Nat} {c0 : Nat} {res : Nat × Mm} (X : Cd k p s m args meth c cX8_init 2 RX8) {r : Nat × Mm} (JR : r = res) :
    ∀ (fu : Nat) (n : Nat) (g : Mm) (x1 : Int32) (ce sl : Nat) (H : Heap) (locs : List Loc) (ls : Array Slot), ce + n0 = n → sl + slC n0 = slC n → Hd DC k n s g H locs → lv_has ls 2 [(0, .ref (k.1 + c0)), (1, .int x1)] → wLp (fun q => fX8_init_B53 n0 q.1 q.2.1 c0 q.2.2) fu (n, g, x1) = some r → W p l e (RmI 118 27 2135 4426) s m args below meth c H locs ce sl (FinD DC k args s below 27 2135 res.1 res.2) (F0 m 53 ls []) := by
  intro fu
  induction fu with
  | zero => intro n g x1 ce sl H locs ls hc hz h hl hf; exact (wLp_0 hf).elim
  | succ fu ih1 =>
    intro n g x1 ce sl H locs ls hc hz h hl hf
    obtain ⟨r1, hf, hr⟩ := wLp_s hf
    have J1 : ∀ (n : Nat) (g : Mm) (x1 : Int32), r1 = .inl (n, g, x1) → ∀ (ce sl : Nat) (H : Heap) (locs : List Loc) (ls : Array Slot), ce + n0 = n → sl + slC n0 = slC n → Hd DC k n s g H locs → lv_has ls 2 [(0, .ref (k.1 + c0)), (1, .int x1)] → W p l e (RmI 118 27 2135 4426) s m args below meth c H locs ce sl (FinD DC k args s below 27 2135 res.1 res.2) (F0 m 53 ls []) := fun n g x1 q ce sl H locs ls hc hz h hl => by subst q; exact ih1 _ _ _ _ _ _ _ _ hc hz h hl hr
    have JR : ∀ t1, r1 = .inr t1 → t1 = res := fun t1 q => by subst q; obtain rfl := Option.some.inj hr; exact JR
    have hf : fX8_init_B53 n0 n g c0 x1 = some r1 := hf
    unfold fX8_init_B53 at hf
    refine lv_iload_n X.x X.b dX8_init_53 rfl (lv_at hl 1 rfl) ?_
    refine rd_lds X 0 rfl dX8_init_54 ?_
    obtain ⟨⟨hb28a, hb28b⟩, hf⟩ := wGd_s hf
    obtain ⟨y29, e30, hf⟩ := wBd_s hf
    refine rd_callJ (q := 0) (As := []) (x := y29) X h (Nat.le_of_ble_eq_true rfl) (kX100_length l trivial (Nat.le_of_ble_eq_true rfl) e30) mv_X100_length rfl lk_X8_27 ⟨rfl, rfl⟩ ⟨(Nat.le_of_ble_eq_true rfl), (Nat.le_of_ble_eq_true rfl)⟩ rfl hl rfl (Nat.le_of_ble_eq_true rfl) ⟨by show ce ≤ 27; omega, by show sl ≤ 2135; omega⟩ dX8_init_56 (fun H locs h => ?_)
    refine lv_icmp_ge (tgt := 90) X.x X.b dX8_init_59 (by decide) (fun c31 => ?_) (fun c31 => ?_)
    · have hf := wT c31 hf
      obtain ⟨t32, hf, e33⟩ := wEx_s hf
      have JR := JR t32 e33
      refine lv_aload_n X.x X.b dX8_init_90 rfl (lv_at hl 0 rfl) ?_
      refine rd_lds X 0 rfl dX8_init_91 ?_
      obtain ⟨⟨hb34a, hb34b⟩, hf⟩ := wGd_s hf
      obtain ⟨y35, e36, hf⟩ := wBd_s hf
      refine rd_callJ (q := 0) (As := []) (x := y35) X h (Nat.le_of_ble_eq_true rfl) (kX100_length l trivial (Nat.le_of_ble_eq_true rfl) e36) mv_X100_length rfl lk_X8_27 ⟨rfl, rfl⟩ ⟨(Nat.le_of_ble_eq_true rfl), (Nat.le_of_ble_eq_true rfl)⟩ rfl hl rfl (Nat.le_of_ble_eq_true rfl) ⟨by show ce ≤ 27; omega, by show sl ≤ 2135; omega⟩ dX8_init_93 (fun H locs h => ?_)
      obtain ⟨ha37, hf⟩ := wGd_s hf
      obtain ⟨g38, e39, hf⟩ := wLe_s hf
      refine rd_put (t := 1) (ci := 7) (j := 0) (C := RX8) (T := TX8) (N := 5) (x := y35) (val := .int y35) X h ha37 rfl rfl (by decide) iX8 tyX8_ok nmX8 rfl rfl rfl (Nat.le_of_ble_eq_true rfl) lk_X8_41 e39 rfl dX8_init_96 (fun H locs h => ?_)
      refine lv_aload_n X.x X.b dX8_init_99 rfl (lv_at hl 0 rfl) ?_
      obtain ⟨⟨hb40a, hb40b⟩, hf⟩ := wGd_s hf
      obtain ⟨hq41, hf⟩ := wGd_s hf
      obtain ⟨gs44, y43, e42, hf⟩ := wB2_s hf
      obtain ⟨g45, e46, hf⟩ := wLe_s hf
      refine rd_take X h hq41 e42 e46 lk_X8_45 ⟨(Nat.le_of_ble_eq_true rfl), (Nat.le_of_ble_eq_true rfl)⟩ hl (Nat.le_of_ble_eq_true rfl) ⟨by show ce ≤ 27; omega, by show sl ≤ 2135; omega⟩ dX8_init_100 (fun H locs h => ?_)
      refine lv_pop X.x X.b dX8_init_103 rfl ?_
      obtain ⟨hb47, hf⟩ := wGd_s hf
      cases (Option.some.inj hf).trans JR
      exact rd_ret X h (by omega) (by omega) dX8_init_104
    · have hf := wF c31 hf
      refine lv_iload_n X.x X.b dX8_init_62 rfl (lv_at hl 1 rfl) ?_
      refine lv_sipush (v := 160) X.x X.b dX8_init_63 (by decide) ?_
      refine lv_icmp_ge (tgt := 90) X.x X.b dX8_init_66 (by decide) (fun c48 => ?_) (fun c48 => ?_)
      · have hf := wT c48 hf
        obtain ⟨t49, hf, e50⟩ := wEx_s hf
        have JR := JR t49 e50
        refine lv_aload_n X.x X.b dX8_init_90 rfl (lv_at hl 0 rfl) ?_
        refine rd_lds X 0 rfl dX8_init_91 ?_
        obtain ⟨⟨hb51a, hb51b⟩, hf⟩ := wGd_s hf
        obtain ⟨y52, e53, hf⟩ := wBd_s hf
        refine rd_callJ (q := 0) (As := []) (x := y52) X h (Nat.le_of_ble_eq_true rfl) (kX100_length l trivial (Nat.le_of_ble_eq_true rfl) e53) mv_X100_length rfl lk_X8_27 ⟨rfl, rfl⟩ ⟨(Nat.le_of_ble_eq_true rfl), (Nat.le_of_ble_eq_true rfl)⟩ rfl hl rfl (Nat.le_of_ble_eq_true rfl) ⟨by show ce ≤ 27; omega, by show sl ≤ 2135; omega⟩ dX8_init_93 (fun H locs h => ?_)
        obtain ⟨ha54, hf⟩ := wGd_s hf
        obtain ⟨g55, e56, hf⟩ := wLe_s hf
        refine rd_put (t := 1) (ci := 7) (j := 0) (C := RX8) (T := TX8) (N := 5) (x := y52) (val := .int y52) X h ha54 rfl rfl (by decide) iX8 tyX8_ok nmX8 rfl rfl rfl (Nat.le_of_ble_eq_true rfl) lk_X8_41 e56 rfl dX8_init_96 (fun H locs h => ?_)
        refine lv_aload_n X.x X.b dX8_init_99 rfl (lv_at hl 0 rfl) ?_
        obtain ⟨⟨hb57a, hb57b⟩, hf⟩ := wGd_s hf
        obtain ⟨hq58, hf⟩ := wGd_s hf
        obtain ⟨gs61, y60, e59, hf⟩ := wB2_s hf
        obtain ⟨g62, e63, hf⟩ := wLe_s hf
        refine rd_take X h hq58 e59 e63 lk_X8_45 ⟨(Nat.le_of_ble_eq_true rfl), (Nat.le_of_ble_eq_true rfl)⟩ hl (Nat.le_of_ble_eq_true rfl) ⟨by show ce ≤ 27; omega, by show sl ≤ 2135; omega⟩ dX8_init_100 (fun H locs h => ?_)
        refine lv_pop X.x X.b dX8_init_103 rfl ?_
        obtain ⟨hb64, hf⟩ := wGd_s hf
        cases (Option.some.inj hf).trans JR
        exact rd_ret X h (by omega) (by omega) dX8_init_104
      · have hf := wF c48 hf
        refine lv_aload_n X.x X.b dX8_init_69 rfl (lv_at hl 0 rfl) ?_
        obtain ⟨ha65, hf⟩ := wGd_s hf
        obtain ⟨d66, e67, hf⟩ := wGn_s hf
        refine rd_get (t := 1) (ci := 7) (j := 4) (C := RX8) (T := TX8) (N := 5) (val := .ref (k.1 + d66)) X h ha65 rfl rfl (by decide) iX8 lk_X8_20 (congrArg some (rD_get k e67)) dX8_init_70 ?_
        obtain ⟨ha68, hf⟩ := wGd_s hf
        obtain ⟨d69, e70, hf⟩ := wGn_s hf
        refine rd_get (t := 3) (ci := 4) (j := 0) (C := RX5) (T := TX5) (N := 7) (val := .ref (k.1 + d69)) X h ha68 rfl rfl (by decide) iX5 lk_X8_33 (congrArg some (rD_get k e70)) dX8_init_73 ?_
        refine lv_iload_n X.x X.b dX8_init_76 rfl (lv_at hl 1 rfl) ?_
        refine rd_lds X 0 rfl dX8_init_77 ?_
        refine lv_iload_n X.x X.b dX8_init_79 rfl (lv_at hl 1 rfl) ?_
        obtain ⟨⟨hb71a, hb71b⟩, hf⟩ := wGd_s hf
        obtain ⟨y72, e73, hf⟩ := wBd_s hf
        refine rd_callJ (q := 0) (As := [.int x1]) (x := y72) X h (Nat.le_of_ble_eq_true rfl) (kX100_charAt l trivial (Nat.le_of_ble_eq_true rfl) e73) mv_X100_charAt rfl lk_X8_37 ⟨rfl, rfl⟩ ⟨(Nat.le_of_ble_eq_true rfl), (Nat.le_of_ble_eq_true rfl)⟩ rfl hl rfl (Nat.le_of_ble_eq_true rfl) ⟨by show ce ≤ 27; omega, by show sl ≤ 2135; omega⟩ dX8_init_80 (fun H locs h => ?_)
        obtain ⟨ha77, hf⟩ := wGd_s hf
        obtain ⟨b74, hf⟩ := wGi_s hf
        obtain ⟨g75, e76, hf⟩ := wLe_s hf
        refine rd_ast (t := 4) (N := 160) X h ha77 (fun _ => rfl) e76 b74 dX8_init_83 (fun H locs h => ?_)
        obtain ⟨y78, e79, hf⟩ := wLe_s hf
        refine lv_iinc (v := y78) (lv' := [(1, .int y78), (0, .ref (k.1 + c0))]) X.x X.b dX8_init_84 hl (k := 1) rfl (by rw [e79]; rfl) (by decide) rfl (fun ls hl => ?_)
        refine lv_goto (tgt := 53) X.x X.b dX8_init_87 (by decide) ?_
        exact J1 _ _ _ (Option.some.inj hf).symm _ _ _ _ _ hc hz h (lv_sub hl [1, 0] rfl)
def fX8_init_B26 (n0 : Nat) (n : Nat) (g : Mm) (c0 : Nat) (x1 : Int32) : Option ((Nat × Mm × Int32) ⊕ (Nat × Mm)) :=
  if (6 : Int32) ≤ x1 then (wEx (fX8_init_L53 n0 n g c0 (0 : Int32))) else (wGd (c0 < n ∧ c0 < 167 ∧ kdC c0 = 1) (wGn (g c0 0 0 3) fun d81 => wGd (kdC n = 5 ∧ slC (n + 1) = slC n + 4 ∧ n + 1 ≤ n0 + 27 ∧ slC (n + 1) ≤ slC n0 + 2135) (wLe (n + 1) fun n83 => wLe (nw g n) fun g84 => wB2 (fX6_init n83 g84 n) fun n89 g90 => wGd (n89 = n83 + 3 ∧ slC n89 = slC n83 + 323 ∧ n89 ≤ n0 + 27 ∧ slC n89 ≤ slC n0 + 2135) (wGd (d81 < n89 ∧ d81 < 167 ∧ kdC d81 = 2) (wGd (n < n89 ∧ n < 167 ∧ kdC n = 5) (wGd (n + 1 < 2 ^ 31) (wGi x1 6 (wLe (st g90 d81 0 0 (x1).toNatClampNeg (nI (n + 1))) fun g96 => wLe (x1 + 1) fun y101 => some (.inl (n89, g96, y101))))))))))
def fX8_init_L26 (n0 : Nat) (n : Nat) (g : Mm) (c0 : Nat) (x1 : Int32) : Option (Nat × Mm) :=
  wLp (fun q => fX8_init_B26 n0 q.1 q.2.1 c0 q.2.2) 1000 (n, g, x1)
set_option maxHeartbeats 4000000 in
set_option maxRecDepth 20000 in
theorem wX8_init_L26 {k : En} {n0 : Nat} {c0 : Nat} {res : Nat × Mm} (X : Cd k p s m args meth c cX8_init 2 RX8) {r : Nat × Mm} (JR : r = res) :
    ∀ (fu : Nat) (n : Nat) (g : Mm) (x1 : Int32) (ce sl : Nat) (H : Heap) (locs : List Loc) (ls : Array Slot), ce + n0 = n → sl + slC n0 = slC n → Hd DC k n s g H locs → lv_has ls 2 [(0, .ref (k.1 + c0)), (1, .int x1)] → wLp (fun q => fX8_init_B26 n0 q.1 q.2.1 c0 q.2.2) fu (n, g, x1) = some r → W p l e (RmI 118 27 2135 4426) s m args below meth c H locs ce sl (FinD DC k args s below 27 2135 res.1 res.2) (F0 m 26 ls []) := by
  intro fu
  induction fu with
  | zero => intro n g x1 ce sl H locs ls hc hz h hl hf; exact (wLp_0 hf).elim
  | succ fu ih1 =>
    intro n g x1 ce sl H locs ls hc hz h hl hf
    obtain ⟨r1, hf, hr⟩ := wLp_s hf
    have J1 : ∀ (n : Nat) (g : Mm) (x1 : Int32), r1 = .inl (n, g, x1) → ∀ (ce sl : Nat) (H : Heap) (locs : List Loc) (ls : Array Slot), ce + n0 = n → sl + slC n0 = slC n → Hd DC k n s g H locs → lv_has ls 2 [(0, .ref (k.1 + c0)), (1, .int x1)] → W p l e (RmI 118 27 2135 4426) s m args below meth c H locs ce sl (FinD DC k args s below 27 2135 res.1 res.2) (F0 m 26 ls []) := fun n g x1 q ce sl H locs ls hc hz h hl => by subst q; exact ih1 _ _ _ _ _ _ _ _ hc hz h hl hr
    have JR : ∀ t1, r1 = .inr t1 → t1 = res := fun t1 q => by subst q; obtain rfl := Option.some.inj hr; exact JR
    have hf : fX8_init_B26 n0 n g c0 x1 = some r1 := hf
    unfold fX8_init_B26 at hf
    refine lv_iload_n X.x X.b dX8_init_26 rfl (lv_at hl 1 rfl) ?_
    refine lv_bipush (v := 6) X.x X.b dX8_init_27 (by decide) ?_
    refine lv_icmp_ge (tgt := 51) X.x X.b dX8_init_29 (by decide) (fun c25 => ?_) (fun c25 => ?_)
    · have hf := wT c25 hf
      obtain ⟨t26, hf, e27⟩ := wEx_s hf
      have JR := JR t26 e27
      refine lv_iconst (v := 0) X.x X.b dX8_init_51 (by decide) ?_
      refine lv_istore_n (lv' := [(1, .int (0 : Int32)), (0, .ref (k.1 + c0))]) X.x X.b dX8_init_52 rfl hl (by decide) rfl (fun ls hl => ?_)
      exact wX8_init_L53 X JR _ _ _ _ _ _ _ _ _ hc hz h (lv_sub hl [1, 0] rfl) hf
    · have hf := wF c25 hf
      refine lv_aload_n X.x X.b dX8_init_32 rfl (lv_at hl 0 rfl) ?_
      obtain ⟨ha80, hf⟩ := wGd_s hf
      obtain ⟨d81, e82, hf⟩ := wGn_s hf
      refine rd_get (t := 1) (ci := 7) (j := 3) (C := RX8) (T := TX8) (N := 5) (val := .ref (k.1 + d81)) X h ha80 rfl rfl (by decide) iX8 lk_X8_13 (congrArg some (rD_get k e82)) dX8_init_33 ?_
      refine lv_iload_n X.x X.b dX8_init_36 rfl (lv_at hl 1 rfl) ?_
      obtain ⟨⟨hk87, ha88a, ha88b, ha88c⟩, hf⟩ := wGd_s hf
      obtain ⟨n83, e85, hf⟩ := wLe_s hf
      obtain ⟨g84, e86, hf⟩ := wLe_s hf
      have hc103 : (ce + 1) + n0 = n83 := by omega
      have hz104 : (sl + 4) + slC n0 = slC n83 := by rw [e85]; omega
      refine rd_new (cells' := (ce + 1)) (slots' := (sl + 4)) (t := 5) (C := RX6) (T := TX6) (N := 4) (ci := 5) X h hk87 rfl rfl iX6 tyX6_ok (fun j hj => match j, hj with | 0, _ => rfl | 1, _ => rfl | 2, _ => rfl | 3, _ => rfl | j + 4, hj => absurd hj (by omega)) cl_X8_11 in_X6 ini_X6 rfl rfl ⟨by show (ce + 1) ≤ 27; omega, by show (sl + 4) ≤ 2135; omega⟩ dX8_init_37 (fun H h => ?_)
      have hc := hc103
      have hz := hz104
      rw [← e85, ← e86] at h
      refine lv_dup X.x X.b dX8_init_40 rfl ?_
      obtain ⟨n89, g90, e91, hf⟩ := wB2_s hf
      obtain ⟨⟨hb92a, hb92b, hb92c, hb92d⟩, hf⟩ := wGd_s hf
      have hc93 : ((ce + 1) + 3) + n0 = n89 := by omega
      have hz94 : ((sl + 4) + 323) + slC n0 = slC n89 := by omega
      refine rd_calli (cells' := ((ce + 1) + 3)) (slots' := ((sl + 4) + 323)) (mc := 3) (ms := 323) (As := []) (n1 := n89) (g1 := g90) X h (kX6_init l  e91) miv_X6_init lk_X8_24 ⟨rfl, rfl⟩ ⟨(Nat.le_of_ble_eq_true rfl), (Nat.le_of_ble_eq_true rfl)⟩ rfl hl rfl (Nat.le_of_ble_eq_true rfl) rfl rfl ⟨by show ((ce + 1) + 3) ≤ 27; omega, by show ((sl + 4) + 323) ≤ 2135; omega⟩ dX8_init_41 (fun H locs h => ?_)
      have hc := hc93
      have hz := hz94
      obtain ⟨ha98, hf⟩ := wGd_s hf
      obtain ⟨ha99, hf⟩ := wGd_s hf
      obtain ⟨hb100, hf⟩ := wGd_s hf
      obtain ⟨b95, hf⟩ := wGi_s hf
      obtain ⟨g96, e97, hf⟩ := wLe_s hf
      refine rd_aast (t := 2) (N := 6) (q := 1) (t1 := 5) (ci := 5) (r := (RX6, TX6, 4)) X h ha98 (fun _ => rfl) rfl ha99 rfl rfl e97 hb100 b95 dX8_init_44 (fun H locs h => ?_)
      obtain ⟨y101, e102, hf⟩ := wLe_s hf
      refine lv_iinc (v := y101) (lv' := [(1, .int y101), (0, .ref (k.1 + c0))]) X.x X.b dX8_init_45 hl (k := 1) rfl (by rw [e102]; rfl) (by decide) rfl (fun ls hl => ?_)
      refine lv_goto (tgt := 26) X.x X.b dX8_init_48 (by decide) ?_
      exact J1 _ _ _ (Option.some.inj hf).symm _ _ _ _ _ hc hz h (lv_sub hl [1, 0] rfl)
def fX8_init (n0 : Nat) (g0 : Mm) (c0 : Nat) : Option (Nat × Mm) :=
  wGd (kdC n0 = 2 ∧ slC (n0 + 1) = slC n0 + 6 ∧ n0 + 1 ≤ n0 + 27 ∧ slC (n0 + 1) ≤ slC n0 + 2135) (wLe (n0 + 1) fun n1 => wLe (nw g0 n0) fun g2 => wGd (c0 < n1 ∧ c0 < 167 ∧ kdC c0 = 1) (wGd (n0 + 1 < 2 ^ 31) (wLe (st g2 c0 0 0 3 (nI (n0 + 1))) fun g8 => wGd (kdC n1 = 3 ∧ slC (n1 + 1) = slC n1 + 7 ∧ n1 + 1 ≤ n0 + 27 ∧ slC (n1 + 1) ≤ slC n0 + 2135) (wLe (n1 + 1) fun n10 => wLe (nw g8 n1) fun g11 => wB2 (fX5_init n10 g11 n1) fun n16 g17 => wGd (n16 = n10 + 1 ∧ slC n16 = slC n10 + 160 ∧ n16 ≤ n0 + 27 ∧ slC n16 ≤ slC n0 + 2135) (wGd (c0 < n16 ∧ c0 < 167 ∧ kdC c0 = 1) (wGd (n1 + 1 < 2 ^ 31) (wLe (st g17 c0 0 0 4 (nI (n1 + 1))) fun g23 => fX8_init_L26 n0 n16 g23 c0 (0 : Int32))))))))
set_option maxHeartbeats 4000000 in
set_option maxRecDepth 20000 in
theorem kX8_init (l : Launch) {k : En} {n0 : Nat} {c0 : Nat} {res : Nat × Mm} {g0 : Mm} (hf : fX8_init n0 g0 c0 = some res) : MtD l yX8_init cX8_init 2 (RmI 118 27 2135 4426) 27 2135 DC k n0 [.ref (k.1 + c0)] g0 res.1 res.2 := by
  refine MtD.of (by decide) rfl (Nat.le_of_ble_eq_true rfl) ?_
  intro p e s m args below meth c ls X h hl
  have X : Cd k p s m args meth c cX8_init 2 RX8 := X
  have hl : lv_has ls 2 [(0, .ref (k.1 + c0))] := hl
  have hc : 0 + n0 = n0 := Nat.zero_add _
  have hz : 0 + slC n0 = slC n0 := Nat.zero_add _
  have JR : res = res := rfl
  unfold fX8_init at hf
  refine lv_aload_n X.x X.b dX8_init_0 rfl (lv_at hl 0 rfl) ?_
  refine rd_obj X hl lk_X8_3 oi_f (Nat.le_of_ble_eq_true rfl) (Nat.le_of_ble_eq_true rfl) dX8_init_1 ?_
  refine lv_aload_n X.x X.b dX8_init_4 rfl (lv_at hl 0 rfl) ?_
  refine lv_bipush (v := 6) X.x X.b dX8_init_5 (by decide) ?_
  obtain ⟨⟨hk5, ha6a, ha6b, ha6c⟩, hf⟩ := wGd_s hf
  obtain ⟨n1, e3, hf⟩ := wLe_s hf
  obtain ⟨g2, e4, hf⟩ := wLe_s hf
  have hc109 : 1 + n0 = n1 := by omega
  have hz110 : 6 + slC n0 = slC n1 := by rw [e3]; omega
  refine rd_newq (cells' := 1) (slots' := 6) (t := 2) (N := 6) (q := 1) (C := "WingPort$Rule") X h hk5 (fun _ => rfl) rfl (by decide) (by decide) (by decide) cl_X8_11 arr_1 rfl rfl ⟨by show 1 ≤ 27; omega, by show 6 ≤ 2135; omega⟩ dX8_init_7 (fun H h => ?_)
  have hc := hc109
  have hz := hz110
  rw [← e3, ← e4] at h
  obtain ⟨ha7, hf⟩ := wGd_s hf
  obtain ⟨hb108, hf⟩ := wGd_s hf
  obtain ⟨g8, e9, hf⟩ := wLe_s hf
  refine rd_put (t := 1) (ci := 7) (j := 3) (C := RX8) (T := TX8) (N := 5) (x := nI (n0 + 1)) (val := .ref (k.1 + n0)) X h ha7 rfl rfl (by decide) iX8 tyX8_ok nmX8 rfl rfl rfl (Nat.le_of_ble_eq_true rfl) lk_X8_13 e9 (congrArg (fun z => (Sum.inr (7, [.int (g2 c0 0 0 0), .int (g2 c0 0 0 1), .int (g2 c0 0 0 2), z, rD k (g2 c0 0 0 4)]) : va_E)) (rD_set k hb108)) dX8_init_10 (fun H locs h => ?_)
  refine lv_aload_n X.x X.b dX8_init_13 rfl (lv_at hl 0 rfl) ?_
  obtain ⟨⟨hk14, ha15a, ha15b, ha15c⟩, hf⟩ := wGd_s hf
  obtain ⟨n10, e12, hf⟩ := wLe_s hf
  obtain ⟨g11, e13, hf⟩ := wLe_s hf
  have hc106 : 2 + n0 = n10 := by omega
  have hz107 : 13 + slC n0 = slC n10 := by rw [e12]; omega
  refine rd_new (cells' := 2) (slots' := 13) (t := 3) (C := RX5) (T := TX5) (N := 7) (ci := 4) X h hk14 rfl rfl iX5 tyX5_ok (fun j hj => match j, hj with | 0, _ => rfl | 1, _ => rfl | 2, _ => rfl | 3, _ => rfl | 4, _ => rfl | 5, _ => rfl | 6, _ => rfl | j + 7, hj => absurd hj (by omega)) cl_X8_17 in_X5 ini_X5 rfl rfl ⟨by show 2 ≤ 27; omega, by show 13 ≤ 2135; omega⟩ dX8_init_14 (fun H h => ?_)
  have hc := hc106
  have hz := hz107
  rw [← e12, ← e13] at h
  refine lv_dup X.x X.b dX8_init_17 rfl ?_
  obtain ⟨n16, g17, e18, hf⟩ := wB2_s hf
  obtain ⟨⟨hb19a, hb19b, hb19c, hb19d⟩, hf⟩ := wGd_s hf
  have hc20 : 3 + n0 = n16 := by omega
  have hz21 : 173 + slC n0 = slC n16 := by omega
  refine rd_calli (cells' := 3) (slots' := 173) (mc := 1) (ms := 160) (As := []) (n1 := n16) (g1 := g17) X h (kX5_init l  e18) miv_X5_init lk_X8_19 ⟨rfl, rfl⟩ ⟨(Nat.le_of_ble_eq_true rfl), (Nat.le_of_ble_eq_true rfl)⟩ rfl hl rfl (Nat.le_of_ble_eq_true rfl) rfl rfl ⟨by show 3 ≤ 27; omega, by show 173 ≤ 2135; omega⟩ dX8_init_18 (fun H locs h => ?_)
  have hc := hc20
  have hz := hz21
  obtain ⟨ha22, hf⟩ := wGd_s hf
  obtain ⟨hb105, hf⟩ := wGd_s hf
  obtain ⟨g23, e24, hf⟩ := wLe_s hf
  refine rd_put (t := 1) (ci := 7) (j := 4) (C := RX8) (T := TX8) (N := 5) (x := nI (n1 + 1)) (val := .ref (k.1 + n1)) X h ha22 rfl rfl (by decide) iX8 tyX8_ok nmX8 rfl rfl rfl (Nat.le_of_ble_eq_true rfl) lk_X8_20 e24 (congrArg (fun z => (Sum.inr (7, [.int (g17 c0 0 0 0), .int (g17 c0 0 0 1), .int (g17 c0 0 0 2), rD k (g17 c0 0 0 3), z]) : va_E)) (rD_set k hb105)) dX8_init_21 (fun H locs h => ?_)
  refine lv_iconst (v := 0) X.x X.b dX8_init_24 (by decide) ?_
  refine lv_istore_n (lv' := [(1, .int (0 : Int32)), (0, .ref (k.1 + c0))]) X.x X.b dX8_init_25 rfl hl (by decide) rfl (fun ls hl => ?_)
  exact wX8_init_L26 X JR _ _ _ _ _ _ _ _ _ hc hz h (lv_sub hl [1, 0] rfl) hf
def fX10_init_B83 (n0 : Nat) (n : Nat) (g : Mm) (c0 : Nat) (x1 : Int32) : Option ((Nat × Mm × Int32) ⊕ (Nat × Mm)) :=
  if (4 : Int32) ≤ x1 then (wEx (wGd (n ≤ n0 + 166 ∧ slC n ≤ slC n0 + 3564) (some (n, g)))) else (wGd (c0 < n ∧ c0 < 167 ∧ kdC c0 = 0) (wGn (g c0 0 0 5) fun d106 => wGd (kdC n = 29 ∧ slC (n + 1) = slC n + 3 ∧ n + 1 ≤ n0 + 166 ∧ slC (n + 1) ≤ slC n0 + 3564) (wLe (n + 1) fun n108 => wLe (nw g n) fun g109 => wB2 (fX7_init n108 g109 n) fun n114 g115 => wGd (n114 = n108 + 1 ∧ slC n114 = slC n108 + 40 ∧ n114 ≤ n0 + 166 ∧ slC n114 ≤ slC n0 + 3564) (wGd (d106 < n114 ∧ d106 < 167 ∧ kdC d106 = 28) (wGd (n < n114 ∧ n < 167 ∧ kdC n = 29) (wGd (n + 1 < 2 ^ 31) (wGi x1 4 (wLe (st g115 d106 0 0 (x1).toNatClampNeg (nI (n + 1))) fun g121 => wLe (x1 + 1) fun y126 => some (.inl (n114, g121, y126))))))))))
def fX10_init_L83 (n0 : Nat) (n : Nat) (g : Mm) (c0 : Nat) (x1 : Int32) : Option (Nat × Mm) :=
  wLp (fun q => fX10_init_B83 n0 q.1 q.2.1 c0 q.2.2) 1000 (n, g, x1)
set_option maxHeartbeats 4000000 in
set_option maxRecDepth 20000 in
theorem wX10_init_L83 {k : En} {n0 : Nat} {c0 : Nat} {res : Nat × Mm} (X : Cd k p s m args meth c cX10_init 2 RX10) {r : Nat × Mm} (JR : r = res) :
    ∀ (fu : Nat) (n : Nat) (g : Mm) (x1 : Int32) (ce sl : Nat) (H : Heap) (locs : List Loc) (ls : Array Slot), ce + n0 = n → sl + slC n0 = slC n → Hd DC k n s g H locs → lv_has ls 2 [(0, .ref (k.1 + c0)), (1, .int x1)] → wLp (fun q => fX10_init_B83 n0 q.1 q.2.1 c0 q.2.2) fu (n, g, x1) = some r → W p l e (RmI 119 166 3564 4447) s m args below meth c H locs ce sl (FinD DC k args s below 166 3564 res.1 res.2) (F0 m 83 ls []) := by
  intro fu
  induction fu with
  | zero => intro n g x1 ce sl H locs ls hc hz h hl hf; exact (wLp_0 hf).elim
  | succ fu ih1 =>
    intro n g x1 ce sl H locs ls hc hz h hl hf
    obtain ⟨r1, hf, hr⟩ := wLp_s hf
    have J1 : ∀ (n : Nat) (g : Mm) (x1 : Int32), r1 = .inl (n, g, x1) → ∀ (ce sl : Nat) (H : Heap) (locs : List Loc) (ls : Array Slot), ce + n0 = n → sl + slC n0 = slC n → Hd DC k n s g H locs → lv_has ls 2 [(0, .ref (k.1 + c0)), (1, .int x1)] → W p l e (RmI 119 166 3564 4447) s m args below meth c H locs ce sl (FinD DC k args s below 166 3564 res.1 res.2) (F0 m 83 ls []) := fun n g x1 q ce sl H locs ls hc hz h hl => by subst q; exact ih1 _ _ _ _ _ _ _ _ hc hz h hl hr
    have JR : ∀ t1, r1 = .inr t1 → t1 = res := fun t1 q => by subst q; obtain rfl := Option.some.inj hr; exact JR
    have hf : fX10_init_B83 n0 n g c0 x1 = some r1 := hf
    unfold fX10_init_B83 at hf
    refine lv_iload_n X.x X.b dX10_init_83 rfl (lv_at hl 1 rfl) ?_
    refine lv_iconst (v := 4) X.x X.b dX10_init_84 (by decide) ?_
    refine lv_icmp_ge (tgt := 107) X.x X.b dX10_init_85 (by decide) (fun c101 => ?_) (fun c101 => ?_)
    · have hf := wT c101 hf
      obtain ⟨t102, hf, e103⟩ := wEx_s hf
      have JR := JR t102 e103
      obtain ⟨hb104, hf⟩ := wGd_s hf
      cases (Option.some.inj hf).trans JR
      exact rd_ret X h (by omega) (by omega) dX10_init_107
    · have hf := wF c101 hf
      refine lv_aload_n X.x X.b dX10_init_88 rfl (lv_at hl 0 rfl) ?_
      obtain ⟨ha105, hf⟩ := wGd_s hf
      obtain ⟨d106, e107, hf⟩ := wGn_s hf
      refine rd_get (t := 0) (ci := 9) (j := 5) (C := RX10) (T := TX10) (N := 6) (val := .ref (k.1 + d106)) X h ha105 rfl rfl (by decide) iX10 lk_X10_48 (congrArg some (rD_get k e107)) dX10_init_89 ?_
      refine lv_iload_n X.x X.b dX10_init_92 rfl (lv_at hl 1 rfl) ?_
      obtain ⟨⟨hk112, ha113a, ha113b, ha113c⟩, hf⟩ := wGd_s hf
      obtain ⟨n108, e110, hf⟩ := wLe_s hf
      obtain ⟨g109, e111, hf⟩ := wLe_s hf
      have hc128 : (ce + 1) + n0 = n108 := by omega
      have hz129 : (sl + 3) + slC n0 = slC n108 := by rw [e110]; omega
      refine rd_new (cells' := (ce + 1)) (slots' := (sl + 3)) (t := 29) (C := RX7) (T := TX7) (N := 3) (ci := 6) X h hk112 rfl rfl iX7 tyX7_ok (fun j hj => match j, hj with | 0, _ => rfl | 1, _ => rfl | 2, _ => rfl | j + 3, hj => absurd hj (by omega)) cl_X10_46 in_X7 ini_X7 rfl rfl ⟨by show (ce + 1) ≤ 166; omega, by show (sl + 3) ≤ 3564; omega⟩ dX10_init_93 (fun H h => ?_)
      have hc := hc128
      have hz := hz129
      rw [← e110, ← e111] at h
      refine lv_dup X.x X.b dX10_init_96 rfl ?_
      obtain ⟨n114, g115, e116, hf⟩ := wB2_s hf
      obtain ⟨⟨hb117a, hb117b, hb117c, hb117d⟩, hf⟩ := wGd_s hf
      have hc118 : ((ce + 1) + 1) + n0 = n114 := by omega
      have hz119 : ((sl + 3) + 40) + slC n0 = slC n114 := by omega
      refine rd_calli (cells' := ((ce + 1) + 1)) (slots' := ((sl + 3) + 40)) (mc := 1) (ms := 40) (As := []) (n1 := n114) (g1 := g115) X h (kX7_init l  e116) miv_X7_init lk_X10_52 ⟨rfl, rfl⟩ ⟨(Nat.le_of_ble_eq_true rfl), (Nat.le_of_ble_eq_true rfl)⟩ rfl hl rfl (Nat.le_of_ble_eq_true rfl) rfl rfl ⟨by show ((ce + 1) + 1) ≤ 166; omega, by show ((sl + 3) + 40) ≤ 3564; omega⟩ dX10_init_97 (fun H locs h => ?_)
      have hc := hc118
      have hz := hz119
      obtain ⟨ha123, hf⟩ := wGd_s hf
      obtain ⟨ha124, hf⟩ := wGd_s hf
      obtain ⟨hb125, hf⟩ := wGd_s hf
      obtain ⟨b120, hf⟩ := wGi_s hf
      obtain ⟨g121, e122, hf⟩ := wLe_s hf
      refine rd_aast (t := 28) (N := 4) (q := 4) (t1 := 29) (ci := 6) (r := (RX7, TX7, 3)) X h ha123 (fun _ => rfl) rfl ha124 rfl rfl e122 hb125 b120 dX10_init_100 (fun H locs h => ?_)
      obtain ⟨y126, e127, hf⟩ := wLe_s hf
      refine lv_iinc (v := y126) (lv' := [(1, .int y126), (0, .ref (k.1 + c0))]) X.x X.b dX10_init_101 hl (k := 1) rfl (by rw [e127]; rfl) (by decide) rfl (fun ls hl => ?_)
      refine lv_goto (tgt := 83) X.x X.b dX10_init_104 (by decide) ?_
      exact J1 _ _ _ (Option.some.inj hf).symm _ _ _ _ _ hc hz h (lv_sub hl [1, 0] rfl)
def fX10_init (n0 : Nat) (g0 : Mm) (c0 : Nat) : Option (Nat × Mm) :=
  wGd (kdC n0 = 1 ∧ slC (n0 + 1) = slC n0 + 5 ∧ n0 + 1 ≤ n0 + 166 ∧ slC (n0 + 1) ≤ slC n0 + 3564) (wLe (n0 + 1) fun n1 => wLe (nw g0 n0) fun g2 => wB2 (fX8_init n1 g2 n0) fun n7 g8 => wGd (n7 = n1 + 27 ∧ slC n7 = slC n1 + 2135 ∧ n7 ≤ n0 + 166 ∧ slC n7 ≤ slC n0 + 3564) (wGd (c0 < n7 ∧ c0 < 167 ∧ kdC c0 = 0) (wGd (n0 + 1 < 2 ^ 31) (wLe (st g8 c0 0 0 2 (nI (n0 + 1))) fun g14 => wGd (kdC n7 = 9 ∧ slC (n7 + 1) = slC n7 + 14 ∧ n7 + 1 ≤ n0 + 166 ∧ slC (n7 + 1) ≤ slC n0 + 3564) (wLe (n7 + 1) fun n16 => wLe (nw g14 n7) fun g17 => wGd (c0 < n16 ∧ c0 < 167 ∧ kdC c0 = 0) (wGn (g17 c0 0 0 2) fun d23 => wGd (n16 ≤ n0 + 166 ∧ slC n16 ≤ slC n0 + 3564) (wGd (d23 = 1 ∧ 29 ≤ n16 ∧ ckT g17 = true) (wBd (fX8_rule (toS g17)) fun y28 => wGd (y28 < 6) (wB2 (fX4_init n16 g17 n7 y28) fun n30 g31 => wGd (n30 = n16 + 61 ∧ slC n30 = slC n16 + 546 ∧ n30 ≤ n0 + 166 ∧ slC n30 ≤ slC n0 + 3564) (wGd (c0 < n30 ∧ c0 < 167 ∧ kdC c0 = 0) (wGd (n7 + 1 < 2 ^ 31) (wLe (st g31 c0 0 0 0 (nI (n7 + 1))) fun g37 => wGd (kdC n30 = 9 ∧ slC (n30 + 1) = slC n30 + 14 ∧ n30 + 1 ≤ n0 + 166 ∧ slC (n30 + 1) ≤ slC n0 + 3564) (wLe (n30 + 1) fun n39 => wLe (nw g37 n30) fun g40 => wGd (c0 < n39 ∧ c0 < 167 ∧ kdC c0 = 0) (wGn (g40 c0 0 0 2) fun d46 => wGd (n39 ≤ n0 + 166 ∧ slC n39 ≤ slC n0 + 3564) (wGd (d46 = 1 ∧ 29 ≤ n39 ∧ ckT g40 = true) (wBd (fX8_rule (toS g40)) fun y51 => wGd (y51 < 6) (wB2 (fX4_init n39 g40 n30 y51) fun n53 g54 => wGd (n53 = n39 + 61 ∧ slC n53 = slC n39 + 546 ∧ n53 ≤ n0 + 166 ∧ slC n53 ≤ slC n0 + 3564) (wGd (c0 < n53 ∧ c0 < 167 ∧ kdC c0 = 0) (wGd (n30 + 1 < 2 ^ 31) (wLe (st g54 c0 0 0 1 (nI (n30 + 1))) fun g60 => wGd (kdC n53 = 23 ∧ slC (n53 + 1) = slC n53 + 4 ∧ n53 + 1 ≤ n0 + 166 ∧ slC (n53 + 1) ≤ slC n0 + 3564) (wLe (n53 + 1) fun n62 => wLe (nw g60 n53) fun g63 => wB2 (fX2_init n62 g63 n53) fun n68 g69 => wGd (n68 = n62 + 0 ∧ slC n68 = slC n62 + 0 ∧ n68 ≤ n0 + 166 ∧ slC n68 ≤ slC n0 + 3564) (wGd (c0 < n68 ∧ c0 < 167 ∧ kdC c0 = 0) (wGd (n53 + 1 < 2 ^ 31) (wLe (st g69 c0 0 0 3 (nI (n53 + 1))) fun g75 => wGd (kdC n68 = 24 ∧ slC (n68 + 1) = slC n68 + 4 ∧ n68 + 1 ≤ n0 + 166 ∧ slC (n68 + 1) ≤ slC n0 + 3564) (wLe (n68 + 1) fun n77 => wLe (nw g75 n68) fun g78 => wB2 (fX0_init n77 g78 n68) fun n83 g84 => wGd (n83 = n77 + 3 ∧ slC n83 = slC n77 + 120 ∧ n83 ≤ n0 + 166 ∧ slC n83 ≤ slC n0 + 3564) (wGd (c0 < n83 ∧ c0 < 167 ∧ kdC c0 = 0) (wGd (n68 + 1 < 2 ^ 31) (wLe (st g84 c0 0 0 4 (nI (n68 + 1))) fun g90 => wGd (kdC n83 = 28 ∧ slC (n83 + 1) = slC n83 + 4 ∧ n83 + 1 ≤ n0 + 166 ∧ slC (n83 + 1) ≤ slC n0 + 3564) (wLe (n83 + 1) fun n92 => wLe (nw g90 n83) fun g93 => wGd (c0 < n92 ∧ c0 < 167 ∧ kdC c0 = 0) (wGd (n83 + 1 < 2 ^ 31) (wLe (st g93 c0 0 0 5 (nI (n83 + 1))) fun g99 => fX10_init_L83 n0 n92 g99 c0 (0 : Int32))))))))))))))))))))))))))))))))
set_option maxHeartbeats 4000000 in
set_option maxRecDepth 20000 in
theorem kX10_init (l : Launch) {k : En} {n0 : Nat} {c0 : Nat} {res : Nat × Mm} {g0 : Mm} (hf : fX10_init n0 g0 c0 = some res) : MtD l yX10_init cX10_init 2 (RmI 119 166 3564 4447) 166 3564 DC k n0 [.ref (k.1 + c0)] g0 res.1 res.2 := by
  refine MtD.of (by decide) rfl (Nat.le_of_ble_eq_true rfl) ?_
  intro p e s m args below meth c ls X h hl
  have X : Cd k p s m args meth c cX10_init 2 RX10 := X
  have hl : lv_has ls 2 [(0, .ref (k.1 + c0))] := hl
  have hc : 0 + n0 = n0 := Nat.zero_add _
  have hz : 0 + slC n0 = slC n0 := Nat.zero_add _
  have JR : res = res := rfl
  unfold fX10_init at hf
  refine lv_aload_n X.x X.b dX10_init_0 rfl (lv_at hl 0 rfl) ?_
  refine rd_obj X hl lk_X10_1 oi_f (Nat.le_of_ble_eq_true rfl) (Nat.le_of_ble_eq_true rfl) dX10_init_1 ?_
  refine lv_aload_n X.x X.b dX10_init_4 rfl (lv_at hl 0 rfl) ?_
  obtain ⟨⟨hk5, ha6a, ha6b, ha6c⟩, hf⟩ := wGd_s hf
  obtain ⟨n1, e3, hf⟩ := wLe_s hf
  obtain ⟨g2, e4, hf⟩ := wLe_s hf
  have hc146 : 1 + n0 = n1 := by omega
  have hz147 : 5 + slC n0 = slC n1 := by rw [e3]; omega
  refine rd_new (cells' := 1) (slots' := 5) (t := 1) (C := RX8) (T := TX8) (N := 5) (ci := 7) X h hk5 rfl rfl iX8 tyX8_ok (fun j hj => match j, hj with | 0, _ => rfl | 1, _ => rfl | 2, _ => rfl | 3, _ => rfl | 4, _ => rfl | j + 5, hj => absurd hj (by omega)) cl_X10_7 in_X8 ini_X8 rfl rfl ⟨by show 1 ≤ 166; omega, by show 5 ≤ 3564; omega⟩ dX10_init_5 (fun H h => ?_)
  have hc := hc146
  have hz := hz147
  rw [← e3, ← e4] at h
  refine lv_dup X.x X.b dX10_init_8 rfl ?_
  obtain ⟨n7, g8, e9, hf⟩ := wB2_s hf
  obtain ⟨⟨hb10a, hb10b, hb10c, hb10d⟩, hf⟩ := wGd_s hf
  have hc11 : 28 + n0 = n7 := by omega
  have hz12 : 2140 + slC n0 = slC n7 := by omega
  refine rd_calli (cells' := 28) (slots' := 2140) (mc := 27) (ms := 2135) (As := []) (n1 := n7) (g1 := g8) X h (kX8_init l  e9) miv_X8_init lk_X10_9 ⟨rfl, rfl⟩ ⟨(Nat.le_of_ble_eq_true rfl), (Nat.le_of_ble_eq_true rfl)⟩ rfl hl rfl (Nat.le_of_ble_eq_true rfl) rfl rfl ⟨by show 28 ≤ 166; omega, by show 2140 ≤ 3564; omega⟩ dX10_init_9 (fun H locs h => ?_)
  have hc := hc11
  have hz := hz12
  obtain ⟨ha13, hf⟩ := wGd_s hf
  obtain ⟨hb145, hf⟩ := wGd_s hf
  obtain ⟨g14, e15, hf⟩ := wLe_s hf
  refine rd_put (t := 0) (ci := 9) (j := 2) (C := RX10) (T := TX10) (N := 6) (x := nI (n0 + 1)) (val := .ref (k.1 + n0)) X h ha13 rfl rfl (by decide) iX10 tyX10_ok nmX10 rfl rfl rfl (Nat.le_of_ble_eq_true rfl) lk_X10_10 e15 (congrArg (fun z => (Sum.inr (9, [rD k (g8 c0 0 0 0), rD k (g8 c0 0 0 1), z, rD k (g8 c0 0 0 3), rD k (g8 c0 0 0 4), rD k (g8 c0 0 0 5)]) : va_E)) (rD_set k hb145)) dX10_init_12 (fun H locs h => ?_)
  refine lv_aload_n X.x X.b dX10_init_15 rfl (lv_at hl 0 rfl) ?_
  obtain ⟨⟨hk20, ha21a, ha21b, ha21c⟩, hf⟩ := wGd_s hf
  obtain ⟨n16, e18, hf⟩ := wLe_s hf
  obtain ⟨g17, e19, hf⟩ := wLe_s hf
  have hc143 : 29 + n0 = n16 := by omega
  have hz144 : 2154 + slC n0 = slC n16 := by rw [e18]; omega
  refine rd_new (cells' := 29) (slots' := 2154) (t := 9) (C := RX4) (T := TX4) (N := 14) (ci := 3) X h hk20 rfl rfl iX4 tyX4_ok (fun j hj => match j, hj with | 0, _ => rfl | 1, _ => rfl | 2, _ => rfl | 3, _ => rfl | 4, _ => rfl | 5, _ => rfl | 6, _ => rfl | 7, _ => rfl | 8, _ => rfl | 9, _ => rfl | 10, _ => rfl | 11, _ => rfl | 12, _ => rfl | 13, _ => rfl | j + 14, hj => absurd hj (by omega)) cl_X10_16 in_X4 ini_X4 rfl rfl ⟨by show 29 ≤ 166; omega, by show 2154 ≤ 3564; omega⟩ dX10_init_16 (fun H h => ?_)
  have hc := hc143
  have hz := hz144
  rw [← e18, ← e19] at h
  refine lv_dup X.x X.b dX10_init_19 rfl ?_
  refine lv_aload_n X.x X.b dX10_init_20 rfl (lv_at hl 0 rfl) ?_
  obtain ⟨ha22, hf⟩ := wGd_s hf
  obtain ⟨d23, e24, hf⟩ := wGn_s hf
  refine rd_get (t := 0) (ci := 9) (j := 2) (C := RX10) (T := TX10) (N := 6) (val := .ref (k.1 + d23)) X h ha22 rfl rfl (by decide) iX10 lk_X10_10 (congrArg some (rD_get k e24)) dX10_init_21 ?_
  obtain ⟨⟨hb25a, hb25b⟩, hf⟩ := wGd_s hf
  obtain ⟨hq26, hf⟩ := wGd_s hf
  obtain ⟨y28, e27, hf⟩ := wBd_s hf
  obtain ⟨h629, hf⟩ := wGd_s hf
  refine rd_rule X h hq26 e27 lk_X10_18 ⟨(Nat.le_of_ble_eq_true rfl), (Nat.le_of_ble_eq_true rfl)⟩ hl (Nat.le_of_ble_eq_true rfl) ⟨by show 29 ≤ 166; omega, by show 2154 ≤ 3564; omega⟩ dX10_init_24 (fun H locs h => ?_)
  obtain ⟨n30, g31, e32, hf⟩ := wB2_s hf
  obtain ⟨⟨hb33a, hb33b, hb33c, hb33d⟩, hf⟩ := wGd_s hf
  have hc34 : 90 + n0 = n30 := by omega
  have hz35 : 2700 + slC n0 = slC n30 := by omega
  refine rd_calli (cells' := 90) (slots' := 2700) (mc := 61) (ms := 546) (As := [.ref (k.1 + adC 5 y28 0)]) (n1 := n30) (g1 := g31) X h (kX4_init l h629 e32) miv_X4_init lk_X10_22 ⟨rfl, rfl⟩ ⟨(Nat.le_of_ble_eq_true rfl), (Nat.le_of_ble_eq_true rfl)⟩ rfl hl rfl (Nat.le_of_ble_eq_true rfl) rfl rfl ⟨by show 90 ≤ 166; omega, by show 2700 ≤ 3564; omega⟩ dX10_init_27 (fun H locs h => ?_)
  have hc := hc34
  have hz := hz35
  obtain ⟨ha36, hf⟩ := wGd_s hf
  obtain ⟨hb142, hf⟩ := wGd_s hf
  obtain ⟨g37, e38, hf⟩ := wLe_s hf
  refine rd_put (t := 0) (ci := 9) (j := 0) (C := RX10) (T := TX10) (N := 6) (x := nI (n7 + 1)) (val := .ref (k.1 + n7)) X h ha36 rfl rfl (by decide) iX10 tyX10_ok nmX10 rfl rfl rfl (Nat.le_of_ble_eq_true rfl) lk_X10_25 e38 (congrArg (fun z => (Sum.inr (9, [z, rD k (g31 c0 0 0 1), rD k (g31 c0 0 0 2), rD k (g31 c0 0 0 3), rD k (g31 c0 0 0 4), rD k (g31 c0 0 0 5)]) : va_E)) (rD_set k hb142)) dX10_init_30 (fun H locs h => ?_)
  refine lv_aload_n X.x X.b dX10_init_33 rfl (lv_at hl 0 rfl) ?_
  obtain ⟨⟨hk43, ha44a, ha44b, ha44c⟩, hf⟩ := wGd_s hf
  obtain ⟨n39, e41, hf⟩ := wLe_s hf
  obtain ⟨g40, e42, hf⟩ := wLe_s hf
  have hc140 : 91 + n0 = n39 := by omega
  have hz141 : 2714 + slC n0 = slC n39 := by rw [e41]; omega
  refine rd_new (cells' := 91) (slots' := 2714) (t := 9) (C := RX4) (T := TX4) (N := 14) (ci := 3) X h hk43 rfl rfl iX4 tyX4_ok (fun j hj => match j, hj with | 0, _ => rfl | 1, _ => rfl | 2, _ => rfl | 3, _ => rfl | 4, _ => rfl | 5, _ => rfl | 6, _ => rfl | 7, _ => rfl | 8, _ => rfl | 9, _ => rfl | 10, _ => rfl | 11, _ => rfl | 12, _ => rfl | 13, _ => rfl | j + 14, hj => absurd hj (by omega)) cl_X10_16 in_X4 ini_X4 rfl rfl ⟨by show 91 ≤ 166; omega, by show 2714 ≤ 3564; omega⟩ dX10_init_34 (fun H h => ?_)
  have hc := hc140
  have hz := hz141
  rw [← e41, ← e42] at h
  refine lv_dup X.x X.b dX10_init_37 rfl ?_
  refine lv_aload_n X.x X.b dX10_init_38 rfl (lv_at hl 0 rfl) ?_
  obtain ⟨ha45, hf⟩ := wGd_s hf
  obtain ⟨d46, e47, hf⟩ := wGn_s hf
  refine rd_get (t := 0) (ci := 9) (j := 2) (C := RX10) (T := TX10) (N := 6) (val := .ref (k.1 + d46)) X h ha45 rfl rfl (by decide) iX10 lk_X10_10 (congrArg some (rD_get k e47)) dX10_init_39 ?_
  obtain ⟨⟨hb48a, hb48b⟩, hf⟩ := wGd_s hf
  obtain ⟨hq49, hf⟩ := wGd_s hf
  obtain ⟨y51, e50, hf⟩ := wBd_s hf
  obtain ⟨h652, hf⟩ := wGd_s hf
  refine rd_rule X h hq49 e50 lk_X10_18 ⟨(Nat.le_of_ble_eq_true rfl), (Nat.le_of_ble_eq_true rfl)⟩ hl (Nat.le_of_ble_eq_true rfl) ⟨by show 91 ≤ 166; omega, by show 2714 ≤ 3564; omega⟩ dX10_init_42 (fun H locs h => ?_)
  obtain ⟨n53, g54, e55, hf⟩ := wB2_s hf
  obtain ⟨⟨hb56a, hb56b, hb56c, hb56d⟩, hf⟩ := wGd_s hf
  have hc57 : 152 + n0 = n53 := by omega
  have hz58 : 3260 + slC n0 = slC n53 := by omega
  refine rd_calli (cells' := 152) (slots' := 3260) (mc := 61) (ms := 546) (As := [.ref (k.1 + adC 5 y51 0)]) (n1 := n53) (g1 := g54) X h (kX4_init l h652 e55) miv_X4_init lk_X10_22 ⟨rfl, rfl⟩ ⟨(Nat.le_of_ble_eq_true rfl), (Nat.le_of_ble_eq_true rfl)⟩ rfl hl rfl (Nat.le_of_ble_eq_true rfl) rfl rfl ⟨by show 152 ≤ 166; omega, by show 3260 ≤ 3564; omega⟩ dX10_init_45 (fun H locs h => ?_)
  have hc := hc57
  have hz := hz58
  obtain ⟨ha59, hf⟩ := wGd_s hf
  obtain ⟨hb139, hf⟩ := wGd_s hf
  obtain ⟨g60, e61, hf⟩ := wLe_s hf
  refine rd_put (t := 0) (ci := 9) (j := 1) (C := RX10) (T := TX10) (N := 6) (x := nI (n30 + 1)) (val := .ref (k.1 + n30)) X h ha59 rfl rfl (by decide) iX10 tyX10_ok nmX10 rfl rfl rfl (Nat.le_of_ble_eq_true rfl) lk_X10_29 e61 (congrArg (fun z => (Sum.inr (9, [rD k (g54 c0 0 0 0), z, rD k (g54 c0 0 0 2), rD k (g54 c0 0 0 3), rD k (g54 c0 0 0 4), rD k (g54 c0 0 0 5)]) : va_E)) (rD_set k hb139)) dX10_init_48 (fun H locs h => ?_)
  refine lv_aload_n X.x X.b dX10_init_51 rfl (lv_at hl 0 rfl) ?_
  obtain ⟨⟨hk66, ha67a, ha67b, ha67c⟩, hf⟩ := wGd_s hf
  obtain ⟨n62, e64, hf⟩ := wLe_s hf
  obtain ⟨g63, e65, hf⟩ := wLe_s hf
  have hc137 : 153 + n0 = n62 := by omega
  have hz138 : 3264 + slC n0 = slC n62 := by rw [e64]; omega
  refine rd_new (cells' := 153) (slots' := 3264) (t := 23) (C := RX2) (T := TX2) (N := 4) (ci := 2) X h hk66 rfl rfl iX2 tyX2_ok (fun j hj => match j, hj with | 0, _ => rfl | 1, _ => rfl | 2, _ => rfl | 3, _ => rfl | j + 4, hj => absurd hj (by omega)) cl_X10_32 in_X2 ini_X2 rfl rfl ⟨by show 153 ≤ 166; omega, by show 3264 ≤ 3564; omega⟩ dX10_init_52 (fun H h => ?_)
  have hc := hc137
  have hz := hz138
  rw [← e64, ← e65] at h
  refine lv_dup X.x X.b dX10_init_55 rfl ?_
  obtain ⟨n68, g69, e70, hf⟩ := wB2_s hf
  obtain ⟨⟨hb71a, hb71b, hb71c, hb71d⟩, hf⟩ := wGd_s hf
  have hc72 : 153 + n0 = n68 := by omega
  have hz73 : 3264 + slC n0 = slC n68 := by omega
  refine rd_calli (cells' := 153) (slots' := 3264) (mc := 0) (ms := 0) (As := []) (n1 := n68) (g1 := g69) X h (kX2_init l  e70) miv_X2_init lk_X10_34 ⟨rfl, rfl⟩ ⟨(Nat.le_of_ble_eq_true rfl), (Nat.le_of_ble_eq_true rfl)⟩ rfl hl rfl (Nat.le_of_ble_eq_true rfl) rfl rfl ⟨by show 153 ≤ 166; omega, by show 3264 ≤ 3564; omega⟩ dX10_init_56 (fun H locs h => ?_)
  have hc := hc72
  have hz := hz73
  obtain ⟨ha74, hf⟩ := wGd_s hf
  obtain ⟨hb136, hf⟩ := wGd_s hf
  obtain ⟨g75, e76, hf⟩ := wLe_s hf
  refine rd_put (t := 0) (ci := 9) (j := 3) (C := RX10) (T := TX10) (N := 6) (x := nI (n53 + 1)) (val := .ref (k.1 + n53)) X h ha74 rfl rfl (by decide) iX10 tyX10_ok nmX10 rfl rfl rfl (Nat.le_of_ble_eq_true rfl) lk_X10_35 e76 (congrArg (fun z => (Sum.inr (9, [rD k (g69 c0 0 0 0), rD k (g69 c0 0 0 1), rD k (g69 c0 0 0 2), z, rD k (g69 c0 0 0 4), rD k (g69 c0 0 0 5)]) : va_E)) (rD_set k hb136)) dX10_init_59 (fun H locs h => ?_)
  refine lv_aload_n X.x X.b dX10_init_62 rfl (lv_at hl 0 rfl) ?_
  obtain ⟨⟨hk81, ha82a, ha82b, ha82c⟩, hf⟩ := wGd_s hf
  obtain ⟨n77, e79, hf⟩ := wLe_s hf
  obtain ⟨g78, e80, hf⟩ := wLe_s hf
  have hc134 : 154 + n0 = n77 := by omega
  have hz135 : 3268 + slC n0 = slC n77 := by rw [e79]; omega
  refine rd_new (cells' := 154) (slots' := 3268) (t := 24) (C := RX0) (T := TX0) (N := 4) (ci := 0) X h hk81 rfl rfl iX0 tyX0_ok (fun j hj => match j, hj with | 0, _ => rfl | 1, _ => rfl | 2, _ => rfl | 3, _ => rfl | j + 4, hj => absurd hj (by omega)) cl_X10_39 in_X0 ini_X0 rfl rfl ⟨by show 154 ≤ 166; omega, by show 3268 ≤ 3564; omega⟩ dX10_init_63 (fun H h => ?_)
  have hc := hc134
  have hz := hz135
  rw [← e79, ← e80] at h
  refine lv_dup X.x X.b dX10_init_66 rfl ?_
  obtain ⟨n83, g84, e85, hf⟩ := wB2_s hf
  obtain ⟨⟨hb86a, hb86b, hb86c, hb86d⟩, hf⟩ := wGd_s hf
  have hc87 : 157 + n0 = n83 := by omega
  have hz88 : 3388 + slC n0 = slC n83 := by omega
  refine rd_calli (cells' := 157) (slots' := 3388) (mc := 3) (ms := 120) (As := []) (n1 := n83) (g1 := g84) X h (kX0_init l  e85) miv_X0_init lk_X10_41 ⟨rfl, rfl⟩ ⟨(Nat.le_of_ble_eq_true rfl), (Nat.le_of_ble_eq_true rfl)⟩ rfl hl rfl (Nat.le_of_ble_eq_true rfl) rfl rfl ⟨by show 157 ≤ 166; omega, by show 3388 ≤ 3564; omega⟩ dX10_init_67 (fun H locs h => ?_)
  have hc := hc87
  have hz := hz88
  obtain ⟨ha89, hf⟩ := wGd_s hf
  obtain ⟨hb133, hf⟩ := wGd_s hf
  obtain ⟨g90, e91, hf⟩ := wLe_s hf
  refine rd_put (t := 0) (ci := 9) (j := 4) (C := RX10) (T := TX10) (N := 6) (x := nI (n68 + 1)) (val := .ref (k.1 + n68)) X h ha89 rfl rfl (by decide) iX10 tyX10_ok nmX10 rfl rfl rfl (Nat.le_of_ble_eq_true rfl) lk_X10_42 e91 (congrArg (fun z => (Sum.inr (9, [rD k (g84 c0 0 0 0), rD k (g84 c0 0 0 1), rD k (g84 c0 0 0 2), rD k (g84 c0 0 0 3), z, rD k (g84 c0 0 0 5)]) : va_E)) (rD_set k hb133)) dX10_init_70 (fun H locs h => ?_)
  refine lv_aload_n X.x X.b dX10_init_73 rfl (lv_at hl 0 rfl) ?_
  refine lv_iconst (v := 4) X.x X.b dX10_init_74 (by decide) ?_
  obtain ⟨⟨hk96, ha97a, ha97b, ha97c⟩, hf⟩ := wGd_s hf
  obtain ⟨n92, e94, hf⟩ := wLe_s hf
  obtain ⟨g93, e95, hf⟩ := wLe_s hf
  have hc131 : 158 + n0 = n92 := by omega
  have hz132 : 3392 + slC n0 = slC n92 := by rw [e94]; omega
  refine rd_newq (cells' := 158) (slots' := 3392) (t := 28) (N := 4) (q := 4) (C := "WingPort$Sheet") X h hk96 (fun _ => rfl) rfl (by decide) (by decide) (by decide) cl_X10_46 arr_4 rfl rfl ⟨by show 158 ≤ 166; omega, by show 3392 ≤ 3564; omega⟩ dX10_init_75 (fun H h => ?_)
  have hc := hc131
  have hz := hz132
  rw [← e94, ← e95] at h
  obtain ⟨ha98, hf⟩ := wGd_s hf
  obtain ⟨hb130, hf⟩ := wGd_s hf
  obtain ⟨g99, e100, hf⟩ := wLe_s hf
  refine rd_put (t := 0) (ci := 9) (j := 5) (C := RX10) (T := TX10) (N := 6) (x := nI (n83 + 1)) (val := .ref (k.1 + n83)) X h ha98 rfl rfl (by decide) iX10 tyX10_ok nmX10 rfl rfl rfl (Nat.le_of_ble_eq_true rfl) lk_X10_48 e100 (congrArg (fun z => (Sum.inr (9, [rD k (g93 c0 0 0 0), rD k (g93 c0 0 0 1), rD k (g93 c0 0 0 2), rD k (g93 c0 0 0 3), rD k (g93 c0 0 0 4), z]) : va_E)) (rD_set k hb130)) dX10_init_78 (fun H locs h => ?_)
  refine lv_iconst (v := 0) X.x X.b dX10_init_81 (by decide) ?_
  refine lv_istore_n (lv' := [(1, .int (0 : Int32)), (0, .ref (k.1 + c0))]) X.x X.b dX10_init_82 rfl hl (by decide) rfl (fun ls hl => ?_)
  exact wX10_init_L83 X JR _ _ _ _ _ _ _ _ _ hc hz h (lv_sub hl [1, 0] rfl) hf
def fX11_init_s803 (n0 : Nat) (n : Nat) (g : Mm) (c0 : Nat) : Option (Nat × Mm) :=
  wGd (c0 < n ∧ c0 < 23 ∧ kdR c0 = 0) (wGn (g c0 0 0 15) fun d661 => wGd (d661 < n ∧ d661 < 23 ∧ kdR d661 = 8) (wGi (3 : Int32) 24 (wLe (st g d661 0 0 ((3 : Int32)).toNatClampNeg (11 : Int32)) fun g664 => wGd (c0 < n ∧ c0 < 23 ∧ kdR c0 = 0) (wLe (st g664 c0 0 0 12 (1 : Int32)) fun g668 => wGd (n ≤ n0 + 22 ∧ slR n ≤ slR n0 + 3217) (some (n, g668))))))
set_option maxHeartbeats 4000000 in
set_option maxRecDepth 20000 in
theorem wX11_init_s803 {k : En} {n0 : Nat} {c0 : Nat} {res : Nat × Mm} (X : Cd k p s m args meth c cX11_init 2 RX11) {n : Nat} {g : Mm} {ce sl : Nat} {H : Heap} {locs : List Loc} {ls : Array Slot} (hc : ce + n0 = n) (hz : sl + slR n0 = slR n) (h : Hd DR k n s g H locs) (hl : lv_has ls 2 [(0, .ref (k.1 + c0))]) {r : Nat × Mm} (hf : fX11_init_s803 n0 n g c0 = some r) (JR : r = res) : W p l e (RmI 1 22 3217 30) s m args below meth c H locs ce sl (FinD DR k args s below 22 3217 res.1 res.2) (F0 m 803 ls []) := by
  unfold fX11_init_s803 at hf
  refine lv_aload_n X.x X.b dX11_init_803 rfl (lv_at hl 0 rfl) ?_
  obtain ⟨ha660, hf⟩ := wGd_s hf
  obtain ⟨d661, e662, hf⟩ := wGn_s hf
  refine rd_get (t := 0) (ci := 10) (j := 15) (C := RX11) (T := TX11) (N := 37) (val := .ref (k.1 + d661)) X h ha660 rfl rfl (by decide) iX11 lk_X11_31 (congrArg some (rD_get k e662)) dX11_init_804 ?_
  refine lv_iconst (v := 3) X.x X.b dX11_init_807 (by decide) ?_
  refine lv_bipush (v := 11) X.x X.b dX11_init_808 (by decide) ?_
  obtain ⟨ha666, hf⟩ := wGd_s hf
  obtain ⟨b663, hf⟩ := wGi_s hf
  obtain ⟨g664, e665, hf⟩ := wLe_s hf
  refine rd_ast (t := 8) (N := 24) X h ha666 (fun _ => rfl) e665 b663 dX11_init_810 (fun H locs h => ?_)
  refine lv_aload_n X.x X.b dX11_init_811 rfl (lv_at hl 0 rfl) ?_
  refine lv_iconst (v := 1) X.x X.b dX11_init_812 (by decide) ?_
  obtain ⟨ha667, hf⟩ := wGd_s hf
  obtain ⟨g668, e669, hf⟩ := wLe_s hf
  refine rd_put (t := 0) (ci := 10) (j := 12) (C := RX11) (T := TX11) (N := 37) (x := (1 : Int32)) (val := .int (1 : Int32)) X h ha667 rfl rfl (by decide) iX11 tyX11_ok nmX11 rfl rfl rfl (Nat.le_of_ble_eq_true rfl) lk_X11_92 e669 rfl dX11_init_813 (fun H locs h => ?_)
  obtain ⟨hb670, hf⟩ := wGd_s hf
  cases (Option.some.inj hf).trans JR
  exact rd_ret X h (by omega) (by omega) dX11_init_816
def fX11_init_B764 (n0 : Nat) (n : Nat) (g : Mm) (c0 : Nat) (x1 : Int32) : Option ((Nat × Mm × Int32) ⊕ (Nat × Mm)) :=
  if (11 : Int32) ≤ x1 then (wEx (wGd (c0 < n ∧ c0 < 23 ∧ kdR c0 = 0) (wGn (g c0 0 0 15) fun d647 => wGd (d647 < n ∧ d647 < 23 ∧ kdR d647 = 8) (wGi (1 : Int32) 24 (wLe (st g d647 0 0 ((1 : Int32)).toNatClampNeg (5 : Int32)) fun g650 => wGd (c0 < n ∧ c0 < 23 ∧ kdR c0 = 0) (wGn (g650 c0 0 0 15) fun d654 => wGd (d654 < n ∧ d654 < 23 ∧ kdR d654 = 8) (wGi (2 : Int32) 24 (wLe (st g650 d654 0 0 ((2 : Int32)).toNatClampNeg (10 : Int32)) fun g657 => fX11_init_s803 n0 n g657 c0)))))))) else (wGd (c0 < n ∧ c0 < 23 ∧ kdR c0 = 0) (wGn (g c0 0 0 14) fun d672 => wGd (c0 < n ∧ c0 < 23 ∧ kdR c0 = 0) (wGn (g c0 0 0 16) fun d675 => wGd (d675 < n ∧ d675 < 23 ∧ kdR d675 = 9) (wGi x1 11 (wGd (d672 < n ∧ d672 < 23 ∧ kdR d672 = 7) (wGi x1 1200 (wLe (st g d672 0 0 (x1).toNatClampNeg (g d675 0 0 (x1).toNatClampNeg)) fun g680 => wLe (x1 + 1) fun y683 => some (.inl (n, g680, y683)))))))))
def fX11_init_L764 (n0 : Nat) (n : Nat) (g : Mm) (c0 : Nat) (x1 : Int32) : Option (Nat × Mm) :=
  wLp (fun q => fX11_init_B764 n0 q.1 q.2.1 c0 q.2.2) 1000 (n, g, x1)
set_option maxHeartbeats 4000000 in
set_option maxRecDepth 20000 in
theorem wX11_init_L764 {k : En} {n0 : Nat} {c0 : Nat} {res : Nat × Mm} (X : Cd k p s m args meth c cX11_init 2 RX11) {r : Nat × Mm} (JR : r = res) :
    ∀ (fu : Nat) (n : Nat) (g : Mm) (x1 : Int32) (ce sl : Nat) (H : Heap) (locs : List Loc) (ls : Array Slot), ce + n0 = n → sl + slR n0 = slR n → Hd DR k n s g H locs → lv_has ls 2 [(0, .ref (k.1 + c0)), (1, .int x1)] → wLp (fun q => fX11_init_B764 n0 q.1 q.2.1 c0 q.2.2) fu (n, g, x1) = some r → W p l e (RmI 1 22 3217 30) s m args below meth c H locs ce sl (FinD DR k args s below 22 3217 res.1 res.2) (F0 m 764 ls []) := by
  intro fu
  induction fu with
  | zero => intro n g x1 ce sl H locs ls hc hz h hl hf; exact (wLp_0 hf).elim
  | succ fu ih1 =>
    intro n g x1 ce sl H locs ls hc hz h hl hf
    obtain ⟨r1, hf, hr⟩ := wLp_s hf
    have J1 : ∀ (n : Nat) (g : Mm) (x1 : Int32), r1 = .inl (n, g, x1) → ∀ (ce sl : Nat) (H : Heap) (locs : List Loc) (ls : Array Slot), ce + n0 = n → sl + slR n0 = slR n → Hd DR k n s g H locs → lv_has ls 2 [(0, .ref (k.1 + c0)), (1, .int x1)] → W p l e (RmI 1 22 3217 30) s m args below meth c H locs ce sl (FinD DR k args s below 22 3217 res.1 res.2) (F0 m 764 ls []) := fun n g x1 q ce sl H locs ls hc hz h hl => by subst q; exact ih1 _ _ _ _ _ _ _ _ hc hz h hl hr
    have JR : ∀ t1, r1 = .inr t1 → t1 = res := fun t1 q => by subst q; obtain rfl := Option.some.inj hr; exact JR
    have hf : fX11_init_B764 n0 n g c0 x1 = some r1 := hf
    unfold fX11_init_B764 at hf
    refine lv_iload_n X.x X.b dX11_init_764 rfl (lv_at hl 1 rfl) ?_
    refine lv_bipush (v := 11) X.x X.b dX11_init_765 (by decide) ?_
    refine lv_icmp_ge (tgt := 788) X.x X.b dX11_init_767 (by decide) (fun c643 => ?_) (fun c643 => ?_)
    · have hf := wT c643 hf
      obtain ⟨t644, hf, e645⟩ := wEx_s hf
      have JR := JR t644 e645
      refine lv_aload_n X.x X.b dX11_init_788 rfl (lv_at hl 0 rfl) ?_
      obtain ⟨ha646, hf⟩ := wGd_s hf
      obtain ⟨d647, e648, hf⟩ := wGn_s hf
      refine rd_get (t := 0) (ci := 10) (j := 15) (C := RX11) (T := TX11) (N := 37) (val := .ref (k.1 + d647)) X h ha646 rfl rfl (by decide) iX11 lk_X11_31 (congrArg some (rD_get k e648)) dX11_init_789 ?_
      refine lv_iconst (v := 1) X.x X.b dX11_init_792 (by decide) ?_
      refine lv_iconst (v := 5) X.x X.b dX11_init_793 (by decide) ?_
      obtain ⟨ha652, hf⟩ := wGd_s hf
      obtain ⟨b649, hf⟩ := wGi_s hf
      obtain ⟨g650, e651, hf⟩ := wLe_s hf
      refine rd_ast (t := 8) (N := 24) X h ha652 (fun _ => rfl) e651 b649 dX11_init_794 (fun H locs h => ?_)
      refine lv_aload_n X.x X.b dX11_init_795 rfl (lv_at hl 0 rfl) ?_
      obtain ⟨ha653, hf⟩ := wGd_s hf
      obtain ⟨d654, e655, hf⟩ := wGn_s hf
      refine rd_get (t := 0) (ci := 10) (j := 15) (C := RX11) (T := TX11) (N := 37) (val := .ref (k.1 + d654)) X h ha653 rfl rfl (by decide) iX11 lk_X11_31 (congrArg some (rD_get k e655)) dX11_init_796 ?_
      refine lv_iconst (v := 2) X.x X.b dX11_init_799 (by decide) ?_
      refine lv_bipush (v := 10) X.x X.b dX11_init_800 (by decide) ?_
      obtain ⟨ha659, hf⟩ := wGd_s hf
      obtain ⟨b656, hf⟩ := wGi_s hf
      obtain ⟨g657, e658, hf⟩ := wLe_s hf
      refine rd_ast (t := 8) (N := 24) X h ha659 (fun _ => rfl) e658 b656 dX11_init_802 (fun H locs h => ?_)
      exact wX11_init_s803 X hc hz h (lv_sub hl [0] rfl) hf JR
    · have hf := wF c643 hf
      refine lv_aload_n X.x X.b dX11_init_770 rfl (lv_at hl 0 rfl) ?_
      obtain ⟨ha671, hf⟩ := wGd_s hf
      obtain ⟨d672, e673, hf⟩ := wGn_s hf
      refine rd_get (t := 0) (ci := 10) (j := 14) (C := RX11) (T := TX11) (N := 37) (val := .ref (k.1 + d672)) X h ha671 rfl rfl (by decide) iX11 lk_X11_28 (congrArg some (rD_get k e673)) dX11_init_771 ?_
      refine lv_iload_n X.x X.b dX11_init_774 rfl (lv_at hl 1 rfl) ?_
      refine lv_aload_n X.x X.b dX11_init_775 rfl (lv_at hl 0 rfl) ?_
      obtain ⟨ha674, hf⟩ := wGd_s hf
      obtain ⟨d675, e676, hf⟩ := wGn_s hf
      refine rd_get (t := 0) (ci := 10) (j := 16) (C := RX11) (T := TX11) (N := 37) (val := .ref (k.1 + d675)) X h ha674 rfl rfl (by decide) iX11 lk_X11_38 (congrArg some (rD_get k e676)) dX11_init_776 ?_
      refine lv_iload_n X.x X.b dX11_init_779 rfl (lv_at hl 1 rfl) ?_
      obtain ⟨ha678, hf⟩ := wGd_s hf
      obtain ⟨b677, hf⟩ := wGi_s hf
      refine rd_ald (t := 9) (N := 11) X h ha678 (fun _ => rfl) b677 dX11_init_780 ?_
      obtain ⟨ha682, hf⟩ := wGd_s hf
      obtain ⟨b679, hf⟩ := wGi_s hf
      obtain ⟨g680, e681, hf⟩ := wLe_s hf
      refine rd_ast (t := 7) (N := 1200) X h ha682 (fun _ => rfl) e681 b679 dX11_init_781 (fun H locs h => ?_)
      obtain ⟨y683, e684, hf⟩ := wLe_s hf
      refine lv_iinc (v := y683) (lv' := [(1, .int y683), (0, .ref (k.1 + c0))]) X.x X.b dX11_init_782 hl (k := 1) rfl (by rw [e684]; rfl) (by decide) rfl (fun ls hl => ?_)
      refine lv_goto (tgt := 764) X.x X.b dX11_init_785 (by decide) ?_
      exact J1 _ _ _ (Option.some.inj hf).symm _ _ _ _ _ hc hz h (lv_sub hl [1, 0] rfl)
def fX11_init_B739 (n0 : Nat) (n : Nat) (g : Mm) (c0 : Nat) (x1 : Int32) : Option ((Nat × Mm × Int32) ⊕ (Nat × Mm)) :=
  if (6 : Int32) ≤ x1 then (wEx (fX11_init_L764 n0 n g c0 (0 : Int32))) else (wGd (c0 < n ∧ c0 < 23 ∧ kdR c0 = 0) (wGn (g c0 0 0 0) fun d686 => wGd (d686 < n ∧ d686 < 23 ∧ kdR d686 = 1) (wGi ((496 : Int32) + x1) 510 (wLe (st g d686 0 0 ((496 : Int32) + x1).toNatClampNeg (-1 : Int32)) fun g689 => wLe (x1 + 1) fun y692 => some (.inl (n, g689, y692))))))
def fX11_init_L739 (n0 : Nat) (n : Nat) (g : Mm) (c0 : Nat) (x1 : Int32) : Option (Nat × Mm) :=
  wLp (fun q => fX11_init_B739 n0 q.1 q.2.1 c0 q.2.2) 1000 (n, g, x1)
set_option maxHeartbeats 4000000 in
set_option maxRecDepth 20000 in
theorem wX11_init_L739 {k : En} {n0 : Nat} {c0 : Nat} {res : Nat × Mm} (X : Cd k p s m args meth c cX11_init 2 RX11) {r : Nat × Mm} (JR : r = res) :
    ∀ (fu : Nat) (n : Nat) (g : Mm) (x1 : Int32) (ce sl : Nat) (H : Heap) (locs : List Loc) (ls : Array Slot), ce + n0 = n → sl + slR n0 = slR n → Hd DR k n s g H locs → lv_has ls 2 [(0, .ref (k.1 + c0)), (1, .int x1)] → wLp (fun q => fX11_init_B739 n0 q.1 q.2.1 c0 q.2.2) fu (n, g, x1) = some r → W p l e (RmI 1 22 3217 30) s m args below meth c H locs ce sl (FinD DR k args s below 22 3217 res.1 res.2) (F0 m 739 ls []) := by
  intro fu
  induction fu with
  | zero => intro n g x1 ce sl H locs ls hc hz h hl hf; exact (wLp_0 hf).elim
  | succ fu ih1 =>
    intro n g x1 ce sl H locs ls hc hz h hl hf
    obtain ⟨r1, hf, hr⟩ := wLp_s hf
    have J1 : ∀ (n : Nat) (g : Mm) (x1 : Int32), r1 = .inl (n, g, x1) → ∀ (ce sl : Nat) (H : Heap) (locs : List Loc) (ls : Array Slot), ce + n0 = n → sl + slR n0 = slR n → Hd DR k n s g H locs → lv_has ls 2 [(0, .ref (k.1 + c0)), (1, .int x1)] → W p l e (RmI 1 22 3217 30) s m args below meth c H locs ce sl (FinD DR k args s below 22 3217 res.1 res.2) (F0 m 739 ls []) := fun n g x1 q ce sl H locs ls hc hz h hl => by subst q; exact ih1 _ _ _ _ _ _ _ _ hc hz h hl hr
    have JR : ∀ t1, r1 = .inr t1 → t1 = res := fun t1 q => by subst q; obtain rfl := Option.some.inj hr; exact JR
    have hf : fX11_init_B739 n0 n g c0 x1 = some r1 := hf
    unfold fX11_init_B739 at hf
    refine lv_iload_n X.x X.b dX11_init_739 rfl (lv_at hl 1 rfl) ?_
    refine lv_bipush (v := 6) X.x X.b dX11_init_740 (by decide) ?_
    refine lv_icmp_ge (tgt := 762) X.x X.b dX11_init_742 (by decide) (fun c640 => ?_) (fun c640 => ?_)
    · have hf := wT c640 hf
      obtain ⟨t641, hf, e642⟩ := wEx_s hf
      have JR := JR t641 e642
      refine lv_iconst (v := 0) X.x X.b dX11_init_762 (by decide) ?_
      refine lv_istore_n (lv' := [(1, .int (0 : Int32)), (0, .ref (k.1 + c0))]) X.x X.b dX11_init_763 rfl hl (by decide) rfl (fun ls hl => ?_)
      exact wX11_init_L764 X JR _ _ _ _ _ _ _ _ _ hc hz h (lv_sub hl [1, 0] rfl) hf
    · have hf := wF c640 hf
      refine lv_aload_n X.x X.b dX11_init_745 rfl (lv_at hl 0 rfl) ?_
      obtain ⟨ha685, hf⟩ := wGd_s hf
      obtain ⟨d686, e687, hf⟩ := wGn_s hf
      refine rd_get (t := 0) (ci := 10) (j := 0) (C := RX11) (T := TX11) (N := 37) (val := .ref (k.1 + d686)) X h ha685 rfl rfl (by decide) iX11 lk_X11_7 (congrArg some (rD_get k e687)) dX11_init_746 ?_
      refine lv_sipush (v := 496) X.x X.b dX11_init_749 (by decide) ?_
      refine lv_iload_n X.x X.b dX11_init_752 rfl (lv_at hl 1 rfl) ?_
      refine lv_iadd X.x X.b dX11_init_753 ?_
      refine lv_iconst (v := (-1)) X.x X.b dX11_init_754 (by decide) ?_
      obtain ⟨ha691, hf⟩ := wGd_s hf
      obtain ⟨b688, hf⟩ := wGi_s hf
      obtain ⟨g689, e690, hf⟩ := wLe_s hf
      refine rd_ast (t := 1) (N := 510) X h ha691 (fun _ => rfl) e690 b688 dX11_init_755 (fun H locs h => ?_)
      obtain ⟨y692, e693, hf⟩ := wLe_s hf
      refine lv_iinc (v := y692) (lv' := [(1, .int y692), (0, .ref (k.1 + c0))]) X.x X.b dX11_init_756 hl (k := 1) rfl (by rw [e693]; rfl) (by decide) rfl (fun ls hl => ?_)
      refine lv_goto (tgt := 739) X.x X.b dX11_init_759 (by decide) ?_
      exact J1 _ _ _ (Option.some.inj hf).symm _ _ _ _ _ hc hz h (lv_sub hl [1, 0] rfl)
def fX11_init_s737 (n0 : Nat) (n : Nat) (g : Mm) (c0 : Nat) : Option (Nat × Mm) :=
  fX11_init_L739 n0 n g c0 (0 : Int32)
set_option maxHeartbeats 4000000 in
set_option maxRecDepth 20000 in
theorem wX11_init_s737 {k : En} {n0 : Nat} {c0 : Nat} {res : Nat × Mm} (X : Cd k p s m args meth c cX11_init 2 RX11) {n : Nat} {g : Mm} {ce sl : Nat} {H : Heap} {locs : List Loc} {ls : Array Slot} (hc : ce + n0 = n) (hz : sl + slR n0 = slR n) (h : Hd DR k n s g H locs) (hl : lv_has ls 2 [(0, .ref (k.1 + c0))]) {r : Nat × Mm} (hf : fX11_init_s737 n0 n g c0 = some r) (JR : r = res) : W p l e (RmI 1 22 3217 30) s m args below meth c H locs ce sl (FinD DR k args s below 22 3217 res.1 res.2) (F0 m 737 ls []) := by
  unfold fX11_init_s737 at hf
  refine lv_iconst (v := 0) X.x X.b dX11_init_737 (by decide) ?_
  refine lv_istore_n (lv' := [(1, .int (0 : Int32)), (0, .ref (k.1 + c0))]) X.x X.b dX11_init_738 rfl hl (by decide) rfl (fun ls hl => ?_)
  exact wX11_init_L739 X JR _ _ _ _ _ _ _ _ _ hc hz h (lv_sub hl [1, 0] rfl) hf
def fX11_init_s675 (n0 : Nat) (n : Nat) (g : Mm) (c0 : Nat) : Option (Nat × Mm) :=
  wGd (kdR n = 19 ∧ slR (n + 1) = slR n + 200 ∧ n + 1 ≤ n0 + 22 ∧ slR (n + 1) ≤ slR n0 + 3217) (wLe (n + 1) fun n583 => wLe (nw g n) fun g584 => wGd (c0 < n583 ∧ c0 < 23 ∧ kdR c0 = 0) (wGd (n + 1 < 2 ^ 31) (wLe (st g584 c0 0 0 30 (nI (n + 1))) fun g590 => wGd (kdR n583 = 20 ∧ slR (n583 + 1) = slR n583 + 200 ∧ n583 + 1 ≤ n0 + 22 ∧ slR (n583 + 1) ≤ slR n0 + 3217) (wLe (n583 + 1) fun n592 => wLe (nw g590 n583) fun g593 => wGd (c0 < n592 ∧ c0 < 23 ∧ kdR c0 = 0) (wGd (n583 + 1 < 2 ^ 31) (wLe (st g593 c0 0 0 34 (nI (n583 + 1))) fun g599 => wGd (kdR n592 = 21 ∧ slR (n592 + 1) = slR n592 + 12 ∧ n592 + 1 ≤ n0 + 22 ∧ slR (n592 + 1) ≤ slR n0 + 3217) (wLe (n592 + 1) fun n601 => wLe (nw g599 n592) fun g602 => wGd (c0 < n601 ∧ c0 < 23 ∧ kdR c0 = 0) (wGd (n592 + 1 < 2 ^ 31) (wLe (st g602 c0 0 0 35 (nI (n592 + 1))) fun g608 => wGd (kdR n601 = 22 ∧ slR (n601 + 1) = slR n601 + 510 ∧ n601 + 1 ≤ n0 + 22 ∧ slR (n601 + 1) ≤ slR n0 + 3217) (wLe (n601 + 1) fun n610 => wLe (nw g608 n601) fun g611 => wGd (c0 < n610 ∧ c0 < 23 ∧ kdR c0 = 0) (wGd (n601 + 1 < 2 ^ 31) (wLe (st g611 c0 0 0 36 (nI (n601 + 1))) fun g617 => wGd (c0 < n610 ∧ c0 < 23 ∧ kdR c0 = 0) (wGn (g617 c0 0 0 0) fun d620 => wGd (d620 < n610 ∧ d620 < 23 ∧ kdR d620 = 1) (wGi (462 : Int32) 510 (wLe (st g617 d620 0 0 ((462 : Int32)).toNatClampNeg (-1 : Int32)) fun g623 => wGd (c0 < n610 ∧ c0 < 23 ∧ kdR c0 = 0) (wGn (g623 c0 0 0 0) fun d627 => wGd (d627 < n610 ∧ d627 < 23 ∧ kdR d627 = 1) (wGi (463 : Int32) 510 (wLe (st g623 d627 0 0 ((463 : Int32)).toNatClampNeg (-1 : Int32)) fun g630 => wGd (c0 < n610 ∧ c0 < 23 ∧ kdR c0 = 0) (wGn (g630 c0 0 0 0) fun d634 => wGd (d634 < n610 ∧ d634 < 23 ∧ kdR d634 = 1) (wGi (484 : Int32) 510 (wLe (st g630 d634 0 0 ((484 : Int32)).toNatClampNeg (1 : Int32)) fun g637 => fX11_init_s737 n0 n610 g637 c0)))))))))))))))))))))
set_option maxHeartbeats 4000000 in
set_option maxRecDepth 20000 in
theorem wX11_init_s675 {k : En} {n0 : Nat} {c0 : Nat} {res : Nat × Mm} (X : Cd k p s m args meth c cX11_init 2 RX11) {n : Nat} {g : Mm} {ce sl : Nat} {H : Heap} {locs : List Loc} {ls : Array Slot} (hc : ce + n0 = n) (hz : sl + slR n0 = slR n) (h : Hd DR k n s g H locs) (hl : lv_has ls 2 [(0, .ref (k.1 + c0))]) {r : Nat × Mm} (hf : fX11_init_s675 n0 n g c0 = some r) (JR : r = res) : W p l e (RmI 1 22 3217 30) s m args below meth c H locs ce sl (FinD DR k args s below 22 3217 res.1 res.2) (F0 m 675 ls []) := by
  unfold fX11_init_s675 at hf
  refine lv_aload_n X.x X.b dX11_init_675 rfl (lv_at hl 0 rfl) ?_
  refine lv_sipush (v := 200) X.x X.b dX11_init_676 (by decide) ?_
  obtain ⟨⟨hk587, ha588a, ha588b, ha588c⟩, hf⟩ := wGd_s hf
  obtain ⟨n583, e585, hf⟩ := wLe_s hf
  obtain ⟨g584, e586, hf⟩ := wLe_s hf
  have hc704 : (ce + 1) + n0 = n583 := by omega
  have hz705 : (sl + 200) + slR n0 = slR n583 := by rw [e585]; omega
  refine rd_newa (cells' := (ce + 1)) (slots' := (sl + 200)) (t := 19) (N := 200) X h hk587 (fun _ => rfl) (by decide) (by decide) (by decide) arr_int rfl rfl ⟨by show (ce + 1) ≤ 22; omega, by show (sl + 200) ≤ 3217; omega⟩ dX11_init_679 (fun H h => ?_)
  have hc := hc704
  have hz := hz705
  rw [← e585, ← e586] at h
  obtain ⟨ha589, hf⟩ := wGd_s hf
  obtain ⟨hb703, hf⟩ := wGd_s hf
  obtain ⟨g590, e591, hf⟩ := wLe_s hf
  refine rd_put (t := 0) (ci := 10) (j := 30) (C := RX11) (T := TX11) (N := 37) (x := nI (n + 1)) (val := .ref (k.1 + n)) X h ha589 rfl rfl (by decide) iX11 tyX11_ok nmX11 rfl rfl rfl (Nat.le_of_ble_eq_true rfl) lk_X11_80 e591 (congrArg (fun z => (Sum.inr (10, rD k (g584 c0 0 0 0) :: .int (g584 c0 0 0 1) :: .int (g584 c0 0 0 2) :: .int (g584 c0 0 0 3) :: .int (g584 c0 0 0 4) :: rD k (g584 c0 0 0 5) :: rD k (g584 c0 0 0 6) :: rD k (g584 c0 0 0 7) :: .int (g584 c0 0 0 8) :: rD k (g584 c0 0 0 9) :: rD k (g584 c0 0 0 10) :: .int (g584 c0 0 0 11) :: .int (g584 c0 0 0 12) :: .int (g584 c0 0 0 13) :: rD k (g584 c0 0 0 14) :: rD k (g584 c0 0 0 15) :: rD k (g584 c0 0 0 16) :: rD k (g584 c0 0 0 17) :: rD k (g584 c0 0 0 18) :: rD k (g584 c0 0 0 19) :: rD k (g584 c0 0 0 20) :: rD k (g584 c0 0 0 21) :: rD k (g584 c0 0 0 22) :: rD k (g584 c0 0 0 23) :: rD k (g584 c0 0 0 24) :: .int (g584 c0 0 0 25) :: .int (g584 c0 0 0 26) :: .int (g584 c0 0 0 27) :: .int (g584 c0 0 0 28) :: rD k (g584 c0 0 0 29) :: z :: .int (g584 c0 0 0 31) :: .int (g584 c0 0 0 32) :: .int (g584 c0 0 0 33) :: rD k (g584 c0 0 0 34) :: rD k (g584 c0 0 0 35) :: rD k (g584 c0 0 0 36) :: []) : va_E)) (rD_set k hb703)) dX11_init_681 (fun H locs h => ?_)
  refine lv_aload_n X.x X.b dX11_init_684 rfl (lv_at hl 0 rfl) ?_
  refine lv_sipush (v := 200) X.x X.b dX11_init_685 (by decide) ?_
  obtain ⟨⟨hk596, ha597a, ha597b, ha597c⟩, hf⟩ := wGd_s hf
  obtain ⟨n592, e594, hf⟩ := wLe_s hf
  obtain ⟨g593, e595, hf⟩ := wLe_s hf
  have hc701 : ((ce + 1) + 1) + n0 = n592 := by omega
  have hz702 : ((sl + 200) + 200) + slR n0 = slR n592 := by rw [e594]; omega
  refine rd_newa (cells' := ((ce + 1) + 1)) (slots' := ((sl + 200) + 200)) (t := 20) (N := 200) X h hk596 (fun _ => rfl) (by decide) (by decide) (by decide) arr_int rfl rfl ⟨by show ((ce + 1) + 1) ≤ 22; omega, by show ((sl + 200) + 200) ≤ 3217; omega⟩ dX11_init_688 (fun H h => ?_)
  have hc := hc701
  have hz := hz702
  rw [← e594, ← e595] at h
  obtain ⟨ha598, hf⟩ := wGd_s hf
  obtain ⟨hb700, hf⟩ := wGd_s hf
  obtain ⟨g599, e600, hf⟩ := wLe_s hf
  refine rd_put (t := 0) (ci := 10) (j := 34) (C := RX11) (T := TX11) (N := 37) (x := nI (n583 + 1)) (val := .ref (k.1 + n583)) X h ha598 rfl rfl (by decide) iX11 tyX11_ok nmX11 rfl rfl rfl (Nat.le_of_ble_eq_true rfl) lk_X11_83 e600 (congrArg (fun z => (Sum.inr (10, rD k (g593 c0 0 0 0) :: .int (g593 c0 0 0 1) :: .int (g593 c0 0 0 2) :: .int (g593 c0 0 0 3) :: .int (g593 c0 0 0 4) :: rD k (g593 c0 0 0 5) :: rD k (g593 c0 0 0 6) :: rD k (g593 c0 0 0 7) :: .int (g593 c0 0 0 8) :: rD k (g593 c0 0 0 9) :: rD k (g593 c0 0 0 10) :: .int (g593 c0 0 0 11) :: .int (g593 c0 0 0 12) :: .int (g593 c0 0 0 13) :: rD k (g593 c0 0 0 14) :: rD k (g593 c0 0 0 15) :: rD k (g593 c0 0 0 16) :: rD k (g593 c0 0 0 17) :: rD k (g593 c0 0 0 18) :: rD k (g593 c0 0 0 19) :: rD k (g593 c0 0 0 20) :: rD k (g593 c0 0 0 21) :: rD k (g593 c0 0 0 22) :: rD k (g593 c0 0 0 23) :: rD k (g593 c0 0 0 24) :: .int (g593 c0 0 0 25) :: .int (g593 c0 0 0 26) :: .int (g593 c0 0 0 27) :: .int (g593 c0 0 0 28) :: rD k (g593 c0 0 0 29) :: rD k (g593 c0 0 0 30) :: .int (g593 c0 0 0 31) :: .int (g593 c0 0 0 32) :: .int (g593 c0 0 0 33) :: z :: rD k (g593 c0 0 0 35) :: rD k (g593 c0 0 0 36) :: []) : va_E)) (rD_set k hb700)) dX11_init_690 (fun H locs h => ?_)
  refine lv_aload_n X.x X.b dX11_init_693 rfl (lv_at hl 0 rfl) ?_
  refine lv_bipush (v := 12) X.x X.b dX11_init_694 (by decide) ?_
  obtain ⟨⟨hk605, ha606a, ha606b, ha606c⟩, hf⟩ := wGd_s hf
  obtain ⟨n601, e603, hf⟩ := wLe_s hf
  obtain ⟨g602, e604, hf⟩ := wLe_s hf
  have hc698 : (((ce + 1) + 1) + 1) + n0 = n601 := by omega
  have hz699 : (((sl + 200) + 200) + 12) + slR n0 = slR n601 := by rw [e603]; omega
  refine rd_newa (cells' := (((ce + 1) + 1) + 1)) (slots' := (((sl + 200) + 200) + 12)) (t := 21) (N := 12) X h hk605 (fun _ => rfl) (by decide) (by decide) (by decide) arr_int rfl rfl ⟨by show (((ce + 1) + 1) + 1) ≤ 22; omega, by show (((sl + 200) + 200) + 12) ≤ 3217; omega⟩ dX11_init_696 (fun H h => ?_)
  have hc := hc698
  have hz := hz699
  rw [← e603, ← e604] at h
  obtain ⟨ha607, hf⟩ := wGd_s hf
  obtain ⟨hb697, hf⟩ := wGd_s hf
  obtain ⟨g608, e609, hf⟩ := wLe_s hf
  refine rd_put (t := 0) (ci := 10) (j := 35) (C := RX11) (T := TX11) (N := 37) (x := nI (n592 + 1)) (val := .ref (k.1 + n592)) X h ha607 rfl rfl (by decide) iX11 tyX11_ok nmX11 rfl rfl rfl (Nat.le_of_ble_eq_true rfl) lk_X11_86 e609 (congrArg (fun z => (Sum.inr (10, rD k (g602 c0 0 0 0) :: .int (g602 c0 0 0 1) :: .int (g602 c0 0 0 2) :: .int (g602 c0 0 0 3) :: .int (g602 c0 0 0 4) :: rD k (g602 c0 0 0 5) :: rD k (g602 c0 0 0 6) :: rD k (g602 c0 0 0 7) :: .int (g602 c0 0 0 8) :: rD k (g602 c0 0 0 9) :: rD k (g602 c0 0 0 10) :: .int (g602 c0 0 0 11) :: .int (g602 c0 0 0 12) :: .int (g602 c0 0 0 13) :: rD k (g602 c0 0 0 14) :: rD k (g602 c0 0 0 15) :: rD k (g602 c0 0 0 16) :: rD k (g602 c0 0 0 17) :: rD k (g602 c0 0 0 18) :: rD k (g602 c0 0 0 19) :: rD k (g602 c0 0 0 20) :: rD k (g602 c0 0 0 21) :: rD k (g602 c0 0 0 22) :: rD k (g602 c0 0 0 23) :: rD k (g602 c0 0 0 24) :: .int (g602 c0 0 0 25) :: .int (g602 c0 0 0 26) :: .int (g602 c0 0 0 27) :: .int (g602 c0 0 0 28) :: rD k (g602 c0 0 0 29) :: rD k (g602 c0 0 0 30) :: .int (g602 c0 0 0 31) :: .int (g602 c0 0 0 32) :: .int (g602 c0 0 0 33) :: rD k (g602 c0 0 0 34) :: z :: rD k (g602 c0 0 0 36) :: []) : va_E)) (rD_set k hb697)) dX11_init_698 (fun H locs h => ?_)
  refine lv_aload_n X.x X.b dX11_init_701 rfl (lv_at hl 0 rfl) ?_
  refine lv_sipush (v := 510) X.x X.b dX11_init_702 (by decide) ?_
  obtain ⟨⟨hk614, ha615a, ha615b, ha615c⟩, hf⟩ := wGd_s hf
  obtain ⟨n610, e612, hf⟩ := wLe_s hf
  obtain ⟨g611, e613, hf⟩ := wLe_s hf
  have hc695 : ((((ce + 1) + 1) + 1) + 1) + n0 = n610 := by omega
  have hz696 : ((((sl + 200) + 200) + 12) + 510) + slR n0 = slR n610 := by rw [e612]; omega
  refine rd_newa (cells' := ((((ce + 1) + 1) + 1) + 1)) (slots' := ((((sl + 200) + 200) + 12) + 510)) (t := 22) (N := 510) X h hk614 (fun _ => rfl) (by decide) (by decide) (by decide) arr_int rfl rfl ⟨by show ((((ce + 1) + 1) + 1) + 1) ≤ 22; omega, by show ((((sl + 200) + 200) + 12) + 510) ≤ 3217; omega⟩ dX11_init_705 (fun H h => ?_)
  have hc := hc695
  have hz := hz696
  rw [← e612, ← e613] at h
  obtain ⟨ha616, hf⟩ := wGd_s hf
  obtain ⟨hb694, hf⟩ := wGd_s hf
  obtain ⟨g617, e618, hf⟩ := wLe_s hf
  refine rd_put (t := 0) (ci := 10) (j := 36) (C := RX11) (T := TX11) (N := 37) (x := nI (n601 + 1)) (val := .ref (k.1 + n601)) X h ha616 rfl rfl (by decide) iX11 tyX11_ok nmX11 rfl rfl rfl (Nat.le_of_ble_eq_true rfl) lk_X11_89 e618 (congrArg (fun z => (Sum.inr (10, rD k (g611 c0 0 0 0) :: .int (g611 c0 0 0 1) :: .int (g611 c0 0 0 2) :: .int (g611 c0 0 0 3) :: .int (g611 c0 0 0 4) :: rD k (g611 c0 0 0 5) :: rD k (g611 c0 0 0 6) :: rD k (g611 c0 0 0 7) :: .int (g611 c0 0 0 8) :: rD k (g611 c0 0 0 9) :: rD k (g611 c0 0 0 10) :: .int (g611 c0 0 0 11) :: .int (g611 c0 0 0 12) :: .int (g611 c0 0 0 13) :: rD k (g611 c0 0 0 14) :: rD k (g611 c0 0 0 15) :: rD k (g611 c0 0 0 16) :: rD k (g611 c0 0 0 17) :: rD k (g611 c0 0 0 18) :: rD k (g611 c0 0 0 19) :: rD k (g611 c0 0 0 20) :: rD k (g611 c0 0 0 21) :: rD k (g611 c0 0 0 22) :: rD k (g611 c0 0 0 23) :: rD k (g611 c0 0 0 24) :: .int (g611 c0 0 0 25) :: .int (g611 c0 0 0 26) :: .int (g611 c0 0 0 27) :: .int (g611 c0 0 0 28) :: rD k (g611 c0 0 0 29) :: rD k (g611 c0 0 0 30) :: .int (g611 c0 0 0 31) :: .int (g611 c0 0 0 32) :: .int (g611 c0 0 0 33) :: rD k (g611 c0 0 0 34) :: rD k (g611 c0 0 0 35) :: z :: []) : va_E)) (rD_set k hb694)) dX11_init_707 (fun H locs h => ?_)
  refine lv_aload_n X.x X.b dX11_init_710 rfl (lv_at hl 0 rfl) ?_
  obtain ⟨ha619, hf⟩ := wGd_s hf
  obtain ⟨d620, e621, hf⟩ := wGn_s hf
  refine rd_get (t := 0) (ci := 10) (j := 0) (C := RX11) (T := TX11) (N := 37) (val := .ref (k.1 + d620)) X h ha619 rfl rfl (by decide) iX11 lk_X11_7 (congrArg some (rD_get k e621)) dX11_init_711 ?_
  refine lv_sipush (v := 462) X.x X.b dX11_init_714 (by decide) ?_
  refine lv_iconst (v := (-1)) X.x X.b dX11_init_717 (by decide) ?_
  obtain ⟨ha625, hf⟩ := wGd_s hf
  obtain ⟨b622, hf⟩ := wGi_s hf
  obtain ⟨g623, e624, hf⟩ := wLe_s hf
  refine rd_ast (t := 1) (N := 510) X h ha625 (fun _ => rfl) e624 b622 dX11_init_718 (fun H locs h => ?_)
  refine lv_aload_n X.x X.b dX11_init_719 rfl (lv_at hl 0 rfl) ?_
  obtain ⟨ha626, hf⟩ := wGd_s hf
  obtain ⟨d627, e628, hf⟩ := wGn_s hf
  refine rd_get (t := 0) (ci := 10) (j := 0) (C := RX11) (T := TX11) (N := 37) (val := .ref (k.1 + d627)) X h ha626 rfl rfl (by decide) iX11 lk_X11_7 (congrArg some (rD_get k e628)) dX11_init_720 ?_
  refine lv_sipush (v := 463) X.x X.b dX11_init_723 (by decide) ?_
  refine lv_iconst (v := (-1)) X.x X.b dX11_init_726 (by decide) ?_
  obtain ⟨ha632, hf⟩ := wGd_s hf
  obtain ⟨b629, hf⟩ := wGi_s hf
  obtain ⟨g630, e631, hf⟩ := wLe_s hf
  refine rd_ast (t := 1) (N := 510) X h ha632 (fun _ => rfl) e631 b629 dX11_init_727 (fun H locs h => ?_)
  refine lv_aload_n X.x X.b dX11_init_728 rfl (lv_at hl 0 rfl) ?_
  obtain ⟨ha633, hf⟩ := wGd_s hf
  obtain ⟨d634, e635, hf⟩ := wGn_s hf
  refine rd_get (t := 0) (ci := 10) (j := 0) (C := RX11) (T := TX11) (N := 37) (val := .ref (k.1 + d634)) X h ha633 rfl rfl (by decide) iX11 lk_X11_7 (congrArg some (rD_get k e635)) dX11_init_729 ?_
  refine lv_sipush (v := 484) X.x X.b dX11_init_732 (by decide) ?_
  refine lv_iconst (v := 1) X.x X.b dX11_init_735 (by decide) ?_
  obtain ⟨ha639, hf⟩ := wGd_s hf
  obtain ⟨b636, hf⟩ := wGi_s hf
  obtain ⟨g637, e638, hf⟩ := wLe_s hf
  refine rd_ast (t := 1) (N := 510) X h ha639 (fun _ => rfl) e638 b636 dX11_init_736 (fun H locs h => ?_)
  exact wX11_init_s737 X hc hz h (lv_sub hl [0] rfl) hf JR
def fX11_init_s587 (n0 : Nat) (n : Nat) (g : Mm) (c0 : Nat) : Option (Nat × Mm) :=
  wGd (kdR n = 18 ∧ slR (n + 1) = slR n + 14 ∧ n + 1 ≤ n0 + 22 ∧ slR (n + 1) ≤ slR n0 + 3217) (wLe (n + 1) fun n518 => wLe (nw g n) fun g519 => wGd (n < n518 ∧ n < 23 ∧ kdR n = 18) (wGi (0 : Int32) 14 (wLe (st g519 n 0 0 ((0 : Int32)).toNatClampNeg (1886546287 : Int32)) fun g525 => wGd (n < n518 ∧ n < 23 ∧ kdR n = 18) (wGi (1 : Int32) 14 (wLe (st g525 n 0 0 ((1 : Int32)).toNatClampNeg (7562608 : Int32)) fun g529 => wGd (n < n518 ∧ n < 23 ∧ kdR n = 18) (wGi (2 : Int32) 14 (wLe (st g529 n 0 0 ((2 : Int32)).toNatClampNeg (1752132708 : Int32)) fun g533 => wGd (n < n518 ∧ n < 23 ∧ kdR n = 18) (wGi (3 : Int32) 14 (wLe (st g533 n 0 0 ((3 : Int32)).toNatClampNeg (26990 : Int32)) fun g537 => wGd (n < n518 ∧ n < 23 ∧ kdR n = 18) (wGi (4 : Int32) 14 (wLe (st g537 n 0 0 ((4 : Int32)).toNatClampNeg (1818326117 : Int32)) fun g541 => wGd (n < n518 ∧ n < 23 ∧ kdR n = 18) (wGi (5 : Int32) 14 (wLe (st g541 n 0 0 ((5 : Int32)).toNatClampNeg (1802071652 : Int32)) fun g545 => wGd (n < n518 ∧ n < 23 ∧ kdR n = 18) (wGi (6 : Int32) 14 (wLe (st g545 n 0 0 ((6 : Int32)).toNatClampNeg (2002872692 : Int32)) fun g549 => wGd (n < n518 ∧ n < 23 ∧ kdR n = 18) (wGi (7 : Int32) 14 (wLe (st g549 n 0 0 ((7 : Int32)).toNatClampNeg (1886545270 : Int32)) fun g553 => wGd (n < n518 ∧ n < 23 ∧ kdR n = 18) (wGi (8 : Int32) 14 (wLe (st g553 n 0 0 ((8 : Int32)).toNatClampNeg (6713191 : Int32)) fun g557 => wGd (n < n518 ∧ n < 23 ∧ kdR n = 18) (wGi (9 : Int32) 14 (wLe (st g557 n 0 0 ((9 : Int32)).toNatClampNeg (1650550643 : Int32)) fun g561 => wGd (n < n518 ∧ n < 23 ∧ kdR n = 18) (wGi (10 : Int32) 14 (wLe (st g561 n 0 0 ((10 : Int32)).toNatClampNeg (1668441463 : Int32)) fun g565 => wGd (n < n518 ∧ n < 23 ∧ kdR n = 18) (wGi (11 : Int32) 14 (wLe (st g565 n 0 0 ((11 : Int32)).toNatClampNeg (28530 : Int32)) fun g569 => wGd (n < n518 ∧ n < 23 ∧ kdR n = 18) (wGi (12 : Int32) 14 (wLe (st g569 n 0 0 ((12 : Int32)).toNatClampNeg (6385252 : Int32)) fun g573 => wGd (n < n518 ∧ n < 23 ∧ kdR n = 18) (wGi (13 : Int32) 14 (wLe (st g573 n 0 0 ((13 : Int32)).toNatClampNeg (7237492 : Int32)) fun g577 => wGd (c0 < n518 ∧ c0 < 23 ∧ kdR c0 = 0) (wGd (n + 1 < 2 ^ 31) (wLe (st g577 c0 0 0 29 (nI (n + 1))) fun g581 => fX11_init_s675 n0 n518 g581 c0)))))))))))))))))))))))))))))))
set_option maxHeartbeats 4000000 in
set_option maxRecDepth 20000 in
theorem wX11_init_s587 {k : En} {n0 : Nat} {c0 : Nat} {res : Nat × Mm} (X : Cd k p s m args meth c cX11_init 2 RX11) {n : Nat} {g : Mm} {ce sl : Nat} {H : Heap} {locs : List Loc} {ls : Array Slot} (hc : ce + n0 = n) (hz : sl + slR n0 = slR n) (h : Hd DR k n s g H locs) (hl : lv_has ls 2 [(0, .ref (k.1 + c0))]) {r : Nat × Mm} (hf : fX11_init_s587 n0 n g c0 = some r) (JR : r = res) : W p l e (RmI 1 22 3217 30) s m args below meth c H locs ce sl (FinD DR k args s below 22 3217 res.1 res.2) (F0 m 587 ls []) := by
  unfold fX11_init_s587 at hf
  refine lv_aload_n X.x X.b dX11_init_587 rfl (lv_at hl 0 rfl) ?_
  refine lv_bipush (v := 14) X.x X.b dX11_init_588 (by decide) ?_
  obtain ⟨⟨hk522, ha523a, ha523b, ha523c⟩, hf⟩ := wGd_s hf
  obtain ⟨n518, e520, hf⟩ := wLe_s hf
  obtain ⟨g519, e521, hf⟩ := wLe_s hf
  have hc707 : (ce + 1) + n0 = n518 := by omega
  have hz708 : (sl + 14) + slR n0 = slR n518 := by rw [e520]; omega
  refine rd_newa (cells' := (ce + 1)) (slots' := (sl + 14)) (t := 18) (N := 14) X h hk522 (fun _ => rfl) (by decide) (by decide) (by decide) arr_int rfl rfl ⟨by show (ce + 1) ≤ 22; omega, by show (sl + 14) ≤ 3217; omega⟩ dX11_init_590 (fun H h => ?_)
  have hc := hc707
  have hz := hz708
  rw [← e520, ← e521] at h
  refine lv_dup X.x X.b dX11_init_592 rfl ?_
  refine lv_iconst (v := 0) X.x X.b dX11_init_593 (by decide) ?_
  refine rd_ldc X lc_X11_65 dX11_init_594 ?_
  obtain ⟨ha527, hf⟩ := wGd_s hf
  obtain ⟨b524, hf⟩ := wGi_s hf
  obtain ⟨g525, e526, hf⟩ := wLe_s hf
  refine rd_ast (t := 18) (N := 14) X h ha527 (fun _ => rfl) e526 b524 dX11_init_596 (fun H locs h => ?_)
  refine lv_dup X.x X.b dX11_init_597 rfl ?_
  refine lv_iconst (v := 1) X.x X.b dX11_init_598 (by decide) ?_
  refine rd_ldc X lc_X11_66 dX11_init_599 ?_
  obtain ⟨ha531, hf⟩ := wGd_s hf
  obtain ⟨b528, hf⟩ := wGi_s hf
  obtain ⟨g529, e530, hf⟩ := wLe_s hf
  refine rd_ast (t := 18) (N := 14) X h ha531 (fun _ => rfl) e530 b528 dX11_init_601 (fun H locs h => ?_)
  refine lv_dup X.x X.b dX11_init_602 rfl ?_
  refine lv_iconst (v := 2) X.x X.b dX11_init_603 (by decide) ?_
  refine rd_ldc X lc_X11_67 dX11_init_604 ?_
  obtain ⟨ha535, hf⟩ := wGd_s hf
  obtain ⟨b532, hf⟩ := wGi_s hf
  obtain ⟨g533, e534, hf⟩ := wLe_s hf
  refine rd_ast (t := 18) (N := 14) X h ha535 (fun _ => rfl) e534 b532 dX11_init_606 (fun H locs h => ?_)
  refine lv_dup X.x X.b dX11_init_607 rfl ?_
  refine lv_iconst (v := 3) X.x X.b dX11_init_608 (by decide) ?_
  refine lv_sipush (v := 26990) X.x X.b dX11_init_609 (by decide) ?_
  obtain ⟨ha539, hf⟩ := wGd_s hf
  obtain ⟨b536, hf⟩ := wGi_s hf
  obtain ⟨g537, e538, hf⟩ := wLe_s hf
  refine rd_ast (t := 18) (N := 14) X h ha539 (fun _ => rfl) e538 b536 dX11_init_612 (fun H locs h => ?_)
  refine lv_dup X.x X.b dX11_init_613 rfl ?_
  refine lv_iconst (v := 4) X.x X.b dX11_init_614 (by decide) ?_
  refine rd_ldc X lc_X11_68 dX11_init_615 ?_
  obtain ⟨ha543, hf⟩ := wGd_s hf
  obtain ⟨b540, hf⟩ := wGi_s hf
  obtain ⟨g541, e542, hf⟩ := wLe_s hf
  refine rd_ast (t := 18) (N := 14) X h ha543 (fun _ => rfl) e542 b540 dX11_init_617 (fun H locs h => ?_)
  refine lv_dup X.x X.b dX11_init_618 rfl ?_
  refine lv_iconst (v := 5) X.x X.b dX11_init_619 (by decide) ?_
  refine rd_ldc X lc_X11_69 dX11_init_620 ?_
  obtain ⟨ha547, hf⟩ := wGd_s hf
  obtain ⟨b544, hf⟩ := wGi_s hf
  obtain ⟨g545, e546, hf⟩ := wLe_s hf
  refine rd_ast (t := 18) (N := 14) X h ha547 (fun _ => rfl) e546 b544 dX11_init_622 (fun H locs h => ?_)
  refine lv_dup X.x X.b dX11_init_623 rfl ?_
  refine lv_bipush (v := 6) X.x X.b dX11_init_624 (by decide) ?_
  refine rd_ldc X lc_X11_70 dX11_init_626 ?_
  obtain ⟨ha551, hf⟩ := wGd_s hf
  obtain ⟨b548, hf⟩ := wGi_s hf
  obtain ⟨g549, e550, hf⟩ := wLe_s hf
  refine rd_ast (t := 18) (N := 14) X h ha551 (fun _ => rfl) e550 b548 dX11_init_628 (fun H locs h => ?_)
  refine lv_dup X.x X.b dX11_init_629 rfl ?_
  refine lv_bipush (v := 7) X.x X.b dX11_init_630 (by decide) ?_
  refine rd_ldc X lc_X11_71 dX11_init_632 ?_
  obtain ⟨ha555, hf⟩ := wGd_s hf
  obtain ⟨b552, hf⟩ := wGi_s hf
  obtain ⟨g553, e554, hf⟩ := wLe_s hf
  refine rd_ast (t := 18) (N := 14) X h ha555 (fun _ => rfl) e554 b552 dX11_init_634 (fun H locs h => ?_)
  refine lv_dup X.x X.b dX11_init_635 rfl ?_
  refine lv_bipush (v := 8) X.x X.b dX11_init_636 (by decide) ?_
  refine rd_ldc X lc_X11_72 dX11_init_638 ?_
  obtain ⟨ha559, hf⟩ := wGd_s hf
  obtain ⟨b556, hf⟩ := wGi_s hf
  obtain ⟨g557, e558, hf⟩ := wLe_s hf
  refine rd_ast (t := 18) (N := 14) X h ha559 (fun _ => rfl) e558 b556 dX11_init_640 (fun H locs h => ?_)
  refine lv_dup X.x X.b dX11_init_641 rfl ?_
  refine lv_bipush (v := 9) X.x X.b dX11_init_642 (by decide) ?_
  refine rd_ldc X lc_X11_73 dX11_init_644 ?_
  obtain ⟨ha563, hf⟩ := wGd_s hf
  obtain ⟨b560, hf⟩ := wGi_s hf
  obtain ⟨g561, e562, hf⟩ := wLe_s hf
  refine rd_ast (t := 18) (N := 14) X h ha563 (fun _ => rfl) e562 b560 dX11_init_646 (fun H locs h => ?_)
  refine lv_dup X.x X.b dX11_init_647 rfl ?_
  refine lv_bipush (v := 10) X.x X.b dX11_init_648 (by decide) ?_
  refine rd_ldc X lc_X11_74 dX11_init_650 ?_
  obtain ⟨ha567, hf⟩ := wGd_s hf
  obtain ⟨b564, hf⟩ := wGi_s hf
  obtain ⟨g565, e566, hf⟩ := wLe_s hf
  refine rd_ast (t := 18) (N := 14) X h ha567 (fun _ => rfl) e566 b564 dX11_init_652 (fun H locs h => ?_)
  refine lv_dup X.x X.b dX11_init_653 rfl ?_
  refine lv_bipush (v := 11) X.x X.b dX11_init_654 (by decide) ?_
  refine lv_sipush (v := 28530) X.x X.b dX11_init_656 (by decide) ?_
  obtain ⟨ha571, hf⟩ := wGd_s hf
  obtain ⟨b568, hf⟩ := wGi_s hf
  obtain ⟨g569, e570, hf⟩ := wLe_s hf
  refine rd_ast (t := 18) (N := 14) X h ha571 (fun _ => rfl) e570 b568 dX11_init_659 (fun H locs h => ?_)
  refine lv_dup X.x X.b dX11_init_660 rfl ?_
  refine lv_bipush (v := 12) X.x X.b dX11_init_661 (by decide) ?_
  refine rd_ldc X lc_X11_75 dX11_init_663 ?_
  obtain ⟨ha575, hf⟩ := wGd_s hf
  obtain ⟨b572, hf⟩ := wGi_s hf
  obtain ⟨g573, e574, hf⟩ := wLe_s hf
  refine rd_ast (t := 18) (N := 14) X h ha575 (fun _ => rfl) e574 b572 dX11_init_665 (fun H locs h => ?_)
  refine lv_dup X.x X.b dX11_init_666 rfl ?_
  refine lv_bipush (v := 13) X.x X.b dX11_init_667 (by decide) ?_
  refine rd_ldc X lc_X11_76 dX11_init_669 ?_
  obtain ⟨ha579, hf⟩ := wGd_s hf
  obtain ⟨b576, hf⟩ := wGi_s hf
  obtain ⟨g577, e578, hf⟩ := wLe_s hf
  refine rd_ast (t := 18) (N := 14) X h ha579 (fun _ => rfl) e578 b576 dX11_init_671 (fun H locs h => ?_)
  obtain ⟨ha580, hf⟩ := wGd_s hf
  obtain ⟨hb706, hf⟩ := wGd_s hf
  obtain ⟨g581, e582, hf⟩ := wLe_s hf
  refine rd_put (t := 0) (ci := 10) (j := 29) (C := RX11) (T := TX11) (N := 37) (x := nI (n + 1)) (val := .ref (k.1 + n)) X h ha580 rfl rfl (by decide) iX11 tyX11_ok nmX11 rfl rfl rfl (Nat.le_of_ble_eq_true rfl) lk_X11_77 e582 (congrArg (fun z => (Sum.inr (10, rD k (g577 c0 0 0 0) :: .int (g577 c0 0 0 1) :: .int (g577 c0 0 0 2) :: .int (g577 c0 0 0 3) :: .int (g577 c0 0 0 4) :: rD k (g577 c0 0 0 5) :: rD k (g577 c0 0 0 6) :: rD k (g577 c0 0 0 7) :: .int (g577 c0 0 0 8) :: rD k (g577 c0 0 0 9) :: rD k (g577 c0 0 0 10) :: .int (g577 c0 0 0 11) :: .int (g577 c0 0 0 12) :: .int (g577 c0 0 0 13) :: rD k (g577 c0 0 0 14) :: rD k (g577 c0 0 0 15) :: rD k (g577 c0 0 0 16) :: rD k (g577 c0 0 0 17) :: rD k (g577 c0 0 0 18) :: rD k (g577 c0 0 0 19) :: rD k (g577 c0 0 0 20) :: rD k (g577 c0 0 0 21) :: rD k (g577 c0 0 0 22) :: rD k (g577 c0 0 0 23) :: rD k (g577 c0 0 0 24) :: .int (g577 c0 0 0 25) :: .int (g577 c0 0 0 26) :: .int (g577 c0 0 0 27) :: .int (g577 c0 0 0 28) :: z :: rD k (g577 c0 0 0 30) :: .int (g577 c0 0 0 31) :: .int (g577 c0 0 0 32) :: .int (g577 c0 0 0 33) :: rD k (g577 c0 0 0 34) :: rD k (g577 c0 0 0 35) :: rD k (g577 c0 0 0 36) :: []) : va_E)) (rD_set k hb706)) dX11_init_672 (fun H locs h => ?_)
  exact wX11_init_s675 X hc hz h (lv_sub hl [0] rfl) hf JR
def fX11_init_s500 (n0 : Nat) (n : Nat) (g : Mm) (c0 : Nat) : Option (Nat × Mm) :=
  wGd (kdR n = 16 ∧ slR (n + 1) = slR n + 8 ∧ n + 1 ≤ n0 + 22 ∧ slR (n + 1) ≤ slR n0 + 3217) (wLe (n + 1) fun n436 => wLe (nw g n) fun g437 => wGd (n < n436 ∧ n < 23 ∧ kdR n = 16) (wGi (0 : Int32) 8 (wLe (st g437 n 0 0 ((0 : Int32)).toNatClampNeg (0 : Int32)) fun g443 => wGd (n < n436 ∧ n < 23 ∧ kdR n = 16) (wGi (1 : Int32) 8 (wLe (st g443 n 0 0 ((1 : Int32)).toNatClampNeg (-1 : Int32)) fun g447 => wGd (n < n436 ∧ n < 23 ∧ kdR n = 16) (wGi (2 : Int32) 8 (wLe (st g447 n 0 0 ((2 : Int32)).toNatClampNeg (-1 : Int32)) fun g451 => wGd (n < n436 ∧ n < 23 ∧ kdR n = 16) (wGi (3 : Int32) 8 (wLe (st g451 n 0 0 ((3 : Int32)).toNatClampNeg (1 : Int32)) fun g455 => wGd (n < n436 ∧ n < 23 ∧ kdR n = 16) (wGi (4 : Int32) 8 (wLe (st g455 n 0 0 ((4 : Int32)).toNatClampNeg (2 : Int32)) fun g459 => wGd (n < n436 ∧ n < 23 ∧ kdR n = 16) (wGi (5 : Int32) 8 (wLe (st g459 n 0 0 ((5 : Int32)).toNatClampNeg (-1 : Int32)) fun g463 => wGd (n < n436 ∧ n < 23 ∧ kdR n = 16) (wGi (6 : Int32) 8 (wLe (st g463 n 0 0 ((6 : Int32)).toNatClampNeg (4 : Int32)) fun g467 => wGd (n < n436 ∧ n < 23 ∧ kdR n = 16) (wGi (7 : Int32) 8 (wLe (st g467 n 0 0 ((7 : Int32)).toNatClampNeg (3 : Int32)) fun g471 => wGd (c0 < n436 ∧ c0 < 23 ∧ kdR c0 = 0) (wGd (n + 1 < 2 ^ 31) (wLe (st g471 c0 0 0 23 (nI (n + 1))) fun g475 => wGd (kdR n436 = 17 ∧ slR (n436 + 1) = slR n436 + 8 ∧ n436 + 1 ≤ n0 + 22 ∧ slR (n436 + 1) ≤ slR n0 + 3217) (wLe (n436 + 1) fun n477 => wLe (nw g475 n436) fun g478 => wGd (n436 < n477 ∧ n436 < 23 ∧ kdR n436 = 17) (wGi (0 : Int32) 8 (wLe (st g478 n436 0 0 ((0 : Int32)).toNatClampNeg (0 : Int32)) fun g484 => wGd (n436 < n477 ∧ n436 < 23 ∧ kdR n436 = 17) (wGi (1 : Int32) 8 (wLe (st g484 n436 0 0 ((1 : Int32)).toNatClampNeg (1 : Int32)) fun g488 => wGd (n436 < n477 ∧ n436 < 23 ∧ kdR n436 = 17) (wGi (2 : Int32) 8 (wLe (st g488 n436 0 0 ((2 : Int32)).toNatClampNeg (2 : Int32)) fun g492 => wGd (n436 < n477 ∧ n436 < 23 ∧ kdR n436 = 17) (wGi (3 : Int32) 8 (wLe (st g492 n436 0 0 ((3 : Int32)).toNatClampNeg (2 : Int32)) fun g496 => wGd (n436 < n477 ∧ n436 < 23 ∧ kdR n436 = 17) (wGi (4 : Int32) 8 (wLe (st g496 n436 0 0 ((4 : Int32)).toNatClampNeg (4 : Int32)) fun g500 => wGd (n436 < n477 ∧ n436 < 23 ∧ kdR n436 = 17) (wGi (5 : Int32) 8 (wLe (st g500 n436 0 0 ((5 : Int32)).toNatClampNeg (24 : Int32)) fun g504 => wGd (n436 < n477 ∧ n436 < 23 ∧ kdR n436 = 17) (wGi (6 : Int32) 8 (wLe (st g504 n436 0 0 ((6 : Int32)).toNatClampNeg (32 : Int32)) fun g508 => wGd (n436 < n477 ∧ n436 < 23 ∧ kdR n436 = 17) (wGi (7 : Int32) 8 (wLe (st g508 n436 0 0 ((7 : Int32)).toNatClampNeg (96 : Int32)) fun g512 => wGd (c0 < n477 ∧ c0 < 23 ∧ kdR c0 = 0) (wGd (n436 + 1 < 2 ^ 31) (wLe (st g512 c0 0 0 24 (nI (n436 + 1))) fun g516 => fX11_init_s587 n0 n477 g516 c0))))))))))))))))))))))))))))))))))))))
set_option maxHeartbeats 4000000 in
set_option maxRecDepth 20000 in
theorem wX11_init_s500 {k : En} {n0 : Nat} {c0 : Nat} {res : Nat × Mm} (X : Cd k p s m args meth c cX11_init 2 RX11) {n : Nat} {g : Mm} {ce sl : Nat} {H : Heap} {locs : List Loc} {ls : Array Slot} (hc : ce + n0 = n) (hz : sl + slR n0 = slR n) (h : Hd DR k n s g H locs) (hl : lv_has ls 2 [(0, .ref (k.1 + c0))]) {r : Nat × Mm} (hf : fX11_init_s500 n0 n g c0 = some r) (JR : r = res) : W p l e (RmI 1 22 3217 30) s m args below meth c H locs ce sl (FinD DR k args s below 22 3217 res.1 res.2) (F0 m 500 ls []) := by
  unfold fX11_init_s500 at hf
  refine lv_aload_n X.x X.b dX11_init_500 rfl (lv_at hl 0 rfl) ?_
  refine lv_bipush (v := 8) X.x X.b dX11_init_501 (by decide) ?_
  obtain ⟨⟨hk440, ha441a, ha441b, ha441c⟩, hf⟩ := wGd_s hf
  obtain ⟨n436, e438, hf⟩ := wLe_s hf
  obtain ⟨g437, e439, hf⟩ := wLe_s hf
  have hc713 : (ce + 1) + n0 = n436 := by omega
  have hz714 : (sl + 8) + slR n0 = slR n436 := by rw [e438]; omega
  refine rd_newa (cells' := (ce + 1)) (slots' := (sl + 8)) (t := 16) (N := 8) X h hk440 (fun _ => rfl) (by decide) (by decide) (by decide) arr_int rfl rfl ⟨by show (ce + 1) ≤ 22; omega, by show (sl + 8) ≤ 3217; omega⟩ dX11_init_503 (fun H h => ?_)
  have hc := hc713
  have hz := hz714
  rw [← e438, ← e439] at h
  refine lv_dup X.x X.b dX11_init_505 rfl ?_
  refine lv_iconst (v := 0) X.x X.b dX11_init_506 (by decide) ?_
  refine lv_iconst (v := 0) X.x X.b dX11_init_507 (by decide) ?_
  obtain ⟨ha445, hf⟩ := wGd_s hf
  obtain ⟨b442, hf⟩ := wGi_s hf
  obtain ⟨g443, e444, hf⟩ := wLe_s hf
  refine rd_ast (t := 16) (N := 8) X h ha445 (fun _ => rfl) e444 b442 dX11_init_508 (fun H locs h => ?_)
  refine lv_dup X.x X.b dX11_init_509 rfl ?_
  refine lv_iconst (v := 1) X.x X.b dX11_init_510 (by decide) ?_
  refine lv_iconst (v := (-1)) X.x X.b dX11_init_511 (by decide) ?_
  obtain ⟨ha449, hf⟩ := wGd_s hf
  obtain ⟨b446, hf⟩ := wGi_s hf
  obtain ⟨g447, e448, hf⟩ := wLe_s hf
  refine rd_ast (t := 16) (N := 8) X h ha449 (fun _ => rfl) e448 b446 dX11_init_512 (fun H locs h => ?_)
  refine lv_dup X.x X.b dX11_init_513 rfl ?_
  refine lv_iconst (v := 2) X.x X.b dX11_init_514 (by decide) ?_
  refine lv_iconst (v := (-1)) X.x X.b dX11_init_515 (by decide) ?_
  obtain ⟨ha453, hf⟩ := wGd_s hf
  obtain ⟨b450, hf⟩ := wGi_s hf
  obtain ⟨g451, e452, hf⟩ := wLe_s hf
  refine rd_ast (t := 16) (N := 8) X h ha453 (fun _ => rfl) e452 b450 dX11_init_516 (fun H locs h => ?_)
  refine lv_dup X.x X.b dX11_init_517 rfl ?_
  refine lv_iconst (v := 3) X.x X.b dX11_init_518 (by decide) ?_
  refine lv_iconst (v := 1) X.x X.b dX11_init_519 (by decide) ?_
  obtain ⟨ha457, hf⟩ := wGd_s hf
  obtain ⟨b454, hf⟩ := wGi_s hf
  obtain ⟨g455, e456, hf⟩ := wLe_s hf
  refine rd_ast (t := 16) (N := 8) X h ha457 (fun _ => rfl) e456 b454 dX11_init_520 (fun H locs h => ?_)
  refine lv_dup X.x X.b dX11_init_521 rfl ?_
  refine lv_iconst (v := 4) X.x X.b dX11_init_522 (by decide) ?_
  refine lv_iconst (v := 2) X.x X.b dX11_init_523 (by decide) ?_
  obtain ⟨ha461, hf⟩ := wGd_s hf
  obtain ⟨b458, hf⟩ := wGi_s hf
  obtain ⟨g459, e460, hf⟩ := wLe_s hf
  refine rd_ast (t := 16) (N := 8) X h ha461 (fun _ => rfl) e460 b458 dX11_init_524 (fun H locs h => ?_)
  refine lv_dup X.x X.b dX11_init_525 rfl ?_
  refine lv_iconst (v := 5) X.x X.b dX11_init_526 (by decide) ?_
  refine lv_iconst (v := (-1)) X.x X.b dX11_init_527 (by decide) ?_
  obtain ⟨ha465, hf⟩ := wGd_s hf
  obtain ⟨b462, hf⟩ := wGi_s hf
  obtain ⟨g463, e464, hf⟩ := wLe_s hf
  refine rd_ast (t := 16) (N := 8) X h ha465 (fun _ => rfl) e464 b462 dX11_init_528 (fun H locs h => ?_)
  refine lv_dup X.x X.b dX11_init_529 rfl ?_
  refine lv_bipush (v := 6) X.x X.b dX11_init_530 (by decide) ?_
  refine lv_iconst (v := 4) X.x X.b dX11_init_532 (by decide) ?_
  obtain ⟨ha469, hf⟩ := wGd_s hf
  obtain ⟨b466, hf⟩ := wGi_s hf
  obtain ⟨g467, e468, hf⟩ := wLe_s hf
  refine rd_ast (t := 16) (N := 8) X h ha469 (fun _ => rfl) e468 b466 dX11_init_533 (fun H locs h => ?_)
  refine lv_dup X.x X.b dX11_init_534 rfl ?_
  refine lv_bipush (v := 7) X.x X.b dX11_init_535 (by decide) ?_
  refine lv_iconst (v := 3) X.x X.b dX11_init_537 (by decide) ?_
  obtain ⟨ha473, hf⟩ := wGd_s hf
  obtain ⟨b470, hf⟩ := wGi_s hf
  obtain ⟨g471, e472, hf⟩ := wLe_s hf
  refine rd_ast (t := 16) (N := 8) X h ha473 (fun _ => rfl) e472 b470 dX11_init_538 (fun H locs h => ?_)
  obtain ⟨ha474, hf⟩ := wGd_s hf
  obtain ⟨hb712, hf⟩ := wGd_s hf
  obtain ⟨g475, e476, hf⟩ := wLe_s hf
  refine rd_put (t := 0) (ci := 10) (j := 23) (C := RX11) (T := TX11) (N := 37) (x := nI (n + 1)) (val := .ref (k.1 + n)) X h ha474 rfl rfl (by decide) iX11 tyX11_ok nmX11 rfl rfl rfl (Nat.le_of_ble_eq_true rfl) lk_X11_59 e476 (congrArg (fun z => (Sum.inr (10, rD k (g471 c0 0 0 0) :: .int (g471 c0 0 0 1) :: .int (g471 c0 0 0 2) :: .int (g471 c0 0 0 3) :: .int (g471 c0 0 0 4) :: rD k (g471 c0 0 0 5) :: rD k (g471 c0 0 0 6) :: rD k (g471 c0 0 0 7) :: .int (g471 c0 0 0 8) :: rD k (g471 c0 0 0 9) :: rD k (g471 c0 0 0 10) :: .int (g471 c0 0 0 11) :: .int (g471 c0 0 0 12) :: .int (g471 c0 0 0 13) :: rD k (g471 c0 0 0 14) :: rD k (g471 c0 0 0 15) :: rD k (g471 c0 0 0 16) :: rD k (g471 c0 0 0 17) :: rD k (g471 c0 0 0 18) :: rD k (g471 c0 0 0 19) :: rD k (g471 c0 0 0 20) :: rD k (g471 c0 0 0 21) :: rD k (g471 c0 0 0 22) :: z :: rD k (g471 c0 0 0 24) :: .int (g471 c0 0 0 25) :: .int (g471 c0 0 0 26) :: .int (g471 c0 0 0 27) :: .int (g471 c0 0 0 28) :: rD k (g471 c0 0 0 29) :: rD k (g471 c0 0 0 30) :: .int (g471 c0 0 0 31) :: .int (g471 c0 0 0 32) :: .int (g471 c0 0 0 33) :: rD k (g471 c0 0 0 34) :: rD k (g471 c0 0 0 35) :: rD k (g471 c0 0 0 36) :: []) : va_E)) (rD_set k hb712)) dX11_init_539 (fun H locs h => ?_)
  refine lv_aload_n X.x X.b dX11_init_542 rfl (lv_at hl 0 rfl) ?_
  refine lv_bipush (v := 8) X.x X.b dX11_init_543 (by decide) ?_
  obtain ⟨⟨hk481, ha482a, ha482b, ha482c⟩, hf⟩ := wGd_s hf
  obtain ⟨n477, e479, hf⟩ := wLe_s hf
  obtain ⟨g478, e480, hf⟩ := wLe_s hf
  have hc710 : ((ce + 1) + 1) + n0 = n477 := by omega
  have hz711 : ((sl + 8) + 8) + slR n0 = slR n477 := by rw [e479]; omega
  refine rd_newa (cells' := ((ce + 1) + 1)) (slots' := ((sl + 8) + 8)) (t := 17) (N := 8) X h hk481 (fun _ => rfl) (by decide) (by decide) (by decide) arr_int rfl rfl ⟨by show ((ce + 1) + 1) ≤ 22; omega, by show ((sl + 8) + 8) ≤ 3217; omega⟩ dX11_init_545 (fun H h => ?_)
  have hc := hc710
  have hz := hz711
  rw [← e479, ← e480] at h
  refine lv_dup X.x X.b dX11_init_547 rfl ?_
  refine lv_iconst (v := 0) X.x X.b dX11_init_548 (by decide) ?_
  refine lv_iconst (v := 0) X.x X.b dX11_init_549 (by decide) ?_
  obtain ⟨ha486, hf⟩ := wGd_s hf
  obtain ⟨b483, hf⟩ := wGi_s hf
  obtain ⟨g484, e485, hf⟩ := wLe_s hf
  refine rd_ast (t := 17) (N := 8) X h ha486 (fun _ => rfl) e485 b483 dX11_init_550 (fun H locs h => ?_)
  refine lv_dup X.x X.b dX11_init_551 rfl ?_
  refine lv_iconst (v := 1) X.x X.b dX11_init_552 (by decide) ?_
  refine lv_iconst (v := 1) X.x X.b dX11_init_553 (by decide) ?_
  obtain ⟨ha490, hf⟩ := wGd_s hf
  obtain ⟨b487, hf⟩ := wGi_s hf
  obtain ⟨g488, e489, hf⟩ := wLe_s hf
  refine rd_ast (t := 17) (N := 8) X h ha490 (fun _ => rfl) e489 b487 dX11_init_554 (fun H locs h => ?_)
  refine lv_dup X.x X.b dX11_init_555 rfl ?_
  refine lv_iconst (v := 2) X.x X.b dX11_init_556 (by decide) ?_
  refine lv_iconst (v := 2) X.x X.b dX11_init_557 (by decide) ?_
  obtain ⟨ha494, hf⟩ := wGd_s hf
  obtain ⟨b491, hf⟩ := wGi_s hf
  obtain ⟨g492, e493, hf⟩ := wLe_s hf
  refine rd_ast (t := 17) (N := 8) X h ha494 (fun _ => rfl) e493 b491 dX11_init_558 (fun H locs h => ?_)
  refine lv_dup X.x X.b dX11_init_559 rfl ?_
  refine lv_iconst (v := 3) X.x X.b dX11_init_560 (by decide) ?_
  refine lv_iconst (v := 2) X.x X.b dX11_init_561 (by decide) ?_
  obtain ⟨ha498, hf⟩ := wGd_s hf
  obtain ⟨b495, hf⟩ := wGi_s hf
  obtain ⟨g496, e497, hf⟩ := wLe_s hf
  refine rd_ast (t := 17) (N := 8) X h ha498 (fun _ => rfl) e497 b495 dX11_init_562 (fun H locs h => ?_)
  refine lv_dup X.x X.b dX11_init_563 rfl ?_
  refine lv_iconst (v := 4) X.x X.b dX11_init_564 (by decide) ?_
  refine lv_iconst (v := 4) X.x X.b dX11_init_565 (by decide) ?_
  obtain ⟨ha502, hf⟩ := wGd_s hf
  obtain ⟨b499, hf⟩ := wGi_s hf
  obtain ⟨g500, e501, hf⟩ := wLe_s hf
  refine rd_ast (t := 17) (N := 8) X h ha502 (fun _ => rfl) e501 b499 dX11_init_566 (fun H locs h => ?_)
  refine lv_dup X.x X.b dX11_init_567 rfl ?_
  refine lv_iconst (v := 5) X.x X.b dX11_init_568 (by decide) ?_
  refine lv_bipush (v := 24) X.x X.b dX11_init_569 (by decide) ?_
  obtain ⟨ha506, hf⟩ := wGd_s hf
  obtain ⟨b503, hf⟩ := wGi_s hf
  obtain ⟨g504, e505, hf⟩ := wLe_s hf
  refine rd_ast (t := 17) (N := 8) X h ha506 (fun _ => rfl) e505 b503 dX11_init_571 (fun H locs h => ?_)
  refine lv_dup X.x X.b dX11_init_572 rfl ?_
  refine lv_bipush (v := 6) X.x X.b dX11_init_573 (by decide) ?_
  refine lv_bipush (v := 32) X.x X.b dX11_init_575 (by decide) ?_
  obtain ⟨ha510, hf⟩ := wGd_s hf
  obtain ⟨b507, hf⟩ := wGi_s hf
  obtain ⟨g508, e509, hf⟩ := wLe_s hf
  refine rd_ast (t := 17) (N := 8) X h ha510 (fun _ => rfl) e509 b507 dX11_init_577 (fun H locs h => ?_)
  refine lv_dup X.x X.b dX11_init_578 rfl ?_
  refine lv_bipush (v := 7) X.x X.b dX11_init_579 (by decide) ?_
  refine lv_bipush (v := 96) X.x X.b dX11_init_581 (by decide) ?_
  obtain ⟨ha514, hf⟩ := wGd_s hf
  obtain ⟨b511, hf⟩ := wGi_s hf
  obtain ⟨g512, e513, hf⟩ := wLe_s hf
  refine rd_ast (t := 17) (N := 8) X h ha514 (fun _ => rfl) e513 b511 dX11_init_583 (fun H locs h => ?_)
  obtain ⟨ha515, hf⟩ := wGd_s hf
  obtain ⟨hb709, hf⟩ := wGd_s hf
  obtain ⟨g516, e517, hf⟩ := wLe_s hf
  refine rd_put (t := 0) (ci := 10) (j := 24) (C := RX11) (T := TX11) (N := 37) (x := nI (n436 + 1)) (val := .ref (k.1 + n436)) X h ha515 rfl rfl (by decide) iX11 tyX11_ok nmX11 rfl rfl rfl (Nat.le_of_ble_eq_true rfl) lk_X11_62 e517 (congrArg (fun z => (Sum.inr (10, rD k (g512 c0 0 0 0) :: .int (g512 c0 0 0 1) :: .int (g512 c0 0 0 2) :: .int (g512 c0 0 0 3) :: .int (g512 c0 0 0 4) :: rD k (g512 c0 0 0 5) :: rD k (g512 c0 0 0 6) :: rD k (g512 c0 0 0 7) :: .int (g512 c0 0 0 8) :: rD k (g512 c0 0 0 9) :: rD k (g512 c0 0 0 10) :: .int (g512 c0 0 0 11) :: .int (g512 c0 0 0 12) :: .int (g512 c0 0 0 13) :: rD k (g512 c0 0 0 14) :: rD k (g512 c0 0 0 15) :: rD k (g512 c0 0 0 16) :: rD k (g512 c0 0 0 17) :: rD k (g512 c0 0 0 18) :: rD k (g512 c0 0 0 19) :: rD k (g512 c0 0 0 20) :: rD k (g512 c0 0 0 21) :: rD k (g512 c0 0 0 22) :: rD k (g512 c0 0 0 23) :: z :: .int (g512 c0 0 0 25) :: .int (g512 c0 0 0 26) :: .int (g512 c0 0 0 27) :: .int (g512 c0 0 0 28) :: rD k (g512 c0 0 0 29) :: rD k (g512 c0 0 0 30) :: .int (g512 c0 0 0 31) :: .int (g512 c0 0 0 32) :: .int (g512 c0 0 0 33) :: rD k (g512 c0 0 0 34) :: rD k (g512 c0 0 0 35) :: rD k (g512 c0 0 0 36) :: []) : va_E)) (rD_set k hb709)) dX11_init_584 (fun H locs h => ?_)
  exact wX11_init_s587 X hc hz h (lv_sub hl [0] rfl) hf JR
def fX11_init_s436 (n0 : Nat) (n : Nat) (g : Mm) (c0 : Nat) : Option (Nat × Mm) :=
  wGd (kdR n = 14 ∧ slR (n + 1) = slR n + 6 ∧ n + 1 ≤ n0 + 22 ∧ slR (n + 1) ≤ slR n0 + 3217) (wLe (n + 1) fun n370 => wLe (nw g n) fun g371 => wGd (n < n370 ∧ n < 23 ∧ kdR n = 14) (wGi (0 : Int32) 6 (wLe (st g371 n 0 0 ((0 : Int32)).toNatClampNeg (1 : Int32)) fun g377 => wGd (n < n370 ∧ n < 23 ∧ kdR n = 14) (wGi (1 : Int32) 6 (wLe (st g377 n 0 0 ((1 : Int32)).toNatClampNeg (2 : Int32)) fun g381 => wGd (n < n370 ∧ n < 23 ∧ kdR n = 14) (wGi (2 : Int32) 6 (wLe (st g381 n 0 0 ((2 : Int32)).toNatClampNeg (1 : Int32)) fun g385 => wGd (n < n370 ∧ n < 23 ∧ kdR n = 14) (wGi (3 : Int32) 6 (wLe (st g385 n 0 0 ((3 : Int32)).toNatClampNeg (3 : Int32)) fun g389 => wGd (n < n370 ∧ n < 23 ∧ kdR n = 14) (wGi (4 : Int32) 6 (wLe (st g389 n 0 0 ((4 : Int32)).toNatClampNeg (1 : Int32)) fun g393 => wGd (n < n370 ∧ n < 23 ∧ kdR n = 14) (wGi (5 : Int32) 6 (wLe (st g393 n 0 0 ((5 : Int32)).toNatClampNeg (3 : Int32)) fun g397 => wGd (c0 < n370 ∧ c0 < 23 ∧ kdR c0 = 0) (wGd (n + 1 < 2 ^ 31) (wLe (st g397 c0 0 0 21 (nI (n + 1))) fun g401 => wGd (kdR n370 = 15 ∧ slR (n370 + 1) = slR n370 + 6 ∧ n370 + 1 ≤ n0 + 22 ∧ slR (n370 + 1) ≤ slR n0 + 3217) (wLe (n370 + 1) fun n403 => wLe (nw g401 n370) fun g404 => wGd (n370 < n403 ∧ n370 < 23 ∧ kdR n370 = 15) (wGi (0 : Int32) 6 (wLe (st g404 n370 0 0 ((0 : Int32)).toNatClampNeg (2 : Int32)) fun g410 => wGd (n370 < n403 ∧ n370 < 23 ∧ kdR n370 = 15) (wGi (1 : Int32) 6 (wLe (st g410 n370 0 0 ((1 : Int32)).toNatClampNeg (2 : Int32)) fun g414 => wGd (n370 < n403 ∧ n370 < 23 ∧ kdR n370 = 15) (wGi (2 : Int32) 6 (wLe (st g414 n370 0 0 ((2 : Int32)).toNatClampNeg (2 : Int32)) fun g418 => wGd (n370 < n403 ∧ n370 < 23 ∧ kdR n370 = 15) (wGi (3 : Int32) 6 (wLe (st g418 n370 0 0 ((3 : Int32)).toNatClampNeg (3 : Int32)) fun g422 => wGd (n370 < n403 ∧ n370 < 23 ∧ kdR n370 = 15) (wGi (4 : Int32) 6 (wLe (st g422 n370 0 0 ((4 : Int32)).toNatClampNeg (2 : Int32)) fun g426 => wGd (n370 < n403 ∧ n370 < 23 ∧ kdR n370 = 15) (wGi (5 : Int32) 6 (wLe (st g426 n370 0 0 ((5 : Int32)).toNatClampNeg (3 : Int32)) fun g430 => wGd (c0 < n403 ∧ c0 < 23 ∧ kdR c0 = 0) (wGd (n370 + 1 < 2 ^ 31) (wLe (st g430 c0 0 0 22 (nI (n370 + 1))) fun g434 => fX11_init_s500 n0 n403 g434 c0))))))))))))))))))))))))))))))
set_option maxHeartbeats 4000000 in
set_option maxRecDepth 20000 in
theorem wX11_init_s436 {k : En} {n0 : Nat} {c0 : Nat} {res : Nat × Mm} (X : Cd k p s m args meth c cX11_init 2 RX11) {n : Nat} {g : Mm} {ce sl : Nat} {H : Heap} {locs : List Loc} {ls : Array Slot} (hc : ce + n0 = n) (hz : sl + slR n0 = slR n) (h : Hd DR k n s g H locs) (hl : lv_has ls 2 [(0, .ref (k.1 + c0))]) {r : Nat × Mm} (hf : fX11_init_s436 n0 n g c0 = some r) (JR : r = res) : W p l e (RmI 1 22 3217 30) s m args below meth c H locs ce sl (FinD DR k args s below 22 3217 res.1 res.2) (F0 m 436 ls []) := by
  unfold fX11_init_s436 at hf
  refine lv_aload_n X.x X.b dX11_init_436 rfl (lv_at hl 0 rfl) ?_
  refine lv_bipush (v := 6) X.x X.b dX11_init_437 (by decide) ?_
  obtain ⟨⟨hk374, ha375a, ha375b, ha375c⟩, hf⟩ := wGd_s hf
  obtain ⟨n370, e372, hf⟩ := wLe_s hf
  obtain ⟨g371, e373, hf⟩ := wLe_s hf
  have hc719 : (ce + 1) + n0 = n370 := by omega
  have hz720 : (sl + 6) + slR n0 = slR n370 := by rw [e372]; omega
  refine rd_newa (cells' := (ce + 1)) (slots' := (sl + 6)) (t := 14) (N := 6) X h hk374 (fun _ => rfl) (by decide) (by decide) (by decide) arr_int rfl rfl ⟨by show (ce + 1) ≤ 22; omega, by show (sl + 6) ≤ 3217; omega⟩ dX11_init_439 (fun H h => ?_)
  have hc := hc719
  have hz := hz720
  rw [← e372, ← e373] at h
  refine lv_dup X.x X.b dX11_init_441 rfl ?_
  refine lv_iconst (v := 0) X.x X.b dX11_init_442 (by decide) ?_
  refine lv_iconst (v := 1) X.x X.b dX11_init_443 (by decide) ?_
  obtain ⟨ha379, hf⟩ := wGd_s hf
  obtain ⟨b376, hf⟩ := wGi_s hf
  obtain ⟨g377, e378, hf⟩ := wLe_s hf
  refine rd_ast (t := 14) (N := 6) X h ha379 (fun _ => rfl) e378 b376 dX11_init_444 (fun H locs h => ?_)
  refine lv_dup X.x X.b dX11_init_445 rfl ?_
  refine lv_iconst (v := 1) X.x X.b dX11_init_446 (by decide) ?_
  refine lv_iconst (v := 2) X.x X.b dX11_init_447 (by decide) ?_
  obtain ⟨ha383, hf⟩ := wGd_s hf
  obtain ⟨b380, hf⟩ := wGi_s hf
  obtain ⟨g381, e382, hf⟩ := wLe_s hf
  refine rd_ast (t := 14) (N := 6) X h ha383 (fun _ => rfl) e382 b380 dX11_init_448 (fun H locs h => ?_)
  refine lv_dup X.x X.b dX11_init_449 rfl ?_
  refine lv_iconst (v := 2) X.x X.b dX11_init_450 (by decide) ?_
  refine lv_iconst (v := 1) X.x X.b dX11_init_451 (by decide) ?_
  obtain ⟨ha387, hf⟩ := wGd_s hf
  obtain ⟨b384, hf⟩ := wGi_s hf
  obtain ⟨g385, e386, hf⟩ := wLe_s hf
  refine rd_ast (t := 14) (N := 6) X h ha387 (fun _ => rfl) e386 b384 dX11_init_452 (fun H locs h => ?_)
  refine lv_dup X.x X.b dX11_init_453 rfl ?_
  refine lv_iconst (v := 3) X.x X.b dX11_init_454 (by decide) ?_
  refine lv_iconst (v := 3) X.x X.b dX11_init_455 (by decide) ?_
  obtain ⟨ha391, hf⟩ := wGd_s hf
  obtain ⟨b388, hf⟩ := wGi_s hf
  obtain ⟨g389, e390, hf⟩ := wLe_s hf
  refine rd_ast (t := 14) (N := 6) X h ha391 (fun _ => rfl) e390 b388 dX11_init_456 (fun H locs h => ?_)
  refine lv_dup X.x X.b dX11_init_457 rfl ?_
  refine lv_iconst (v := 4) X.x X.b dX11_init_458 (by decide) ?_
  refine lv_iconst (v := 1) X.x X.b dX11_init_459 (by decide) ?_
  obtain ⟨ha395, hf⟩ := wGd_s hf
  obtain ⟨b392, hf⟩ := wGi_s hf
  obtain ⟨g393, e394, hf⟩ := wLe_s hf
  refine rd_ast (t := 14) (N := 6) X h ha395 (fun _ => rfl) e394 b392 dX11_init_460 (fun H locs h => ?_)
  refine lv_dup X.x X.b dX11_init_461 rfl ?_
  refine lv_iconst (v := 5) X.x X.b dX11_init_462 (by decide) ?_
  refine lv_iconst (v := 3) X.x X.b dX11_init_463 (by decide) ?_
  obtain ⟨ha399, hf⟩ := wGd_s hf
  obtain ⟨b396, hf⟩ := wGi_s hf
  obtain ⟨g397, e398, hf⟩ := wLe_s hf
  refine rd_ast (t := 14) (N := 6) X h ha399 (fun _ => rfl) e398 b396 dX11_init_464 (fun H locs h => ?_)
  obtain ⟨ha400, hf⟩ := wGd_s hf
  obtain ⟨hb718, hf⟩ := wGd_s hf
  obtain ⟨g401, e402, hf⟩ := wLe_s hf
  refine rd_put (t := 0) (ci := 10) (j := 21) (C := RX11) (T := TX11) (N := 37) (x := nI (n + 1)) (val := .ref (k.1 + n)) X h ha400 rfl rfl (by decide) iX11 tyX11_ok nmX11 rfl rfl rfl (Nat.le_of_ble_eq_true rfl) lk_X11_53 e402 (congrArg (fun z => (Sum.inr (10, rD k (g397 c0 0 0 0) :: .int (g397 c0 0 0 1) :: .int (g397 c0 0 0 2) :: .int (g397 c0 0 0 3) :: .int (g397 c0 0 0 4) :: rD k (g397 c0 0 0 5) :: rD k (g397 c0 0 0 6) :: rD k (g397 c0 0 0 7) :: .int (g397 c0 0 0 8) :: rD k (g397 c0 0 0 9) :: rD k (g397 c0 0 0 10) :: .int (g397 c0 0 0 11) :: .int (g397 c0 0 0 12) :: .int (g397 c0 0 0 13) :: rD k (g397 c0 0 0 14) :: rD k (g397 c0 0 0 15) :: rD k (g397 c0 0 0 16) :: rD k (g397 c0 0 0 17) :: rD k (g397 c0 0 0 18) :: rD k (g397 c0 0 0 19) :: rD k (g397 c0 0 0 20) :: z :: rD k (g397 c0 0 0 22) :: rD k (g397 c0 0 0 23) :: rD k (g397 c0 0 0 24) :: .int (g397 c0 0 0 25) :: .int (g397 c0 0 0 26) :: .int (g397 c0 0 0 27) :: .int (g397 c0 0 0 28) :: rD k (g397 c0 0 0 29) :: rD k (g397 c0 0 0 30) :: .int (g397 c0 0 0 31) :: .int (g397 c0 0 0 32) :: .int (g397 c0 0 0 33) :: rD k (g397 c0 0 0 34) :: rD k (g397 c0 0 0 35) :: rD k (g397 c0 0 0 36) :: []) : va_E)) (rD_set k hb718)) dX11_init_465 (fun H locs h => ?_)
  refine lv_aload_n X.x X.b dX11_init_468 rfl (lv_at hl 0 rfl) ?_
  refine lv_bipush (v := 6) X.x X.b dX11_init_469 (by decide) ?_
  obtain ⟨⟨hk407, ha408a, ha408b, ha408c⟩, hf⟩ := wGd_s hf
  obtain ⟨n403, e405, hf⟩ := wLe_s hf
  obtain ⟨g404, e406, hf⟩ := wLe_s hf
  have hc716 : ((ce + 1) + 1) + n0 = n403 := by omega
  have hz717 : ((sl + 6) + 6) + slR n0 = slR n403 := by rw [e405]; omega
  refine rd_newa (cells' := ((ce + 1) + 1)) (slots' := ((sl + 6) + 6)) (t := 15) (N := 6) X h hk407 (fun _ => rfl) (by decide) (by decide) (by decide) arr_int rfl rfl ⟨by show ((ce + 1) + 1) ≤ 22; omega, by show ((sl + 6) + 6) ≤ 3217; omega⟩ dX11_init_471 (fun H h => ?_)
  have hc := hc716
  have hz := hz717
  rw [← e405, ← e406] at h
  refine lv_dup X.x X.b dX11_init_473 rfl ?_
  refine lv_iconst (v := 0) X.x X.b dX11_init_474 (by decide) ?_
  refine lv_iconst (v := 2) X.x X.b dX11_init_475 (by decide) ?_
  obtain ⟨ha412, hf⟩ := wGd_s hf
  obtain ⟨b409, hf⟩ := wGi_s hf
  obtain ⟨g410, e411, hf⟩ := wLe_s hf
  refine rd_ast (t := 15) (N := 6) X h ha412 (fun _ => rfl) e411 b409 dX11_init_476 (fun H locs h => ?_)
  refine lv_dup X.x X.b dX11_init_477 rfl ?_
  refine lv_iconst (v := 1) X.x X.b dX11_init_478 (by decide) ?_
  refine lv_iconst (v := 2) X.x X.b dX11_init_479 (by decide) ?_
  obtain ⟨ha416, hf⟩ := wGd_s hf
  obtain ⟨b413, hf⟩ := wGi_s hf
  obtain ⟨g414, e415, hf⟩ := wLe_s hf
  refine rd_ast (t := 15) (N := 6) X h ha416 (fun _ => rfl) e415 b413 dX11_init_480 (fun H locs h => ?_)
  refine lv_dup X.x X.b dX11_init_481 rfl ?_
  refine lv_iconst (v := 2) X.x X.b dX11_init_482 (by decide) ?_
  refine lv_iconst (v := 2) X.x X.b dX11_init_483 (by decide) ?_
  obtain ⟨ha420, hf⟩ := wGd_s hf
  obtain ⟨b417, hf⟩ := wGi_s hf
  obtain ⟨g418, e419, hf⟩ := wLe_s hf
  refine rd_ast (t := 15) (N := 6) X h ha420 (fun _ => rfl) e419 b417 dX11_init_484 (fun H locs h => ?_)
  refine lv_dup X.x X.b dX11_init_485 rfl ?_
  refine lv_iconst (v := 3) X.x X.b dX11_init_486 (by decide) ?_
  refine lv_iconst (v := 3) X.x X.b dX11_init_487 (by decide) ?_
  obtain ⟨ha424, hf⟩ := wGd_s hf
  obtain ⟨b421, hf⟩ := wGi_s hf
  obtain ⟨g422, e423, hf⟩ := wLe_s hf
  refine rd_ast (t := 15) (N := 6) X h ha424 (fun _ => rfl) e423 b421 dX11_init_488 (fun H locs h => ?_)
  refine lv_dup X.x X.b dX11_init_489 rfl ?_
  refine lv_iconst (v := 4) X.x X.b dX11_init_490 (by decide) ?_
  refine lv_iconst (v := 2) X.x X.b dX11_init_491 (by decide) ?_
  obtain ⟨ha428, hf⟩ := wGd_s hf
  obtain ⟨b425, hf⟩ := wGi_s hf
  obtain ⟨g426, e427, hf⟩ := wLe_s hf
  refine rd_ast (t := 15) (N := 6) X h ha428 (fun _ => rfl) e427 b425 dX11_init_492 (fun H locs h => ?_)
  refine lv_dup X.x X.b dX11_init_493 rfl ?_
  refine lv_iconst (v := 5) X.x X.b dX11_init_494 (by decide) ?_
  refine lv_iconst (v := 3) X.x X.b dX11_init_495 (by decide) ?_
  obtain ⟨ha432, hf⟩ := wGd_s hf
  obtain ⟨b429, hf⟩ := wGi_s hf
  obtain ⟨g430, e431, hf⟩ := wLe_s hf
  refine rd_ast (t := 15) (N := 6) X h ha432 (fun _ => rfl) e431 b429 dX11_init_496 (fun H locs h => ?_)
  obtain ⟨ha433, hf⟩ := wGd_s hf
  obtain ⟨hb715, hf⟩ := wGd_s hf
  obtain ⟨g434, e435, hf⟩ := wLe_s hf
  refine rd_put (t := 0) (ci := 10) (j := 22) (C := RX11) (T := TX11) (N := 37) (x := nI (n370 + 1)) (val := .ref (k.1 + n370)) X h ha433 rfl rfl (by decide) iX11 tyX11_ok nmX11 rfl rfl rfl (Nat.le_of_ble_eq_true rfl) lk_X11_56 e435 (congrArg (fun z => (Sum.inr (10, rD k (g430 c0 0 0 0) :: .int (g430 c0 0 0 1) :: .int (g430 c0 0 0 2) :: .int (g430 c0 0 0 3) :: .int (g430 c0 0 0 4) :: rD k (g430 c0 0 0 5) :: rD k (g430 c0 0 0 6) :: rD k (g430 c0 0 0 7) :: .int (g430 c0 0 0 8) :: rD k (g430 c0 0 0 9) :: rD k (g430 c0 0 0 10) :: .int (g430 c0 0 0 11) :: .int (g430 c0 0 0 12) :: .int (g430 c0 0 0 13) :: rD k (g430 c0 0 0 14) :: rD k (g430 c0 0 0 15) :: rD k (g430 c0 0 0 16) :: rD k (g430 c0 0 0 17) :: rD k (g430 c0 0 0 18) :: rD k (g430 c0 0 0 19) :: rD k (g430 c0 0 0 20) :: rD k (g430 c0 0 0 21) :: z :: rD k (g430 c0 0 0 23) :: rD k (g430 c0 0 0 24) :: .int (g430 c0 0 0 25) :: .int (g430 c0 0 0 26) :: .int (g430 c0 0 0 27) :: .int (g430 c0 0 0 28) :: rD k (g430 c0 0 0 29) :: rD k (g430 c0 0 0 30) :: .int (g430 c0 0 0 31) :: .int (g430 c0 0 0 32) :: .int (g430 c0 0 0 33) :: rD k (g430 c0 0 0 34) :: rD k (g430 c0 0 0 35) :: rD k (g430 c0 0 0 36) :: []) : va_E)) (rD_set k hb715)) dX11_init_497 (fun H locs h => ?_)
  exact wX11_init_s500 X hc hz h (lv_sub hl [0] rfl) hf JR
def fX11_init_s136 (n0 : Nat) (n : Nat) (g : Mm) (c0 : Nat) : Option (Nat × Mm) :=
  wGd (kdR n = 10 ∧ slR (n + 1) = slR n + 4 ∧ n + 1 ≤ n0 + 22 ∧ slR (n + 1) ≤ slR n0 + 3217) (wLe (n + 1) fun n126 => wLe (nw g n) fun g127 => wGd (n < n126 ∧ n < 23 ∧ kdR n = 10) (wGi (0 : Int32) 4 (wLe (st g127 n 0 0 ((0 : Int32)).toNatClampNeg (-1 : Int32)) fun g133 => wGd (n < n126 ∧ n < 23 ∧ kdR n = 10) (wGi (1 : Int32) 4 (wLe (st g133 n 0 0 ((1 : Int32)).toNatClampNeg (-1 : Int32)) fun g137 => wGd (n < n126 ∧ n < 23 ∧ kdR n = 10) (wGi (2 : Int32) 4 (wLe (st g137 n 0 0 ((2 : Int32)).toNatClampNeg (-1 : Int32)) fun g141 => wGd (n < n126 ∧ n < 23 ∧ kdR n = 10) (wGi (3 : Int32) 4 (wLe (st g141 n 0 0 ((3 : Int32)).toNatClampNeg (-1 : Int32)) fun g145 => wGd (c0 < n126 ∧ c0 < 23 ∧ kdR c0 = 0) (wGd (n + 1 < 2 ^ 31) (wLe (st g145 c0 0 0 17 (nI (n + 1))) fun g149 => wGd (kdR n126 = 11 ∧ slR (n126 + 1) = slR n126 + 4 ∧ n126 + 1 ≤ n0 + 22 ∧ slR (n126 + 1) ≤ slR n0 + 3217) (wLe (n126 + 1) fun n151 => wLe (nw g149 n126) fun g152 => wGd (c0 < n151 ∧ c0 < 23 ∧ kdR c0 = 0) (wGd (n126 + 1 < 2 ^ 31) (wLe (st g152 c0 0 0 18 (nI (n126 + 1))) fun g158 => wGd (kdR n151 = 12 ∧ slR (n151 + 1) = slR n151 + 160 ∧ n151 + 1 ≤ n0 + 22 ∧ slR (n151 + 1) ≤ slR n0 + 3217) (wLe (n151 + 1) fun n160 => wLe (nw g158 n151) fun g161 => wGd (c0 < n160 ∧ c0 < 23 ∧ kdR c0 = 0) (wGd (n151 + 1 < 2 ^ 31) (wLe (st g161 c0 0 0 19 (nI (n151 + 1))) fun g167 => wGd (kdR n160 = 13 ∧ slR (n160 + 1) = slR n160 + 48 ∧ n160 + 1 ≤ n0 + 22 ∧ slR (n160 + 1) ≤ slR n0 + 3217) (wLe (n160 + 1) fun n169 => wLe (nw g167 n160) fun g170 => wGd (n160 < n169 ∧ n160 < 23 ∧ kdR n160 = 13) (wGi (0 : Int32) 48 (wLe (st g170 n160 0 0 ((0 : Int32)).toNatClampNeg (2 : Int32)) fun g176 => wGd (n160 < n169 ∧ n160 < 23 ∧ kdR n160 = 13) (wGi (1 : Int32) 48 (wLe (st g176 n160 0 0 ((1 : Int32)).toNatClampNeg (6 : Int32)) fun g180 => wGd (n160 < n169 ∧ n160 < 23 ∧ kdR n160 = 13) (wGi (2 : Int32) 48 (wLe (st g180 n160 0 0 ((2 : Int32)).toNatClampNeg (4 : Int32)) fun g184 => wGd (n160 < n169 ∧ n160 < 23 ∧ kdR n160 = 13) (wGi (3 : Int32) 48 (wLe (st g184 n160 0 0 ((3 : Int32)).toNatClampNeg (5 : Int32)) fun g188 => wGd (n160 < n169 ∧ n160 < 23 ∧ kdR n160 = 13) (wGi (4 : Int32) 48 (wLe (st g188 n160 0 0 ((4 : Int32)).toNatClampNeg (4 : Int32)) fun g192 => wGd (n160 < n169 ∧ n160 < 23 ∧ kdR n160 = 13) (wGi (5 : Int32) 48 (wLe (st g192 n160 0 0 ((5 : Int32)).toNatClampNeg (8 : Int32)) fun g196 => wGd (n160 < n169 ∧ n160 < 23 ∧ kdR n160 = 13) (wGi (6 : Int32) 48 (wLe (st g196 n160 0 0 ((6 : Int32)).toNatClampNeg (6 : Int32)) fun g200 => wGd (n160 < n169 ∧ n160 < 23 ∧ kdR n160 = 13) (wGi (7 : Int32) 48 (wLe (st g200 n160 0 0 ((7 : Int32)).toNatClampNeg (3 : Int32)) fun g204 => wGd (n160 < n169 ∧ n160 < 23 ∧ kdR n160 = 13) (wGi (8 : Int32) 48 (wLe (st g204 n160 0 0 ((8 : Int32)).toNatClampNeg (2 : Int32)) fun g208 => wGd (n160 < n169 ∧ n160 < 23 ∧ kdR n160 = 13) (wGi (9 : Int32) 48 (wLe (st g208 n160 0 0 ((9 : Int32)).toNatClampNeg (10 : Int32)) fun g212 => wGd (n160 < n169 ∧ n160 < 23 ∧ kdR n160 = 13) (wGi (10 : Int32) 48 (wLe (st g212 n160 0 0 ((10 : Int32)).toNatClampNeg (4 : Int32)) fun g216 => wGd (n160 < n169 ∧ n160 < 23 ∧ kdR n160 = 13) (wGi (11 : Int32) 48 (wLe (st g216 n160 0 0 ((11 : Int32)).toNatClampNeg (8 : Int32)) fun g220 => wGd (n160 < n169 ∧ n160 < 23 ∧ kdR n160 = 13) (wGi (12 : Int32) 48 (wLe (st g220 n160 0 0 ((12 : Int32)).toNatClampNeg (4 : Int32)) fun g224 => wGd (n160 < n169 ∧ n160 < 23 ∧ kdR n160 = 13) (wGi (13 : Int32) 48 (wLe (st g224 n160 0 0 ((13 : Int32)).toNatClampNeg (12 : Int32)) fun g228 => wGd (n160 < n169 ∧ n160 < 23 ∧ kdR n160 = 13) (wGi (14 : Int32) 48 (wLe (st g228 n160 0 0 ((14 : Int32)).toNatClampNeg (6 : Int32)) fun g232 => wGd (n160 < n169 ∧ n160 < 23 ∧ kdR n160 = 13) (wGi (15 : Int32) 48 (wLe (st g232 n160 0 0 ((15 : Int32)).toNatClampNeg (3 : Int32)) fun g236 => wGd (n160 < n169 ∧ n160 < 23 ∧ kdR n160 = 13) (wGi (16 : Int32) 48 (wLe (st g236 n160 0 0 ((16 : Int32)).toNatClampNeg (2 : Int32)) fun g240 => wGd (n160 < n169 ∧ n160 < 23 ∧ kdR n160 = 13) (wGi (17 : Int32) 48 (wLe (st g240 n160 0 0 ((17 : Int32)).toNatClampNeg (6 : Int32)) fun g244 => wGd (n160 < n169 ∧ n160 < 23 ∧ kdR n160 = 13) (wGi (18 : Int32) 48 (wLe (st g244 n160 0 0 ((18 : Int32)).toNatClampNeg (2 : Int32)) fun g248 => wGd (n160 < n169 ∧ n160 < 23 ∧ kdR n160 = 13) (wGi (19 : Int32) 48 (wLe (st g248 n160 0 0 ((19 : Int32)).toNatClampNeg (5 : Int32)) fun g252 => wGd (n160 < n169 ∧ n160 < 23 ∧ kdR n160 = 13) (wGi (20 : Int32) 48 (wLe (st g252 n160 0 0 ((20 : Int32)).toNatClampNeg (0 : Int32)) fun g256 => wGd (n160 < n169 ∧ n160 < 23 ∧ kdR n160 = 13) (wGi (21 : Int32) 48 (wLe (st g256 n160 0 0 ((21 : Int32)).toNatClampNeg (8 : Int32)) fun g260 => wGd (n160 < n169 ∧ n160 < 23 ∧ kdR n160 = 13) (wGi (22 : Int32) 48 (wLe (st g260 n160 0 0 ((22 : Int32)).toNatClampNeg (6 : Int32)) fun g264 => wGd (n160 < n169 ∧ n160 < 23 ∧ kdR n160 = 13) (wGi (23 : Int32) 48 (wLe (st g264 n160 0 0 ((23 : Int32)).toNatClampNeg (3 : Int32)) fun g268 => wGd (n160 < n169 ∧ n160 < 23 ∧ kdR n160 = 13) (wGi (24 : Int32) 48 (wLe (st g268 n160 0 0 ((24 : Int32)).toNatClampNeg (2 : Int32)) fun g272 => wGd (n160 < n169 ∧ n160 < 23 ∧ kdR n160 = 13) (wGi (25 : Int32) 48 (wLe (st g272 n160 0 0 ((25 : Int32)).toNatClampNeg (20 : Int32)) fun g276 => wGd (n160 < n169 ∧ n160 < 23 ∧ kdR n160 = 13) (wGi (26 : Int32) 48 (wLe (st g276 n160 0 0 ((26 : Int32)).toNatClampNeg (4 : Int32)) fun g280 => wGd (n160 < n169 ∧ n160 < 23 ∧ kdR n160 = 13) (wGi (27 : Int32) 48 (wLe (st g280 n160 0 0 ((27 : Int32)).toNatClampNeg (8 : Int32)) fun g284 => wGd (n160 < n169 ∧ n160 < 23 ∧ kdR n160 = 13) (wGi (28 : Int32) 48 (wLe (st g284 n160 0 0 ((28 : Int32)).toNatClampNeg (4 : Int32)) fun g288 => wGd (n160 < n169 ∧ n160 < 23 ∧ kdR n160 = 13) (wGi (29 : Int32) 48 (wLe (st g288 n160 0 0 ((29 : Int32)).toNatClampNeg (24 : Int32)) fun g292 => wGd (n160 < n169 ∧ n160 < 23 ∧ kdR n160 = 13) (wGi (30 : Int32) 48 (wLe (st g292 n160 0 0 ((30 : Int32)).toNatClampNeg (12 : Int32)) fun g296 => wGd (n160 < n169 ∧ n160 < 23 ∧ kdR n160 = 13) (wGi (31 : Int32) 48 (wLe (st g296 n160 0 0 ((31 : Int32)).toNatClampNeg (3 : Int32)) fun g300 => wGd (n160 < n169 ∧ n160 < 23 ∧ kdR n160 = 13) (wGi (32 : Int32) 48 (wLe (st g300 n160 0 0 ((32 : Int32)).toNatClampNeg (2 : Int32)) fun g304 => wGd (n160 < n169 ∧ n160 < 23 ∧ kdR n160 = 13) (wGi (33 : Int32) 48 (wLe (st g304 n160 0 0 ((33 : Int32)).toNatClampNeg (3 : Int32)) fun g308 => wGd (n160 < n169 ∧ n160 < 23 ∧ kdR n160 = 13) (wGi (34 : Int32) 48 (wLe (st g308 n160 0 0 ((34 : Int32)).toNatClampNeg (2 : Int32)) fun g312 => wGd (n160 < n169 ∧ n160 < 23 ∧ kdR n160 = 13) (wGi (35 : Int32) 48 (wLe (st g312 n160 0 0 ((35 : Int32)).toNatClampNeg (5 : Int32)) fun g316 => wGd (n160 < n169 ∧ n160 < 23 ∧ kdR n160 = 13) (wGi (36 : Int32) 48 (wLe (st g316 n160 0 0 ((36 : Int32)).toNatClampNeg (0 : Int32)) fun g320 => wGd (n160 < n169 ∧ n160 < 23 ∧ kdR n160 = 13) (wGi (37 : Int32) 48 (wLe (st g320 n160 0 0 ((37 : Int32)).toNatClampNeg (4 : Int32)) fun g324 => wGd (n160 < n169 ∧ n160 < 23 ∧ kdR n160 = 13) (wGi (38 : Int32) 48 (wLe (st g324 n160 0 0 ((38 : Int32)).toNatClampNeg (6 : Int32)) fun g328 => wGd (n160 < n169 ∧ n160 < 23 ∧ kdR n160 = 13) (wGi (39 : Int32) 48 (wLe (st g328 n160 0 0 ((39 : Int32)).toNatClampNeg (3 : Int32)) fun g332 => wGd (n160 < n169 ∧ n160 < 23 ∧ kdR n160 = 13) (wGi (40 : Int32) 48 (wLe (st g332 n160 0 0 ((40 : Int32)).toNatClampNeg (2 : Int32)) fun g336 => wGd (n160 < n169 ∧ n160 < 23 ∧ kdR n160 = 13) (wGi (41 : Int32) 48 (wLe (st g336 n160 0 0 ((41 : Int32)).toNatClampNeg (20 : Int32)) fun g340 => wGd (n160 < n169 ∧ n160 < 23 ∧ kdR n160 = 13) (wGi (42 : Int32) 48 (wLe (st g340 n160 0 0 ((42 : Int32)).toNatClampNeg (0 : Int32)) fun g344 => wGd (n160 < n169 ∧ n160 < 23 ∧ kdR n160 = 13) (wGi (43 : Int32) 48 (wLe (st g344 n160 0 0 ((43 : Int32)).toNatClampNeg (8 : Int32)) fun g348 => wGd (n160 < n169 ∧ n160 < 23 ∧ kdR n160 = 13) (wGi (44 : Int32) 48 (wLe (st g348 n160 0 0 ((44 : Int32)).toNatClampNeg (0 : Int32)) fun g352 => wGd (n160 < n169 ∧ n160 < 23 ∧ kdR n160 = 13) (wGi (45 : Int32) 48 (wLe (st g352 n160 0 0 ((45 : Int32)).toNatClampNeg (34 : Int32)) fun g356 => wGd (n160 < n169 ∧ n160 < 23 ∧ kdR n160 = 13) (wGi (46 : Int32) 48 (wLe (st g356 n160 0 0 ((46 : Int32)).toNatClampNeg (12 : Int32)) fun g360 => wGd (n160 < n169 ∧ n160 < 23 ∧ kdR n160 = 13) (wGi (47 : Int32) 48 (wLe (st g360 n160 0 0 ((47 : Int32)).toNatClampNeg (3 : Int32)) fun g364 => wGd (c0 < n169 ∧ c0 < 23 ∧ kdR c0 = 0) (wGd (n160 + 1 < 2 ^ 31) (wLe (st g364 c0 0 0 20 (nI (n160 + 1))) fun g368 => fX11_init_s436 n0 n169 g368 c0))))))))))))))))))))))))))))))))))))))))))))))))))))))))))))))))))))))))))))))))))))))))))))))))))))))))))))))))))))
set_option maxHeartbeats 4000000 in
set_option maxRecDepth 20000 in
theorem wX11_init_s136 {k : En} {n0 : Nat} {c0 : Nat} {res : Nat × Mm} (X : Cd k p s m args meth c cX11_init 2 RX11) {n : Nat} {g : Mm} {ce sl : Nat} {H : Heap} {locs : List Loc} {ls : Array Slot} (hc : ce + n0 = n) (hz : sl + slR n0 = slR n) (h : Hd DR k n s g H locs) (hl : lv_has ls 2 [(0, .ref (k.1 + c0))]) {r : Nat × Mm} (hf : fX11_init_s136 n0 n g c0 = some r) (JR : r = res) : W p l e (RmI 1 22 3217 30) s m args below meth c H locs ce sl (FinD DR k args s below 22 3217 res.1 res.2) (F0 m 136 ls []) := by
  unfold fX11_init_s136 at hf
  refine lv_aload_n X.x X.b dX11_init_136 rfl (lv_at hl 0 rfl) ?_
  refine lv_iconst (v := 4) X.x X.b dX11_init_137 (by decide) ?_
  obtain ⟨⟨hk130, ha131a, ha131b, ha131c⟩, hf⟩ := wGd_s hf
  obtain ⟨n126, e128, hf⟩ := wLe_s hf
  obtain ⟨g127, e129, hf⟩ := wLe_s hf
  have hc731 : (ce + 1) + n0 = n126 := by omega
  have hz732 : (sl + 4) + slR n0 = slR n126 := by rw [e128]; omega
  refine rd_newa (cells' := (ce + 1)) (slots' := (sl + 4)) (t := 10) (N := 4) X h hk130 (fun _ => rfl) (by decide) (by decide) (by decide) arr_int rfl rfl ⟨by show (ce + 1) ≤ 22; omega, by show (sl + 4) ≤ 3217; omega⟩ dX11_init_138 (fun H h => ?_)
  have hc := hc731
  have hz := hz732
  rw [← e128, ← e129] at h
  refine lv_dup X.x X.b dX11_init_140 rfl ?_
  refine lv_iconst (v := 0) X.x X.b dX11_init_141 (by decide) ?_
  refine lv_iconst (v := (-1)) X.x X.b dX11_init_142 (by decide) ?_
  obtain ⟨ha135, hf⟩ := wGd_s hf
  obtain ⟨b132, hf⟩ := wGi_s hf
  obtain ⟨g133, e134, hf⟩ := wLe_s hf
  refine rd_ast (t := 10) (N := 4) X h ha135 (fun _ => rfl) e134 b132 dX11_init_143 (fun H locs h => ?_)
  refine lv_dup X.x X.b dX11_init_144 rfl ?_
  refine lv_iconst (v := 1) X.x X.b dX11_init_145 (by decide) ?_
  refine lv_iconst (v := (-1)) X.x X.b dX11_init_146 (by decide) ?_
  obtain ⟨ha139, hf⟩ := wGd_s hf
  obtain ⟨b136, hf⟩ := wGi_s hf
  obtain ⟨g137, e138, hf⟩ := wLe_s hf
  refine rd_ast (t := 10) (N := 4) X h ha139 (fun _ => rfl) e138 b136 dX11_init_147 (fun H locs h => ?_)
  refine lv_dup X.x X.b dX11_init_148 rfl ?_
  refine lv_iconst (v := 2) X.x X.b dX11_init_149 (by decide) ?_
  refine lv_iconst (v := (-1)) X.x X.b dX11_init_150 (by decide) ?_
  obtain ⟨ha143, hf⟩ := wGd_s hf
  obtain ⟨b140, hf⟩ := wGi_s hf
  obtain ⟨g141, e142, hf⟩ := wLe_s hf
  refine rd_ast (t := 10) (N := 4) X h ha143 (fun _ => rfl) e142 b140 dX11_init_151 (fun H locs h => ?_)
  refine lv_dup X.x X.b dX11_init_152 rfl ?_
  refine lv_iconst (v := 3) X.x X.b dX11_init_153 (by decide) ?_
  refine lv_iconst (v := (-1)) X.x X.b dX11_init_154 (by decide) ?_
  obtain ⟨ha147, hf⟩ := wGd_s hf
  obtain ⟨b144, hf⟩ := wGi_s hf
  obtain ⟨g145, e146, hf⟩ := wLe_s hf
  refine rd_ast (t := 10) (N := 4) X h ha147 (fun _ => rfl) e146 b144 dX11_init_155 (fun H locs h => ?_)
  obtain ⟨ha148, hf⟩ := wGd_s hf
  obtain ⟨hb730, hf⟩ := wGd_s hf
  obtain ⟨g149, e150, hf⟩ := wLe_s hf
  refine rd_put (t := 0) (ci := 10) (j := 17) (C := RX11) (T := TX11) (N := 37) (x := nI (n + 1)) (val := .ref (k.1 + n)) X h ha148 rfl rfl (by decide) iX11 tyX11_ok nmX11 rfl rfl rfl (Nat.le_of_ble_eq_true rfl) lk_X11_41 e150 (congrArg (fun z => (Sum.inr (10, rD k (g145 c0 0 0 0) :: .int (g145 c0 0 0 1) :: .int (g145 c0 0 0 2) :: .int (g145 c0 0 0 3) :: .int (g145 c0 0 0 4) :: rD k (g145 c0 0 0 5) :: rD k (g145 c0 0 0 6) :: rD k (g145 c0 0 0 7) :: .int (g145 c0 0 0 8) :: rD k (g145 c0 0 0 9) :: rD k (g145 c0 0 0 10) :: .int (g145 c0 0 0 11) :: .int (g145 c0 0 0 12) :: .int (g145 c0 0 0 13) :: rD k (g145 c0 0 0 14) :: rD k (g145 c0 0 0 15) :: rD k (g145 c0 0 0 16) :: z :: rD k (g145 c0 0 0 18) :: rD k (g145 c0 0 0 19) :: rD k (g145 c0 0 0 20) :: rD k (g145 c0 0 0 21) :: rD k (g145 c0 0 0 22) :: rD k (g145 c0 0 0 23) :: rD k (g145 c0 0 0 24) :: .int (g145 c0 0 0 25) :: .int (g145 c0 0 0 26) :: .int (g145 c0 0 0 27) :: .int (g145 c0 0 0 28) :: rD k (g145 c0 0 0 29) :: rD k (g145 c0 0 0 30) :: .int (g145 c0 0 0 31) :: .int (g145 c0 0 0 32) :: .int (g145 c0 0 0 33) :: rD k (g145 c0 0 0 34) :: rD k (g145 c0 0 0 35) :: rD k (g145 c0 0 0 36) :: []) : va_E)) (rD_set k hb730)) dX11_init_156 (fun H locs h => ?_)
  refine lv_aload_n X.x X.b dX11_init_159 rfl (lv_at hl 0 rfl) ?_
  refine lv_iconst (v := 4) X.x X.b dX11_init_160 (by decide) ?_
  obtain ⟨⟨hk155, ha156a, ha156b, ha156c⟩, hf⟩ := wGd_s hf
  obtain ⟨n151, e153, hf⟩ := wLe_s hf
  obtain ⟨g152, e154, hf⟩ := wLe_s hf
  have hc728 : ((ce + 1) + 1) + n0 = n151 := by omega
  have hz729 : ((sl + 4) + 4) + slR n0 = slR n151 := by rw [e153]; omega
  refine rd_newa (cells' := ((ce + 1) + 1)) (slots' := ((sl + 4) + 4)) (t := 11) (N := 4) X h hk155 (fun _ => rfl) (by decide) (by decide) (by decide) arr_int rfl rfl ⟨by show ((ce + 1) + 1) ≤ 22; omega, by show ((sl + 4) + 4) ≤ 3217; omega⟩ dX11_init_161 (fun H h => ?_)
  have hc := hc728
  have hz := hz729
  rw [← e153, ← e154] at h
  obtain ⟨ha157, hf⟩ := wGd_s hf
  obtain ⟨hb727, hf⟩ := wGd_s hf
  obtain ⟨g158, e159, hf⟩ := wLe_s hf
  refine rd_put (t := 0) (ci := 10) (j := 18) (C := RX11) (T := TX11) (N := 37) (x := nI (n126 + 1)) (val := .ref (k.1 + n126)) X h ha157 rfl rfl (by decide) iX11 tyX11_ok nmX11 rfl rfl rfl (Nat.le_of_ble_eq_true rfl) lk_X11_44 e159 (congrArg (fun z => (Sum.inr (10, rD k (g152 c0 0 0 0) :: .int (g152 c0 0 0 1) :: .int (g152 c0 0 0 2) :: .int (g152 c0 0 0 3) :: .int (g152 c0 0 0 4) :: rD k (g152 c0 0 0 5) :: rD k (g152 c0 0 0 6) :: rD k (g152 c0 0 0 7) :: .int (g152 c0 0 0 8) :: rD k (g152 c0 0 0 9) :: rD k (g152 c0 0 0 10) :: .int (g152 c0 0 0 11) :: .int (g152 c0 0 0 12) :: .int (g152 c0 0 0 13) :: rD k (g152 c0 0 0 14) :: rD k (g152 c0 0 0 15) :: rD k (g152 c0 0 0 16) :: rD k (g152 c0 0 0 17) :: z :: rD k (g152 c0 0 0 19) :: rD k (g152 c0 0 0 20) :: rD k (g152 c0 0 0 21) :: rD k (g152 c0 0 0 22) :: rD k (g152 c0 0 0 23) :: rD k (g152 c0 0 0 24) :: .int (g152 c0 0 0 25) :: .int (g152 c0 0 0 26) :: .int (g152 c0 0 0 27) :: .int (g152 c0 0 0 28) :: rD k (g152 c0 0 0 29) :: rD k (g152 c0 0 0 30) :: .int (g152 c0 0 0 31) :: .int (g152 c0 0 0 32) :: .int (g152 c0 0 0 33) :: rD k (g152 c0 0 0 34) :: rD k (g152 c0 0 0 35) :: rD k (g152 c0 0 0 36) :: []) : va_E)) (rD_set k hb727)) dX11_init_163 (fun H locs h => ?_)
  refine lv_aload_n X.x X.b dX11_init_166 rfl (lv_at hl 0 rfl) ?_
  refine lv_sipush (v := 160) X.x X.b dX11_init_167 (by decide) ?_
  obtain ⟨⟨hk164, ha165a, ha165b, ha165c⟩, hf⟩ := wGd_s hf
  obtain ⟨n160, e162, hf⟩ := wLe_s hf
  obtain ⟨g161, e163, hf⟩ := wLe_s hf
  have hc725 : (((ce + 1) + 1) + 1) + n0 = n160 := by omega
  have hz726 : (((sl + 4) + 4) + 160) + slR n0 = slR n160 := by rw [e162]; omega
  refine rd_newa (cells' := (((ce + 1) + 1) + 1)) (slots' := (((sl + 4) + 4) + 160)) (t := 12) (N := 160) X h hk164 (fun _ => rfl) (by decide) (by decide) (by decide) arr_int rfl rfl ⟨by show (((ce + 1) + 1) + 1) ≤ 22; omega, by show (((sl + 4) + 4) + 160) ≤ 3217; omega⟩ dX11_init_170 (fun H h => ?_)
  have hc := hc725
  have hz := hz726
  rw [← e162, ← e163] at h
  obtain ⟨ha166, hf⟩ := wGd_s hf
  obtain ⟨hb724, hf⟩ := wGd_s hf
  obtain ⟨g167, e168, hf⟩ := wLe_s hf
  refine rd_put (t := 0) (ci := 10) (j := 19) (C := RX11) (T := TX11) (N := 37) (x := nI (n151 + 1)) (val := .ref (k.1 + n151)) X h ha166 rfl rfl (by decide) iX11 tyX11_ok nmX11 rfl rfl rfl (Nat.le_of_ble_eq_true rfl) lk_X11_47 e168 (congrArg (fun z => (Sum.inr (10, rD k (g161 c0 0 0 0) :: .int (g161 c0 0 0 1) :: .int (g161 c0 0 0 2) :: .int (g161 c0 0 0 3) :: .int (g161 c0 0 0 4) :: rD k (g161 c0 0 0 5) :: rD k (g161 c0 0 0 6) :: rD k (g161 c0 0 0 7) :: .int (g161 c0 0 0 8) :: rD k (g161 c0 0 0 9) :: rD k (g161 c0 0 0 10) :: .int (g161 c0 0 0 11) :: .int (g161 c0 0 0 12) :: .int (g161 c0 0 0 13) :: rD k (g161 c0 0 0 14) :: rD k (g161 c0 0 0 15) :: rD k (g161 c0 0 0 16) :: rD k (g161 c0 0 0 17) :: rD k (g161 c0 0 0 18) :: z :: rD k (g161 c0 0 0 20) :: rD k (g161 c0 0 0 21) :: rD k (g161 c0 0 0 22) :: rD k (g161 c0 0 0 23) :: rD k (g161 c0 0 0 24) :: .int (g161 c0 0 0 25) :: .int (g161 c0 0 0 26) :: .int (g161 c0 0 0 27) :: .int (g161 c0 0 0 28) :: rD k (g161 c0 0 0 29) :: rD k (g161 c0 0 0 30) :: .int (g161 c0 0 0 31) :: .int (g161 c0 0 0 32) :: .int (g161 c0 0 0 33) :: rD k (g161 c0 0 0 34) :: rD k (g161 c0 0 0 35) :: rD k (g161 c0 0 0 36) :: []) : va_E)) (rD_set k hb724)) dX11_init_172 (fun H locs h => ?_)
  refine lv_aload_n X.x X.b dX11_init_175 rfl (lv_at hl 0 rfl) ?_
  refine lv_bipush (v := 48) X.x X.b dX11_init_176 (by decide) ?_
  obtain ⟨⟨hk173, ha174a, ha174b, ha174c⟩, hf⟩ := wGd_s hf
  obtain ⟨n169, e171, hf⟩ := wLe_s hf
  obtain ⟨g170, e172, hf⟩ := wLe_s hf
  have hc722 : ((((ce + 1) + 1) + 1) + 1) + n0 = n169 := by omega
  have hz723 : ((((sl + 4) + 4) + 160) + 48) + slR n0 = slR n169 := by rw [e171]; omega
  refine rd_newa (cells' := ((((ce + 1) + 1) + 1) + 1)) (slots' := ((((sl + 4) + 4) + 160) + 48)) (t := 13) (N := 48) X h hk173 (fun _ => rfl) (by decide) (by decide) (by decide) arr_int rfl rfl ⟨by show ((((ce + 1) + 1) + 1) + 1) ≤ 22; omega, by show ((((sl + 4) + 4) + 160) + 48) ≤ 3217; omega⟩ dX11_init_178 (fun H h => ?_)
  have hc := hc722
  have hz := hz723
  rw [← e171, ← e172] at h
  refine lv_dup X.x X.b dX11_init_180 rfl ?_
  refine lv_iconst (v := 0) X.x X.b dX11_init_181 (by decide) ?_
  refine lv_iconst (v := 2) X.x X.b dX11_init_182 (by decide) ?_
  obtain ⟨ha178, hf⟩ := wGd_s hf
  obtain ⟨b175, hf⟩ := wGi_s hf
  obtain ⟨g176, e177, hf⟩ := wLe_s hf
  refine rd_ast (t := 13) (N := 48) X h ha178 (fun _ => rfl) e177 b175 dX11_init_183 (fun H locs h => ?_)
  refine lv_dup X.x X.b dX11_init_184 rfl ?_
  refine lv_iconst (v := 1) X.x X.b dX11_init_185 (by decide) ?_
  refine lv_bipush (v := 6) X.x X.b dX11_init_186 (by decide) ?_
  obtain ⟨ha182, hf⟩ := wGd_s hf
  obtain ⟨b179, hf⟩ := wGi_s hf
  obtain ⟨g180, e181, hf⟩ := wLe_s hf
  refine rd_ast (t := 13) (N := 48) X h ha182 (fun _ => rfl) e181 b179 dX11_init_188 (fun H locs h => ?_)
  refine lv_dup X.x X.b dX11_init_189 rfl ?_
  refine lv_iconst (v := 2) X.x X.b dX11_init_190 (by decide) ?_
  refine lv_iconst (v := 4) X.x X.b dX11_init_191 (by decide) ?_
  obtain ⟨ha186, hf⟩ := wGd_s hf
  obtain ⟨b183, hf⟩ := wGi_s hf
  obtain ⟨g184, e185, hf⟩ := wLe_s hf
  refine rd_ast (t := 13) (N := 48) X h ha186 (fun _ => rfl) e185 b183 dX11_init_192 (fun H locs h => ?_)
  refine lv_dup X.x X.b dX11_init_193 rfl ?_
  refine lv_iconst (v := 3) X.x X.b dX11_init_194 (by decide) ?_
  refine lv_iconst (v := 5) X.x X.b dX11_init_195 (by decide) ?_
  obtain ⟨ha190, hf⟩ := wGd_s hf
  obtain ⟨b187, hf⟩ := wGi_s hf
  obtain ⟨g188, e189, hf⟩ := wLe_s hf
  refine rd_ast (t := 13) (N := 48) X h ha190 (fun _ => rfl) e189 b187 dX11_init_196 (fun H locs h => ?_)
  refine lv_dup X.x X.b dX11_init_197 rfl ?_
  refine lv_iconst (v := 4) X.x X.b dX11_init_198 (by decide) ?_
  refine lv_iconst (v := 4) X.x X.b dX11_init_199 (by decide) ?_
  obtain ⟨ha194, hf⟩ := wGd_s hf
  obtain ⟨b191, hf⟩ := wGi_s hf
  obtain ⟨g192, e193, hf⟩ := wLe_s hf
  refine rd_ast (t := 13) (N := 48) X h ha194 (fun _ => rfl) e193 b191 dX11_init_200 (fun H locs h => ?_)
  refine lv_dup X.x X.b dX11_init_201 rfl ?_
  refine lv_iconst (v := 5) X.x X.b dX11_init_202 (by decide) ?_
  refine lv_bipush (v := 8) X.x X.b dX11_init_203 (by decide) ?_
  obtain ⟨ha198, hf⟩ := wGd_s hf
  obtain ⟨b195, hf⟩ := wGi_s hf
  obtain ⟨g196, e197, hf⟩ := wLe_s hf
  refine rd_ast (t := 13) (N := 48) X h ha198 (fun _ => rfl) e197 b195 dX11_init_205 (fun H locs h => ?_)
  refine lv_dup X.x X.b dX11_init_206 rfl ?_
  refine lv_bipush (v := 6) X.x X.b dX11_init_207 (by decide) ?_
  refine lv_bipush (v := 6) X.x X.b dX11_init_209 (by decide) ?_
  obtain ⟨ha202, hf⟩ := wGd_s hf
  obtain ⟨b199, hf⟩ := wGi_s hf
  obtain ⟨g200, e201, hf⟩ := wLe_s hf
  refine rd_ast (t := 13) (N := 48) X h ha202 (fun _ => rfl) e201 b199 dX11_init_211 (fun H locs h => ?_)
  refine lv_dup X.x X.b dX11_init_212 rfl ?_
  refine lv_bipush (v := 7) X.x X.b dX11_init_213 (by decide) ?_
  refine lv_iconst (v := 3) X.x X.b dX11_init_215 (by decide) ?_
  obtain ⟨ha206, hf⟩ := wGd_s hf
  obtain ⟨b203, hf⟩ := wGi_s hf
  obtain ⟨g204, e205, hf⟩ := wLe_s hf
  refine rd_ast (t := 13) (N := 48) X h ha206 (fun _ => rfl) e205 b203 dX11_init_216 (fun H locs h => ?_)
  refine lv_dup X.x X.b dX11_init_217 rfl ?_
  refine lv_bipush (v := 8) X.x X.b dX11_init_218 (by decide) ?_
  refine lv_iconst (v := 2) X.x X.b dX11_init_220 (by decide) ?_
  obtain ⟨ha210, hf⟩ := wGd_s hf
  obtain ⟨b207, hf⟩ := wGi_s hf
  obtain ⟨g208, e209, hf⟩ := wLe_s hf
  refine rd_ast (t := 13) (N := 48) X h ha210 (fun _ => rfl) e209 b207 dX11_init_221 (fun H locs h => ?_)
  refine lv_dup X.x X.b dX11_init_222 rfl ?_
  refine lv_bipush (v := 9) X.x X.b dX11_init_223 (by decide) ?_
  refine lv_bipush (v := 10) X.x X.b dX11_init_225 (by decide) ?_
  obtain ⟨ha214, hf⟩ := wGd_s hf
  obtain ⟨b211, hf⟩ := wGi_s hf
  obtain ⟨g212, e213, hf⟩ := wLe_s hf
  refine rd_ast (t := 13) (N := 48) X h ha214 (fun _ => rfl) e213 b211 dX11_init_227 (fun H locs h => ?_)
  refine lv_dup X.x X.b dX11_init_228 rfl ?_
  refine lv_bipush (v := 10) X.x X.b dX11_init_229 (by decide) ?_
  refine lv_iconst (v := 4) X.x X.b dX11_init_231 (by decide) ?_
  obtain ⟨ha218, hf⟩ := wGd_s hf
  obtain ⟨b215, hf⟩ := wGi_s hf
  obtain ⟨g216, e217, hf⟩ := wLe_s hf
  refine rd_ast (t := 13) (N := 48) X h ha218 (fun _ => rfl) e217 b215 dX11_init_232 (fun H locs h => ?_)
  refine lv_dup X.x X.b dX11_init_233 rfl ?_
  refine lv_bipush (v := 11) X.x X.b dX11_init_234 (by decide) ?_
  refine lv_bipush (v := 8) X.x X.b dX11_init_236 (by decide) ?_
  obtain ⟨ha222, hf⟩ := wGd_s hf
  obtain ⟨b219, hf⟩ := wGi_s hf
  obtain ⟨g220, e221, hf⟩ := wLe_s hf
  refine rd_ast (t := 13) (N := 48) X h ha222 (fun _ => rfl) e221 b219 dX11_init_238 (fun H locs h => ?_)
  refine lv_dup X.x X.b dX11_init_239 rfl ?_
  refine lv_bipush (v := 12) X.x X.b dX11_init_240 (by decide) ?_
  refine lv_iconst (v := 4) X.x X.b dX11_init_242 (by decide) ?_
  obtain ⟨ha226, hf⟩ := wGd_s hf
  obtain ⟨b223, hf⟩ := wGi_s hf
  obtain ⟨g224, e225, hf⟩ := wLe_s hf
  refine rd_ast (t := 13) (N := 48) X h ha226 (fun _ => rfl) e225 b223 dX11_init_243 (fun H locs h => ?_)
  refine lv_dup X.x X.b dX11_init_244 rfl ?_
  refine lv_bipush (v := 13) X.x X.b dX11_init_245 (by decide) ?_
  refine lv_bipush (v := 12) X.x X.b dX11_init_247 (by decide) ?_
  obtain ⟨ha230, hf⟩ := wGd_s hf
  obtain ⟨b227, hf⟩ := wGi_s hf
  obtain ⟨g228, e229, hf⟩ := wLe_s hf
  refine rd_ast (t := 13) (N := 48) X h ha230 (fun _ => rfl) e229 b227 dX11_init_249 (fun H locs h => ?_)
  refine lv_dup X.x X.b dX11_init_250 rfl ?_
  refine lv_bipush (v := 14) X.x X.b dX11_init_251 (by decide) ?_
  refine lv_bipush (v := 6) X.x X.b dX11_init_253 (by decide) ?_
  obtain ⟨ha234, hf⟩ := wGd_s hf
  obtain ⟨b231, hf⟩ := wGi_s hf
  obtain ⟨g232, e233, hf⟩ := wLe_s hf
  refine rd_ast (t := 13) (N := 48) X h ha234 (fun _ => rfl) e233 b231 dX11_init_255 (fun H locs h => ?_)
  refine lv_dup X.x X.b dX11_init_256 rfl ?_
  refine lv_bipush (v := 15) X.x X.b dX11_init_257 (by decide) ?_
  refine lv_iconst (v := 3) X.x X.b dX11_init_259 (by decide) ?_
  obtain ⟨ha238, hf⟩ := wGd_s hf
  obtain ⟨b235, hf⟩ := wGi_s hf
  obtain ⟨g236, e237, hf⟩ := wLe_s hf
  refine rd_ast (t := 13) (N := 48) X h ha238 (fun _ => rfl) e237 b235 dX11_init_260 (fun H locs h => ?_)
  refine lv_dup X.x X.b dX11_init_261 rfl ?_
  refine lv_bipush (v := 16) X.x X.b dX11_init_262 (by decide) ?_
  refine lv_iconst (v := 2) X.x X.b dX11_init_264 (by decide) ?_
  obtain ⟨ha242, hf⟩ := wGd_s hf
  obtain ⟨b239, hf⟩ := wGi_s hf
  obtain ⟨g240, e241, hf⟩ := wLe_s hf
  refine rd_ast (t := 13) (N := 48) X h ha242 (fun _ => rfl) e241 b239 dX11_init_265 (fun H locs h => ?_)
  refine lv_dup X.x X.b dX11_init_266 rfl ?_
  refine lv_bipush (v := 17) X.x X.b dX11_init_267 (by decide) ?_
  refine lv_bipush (v := 6) X.x X.b dX11_init_269 (by decide) ?_
  obtain ⟨ha246, hf⟩ := wGd_s hf
  obtain ⟨b243, hf⟩ := wGi_s hf
  obtain ⟨g244, e245, hf⟩ := wLe_s hf
  refine rd_ast (t := 13) (N := 48) X h ha246 (fun _ => rfl) e245 b243 dX11_init_271 (fun H locs h => ?_)
  refine lv_dup X.x X.b dX11_init_272 rfl ?_
  refine lv_bipush (v := 18) X.x X.b dX11_init_273 (by decide) ?_
  refine lv_iconst (v := 2) X.x X.b dX11_init_275 (by decide) ?_
  obtain ⟨ha250, hf⟩ := wGd_s hf
  obtain ⟨b247, hf⟩ := wGi_s hf
  obtain ⟨g248, e249, hf⟩ := wLe_s hf
  refine rd_ast (t := 13) (N := 48) X h ha250 (fun _ => rfl) e249 b247 dX11_init_276 (fun H locs h => ?_)
  refine lv_dup X.x X.b dX11_init_277 rfl ?_
  refine lv_bipush (v := 19) X.x X.b dX11_init_278 (by decide) ?_
  refine lv_iconst (v := 5) X.x X.b dX11_init_280 (by decide) ?_
  obtain ⟨ha254, hf⟩ := wGd_s hf
  obtain ⟨b251, hf⟩ := wGi_s hf
  obtain ⟨g252, e253, hf⟩ := wLe_s hf
  refine rd_ast (t := 13) (N := 48) X h ha254 (fun _ => rfl) e253 b251 dX11_init_281 (fun H locs h => ?_)
  refine lv_dup X.x X.b dX11_init_282 rfl ?_
  refine lv_bipush (v := 20) X.x X.b dX11_init_283 (by decide) ?_
  refine lv_iconst (v := 0) X.x X.b dX11_init_285 (by decide) ?_
  obtain ⟨ha258, hf⟩ := wGd_s hf
  obtain ⟨b255, hf⟩ := wGi_s hf
  obtain ⟨g256, e257, hf⟩ := wLe_s hf
  refine rd_ast (t := 13) (N := 48) X h ha258 (fun _ => rfl) e257 b255 dX11_init_286 (fun H locs h => ?_)
  refine lv_dup X.x X.b dX11_init_287 rfl ?_
  refine lv_bipush (v := 21) X.x X.b dX11_init_288 (by decide) ?_
  refine lv_bipush (v := 8) X.x X.b dX11_init_290 (by decide) ?_
  obtain ⟨ha262, hf⟩ := wGd_s hf
  obtain ⟨b259, hf⟩ := wGi_s hf
  obtain ⟨g260, e261, hf⟩ := wLe_s hf
  refine rd_ast (t := 13) (N := 48) X h ha262 (fun _ => rfl) e261 b259 dX11_init_292 (fun H locs h => ?_)
  refine lv_dup X.x X.b dX11_init_293 rfl ?_
  refine lv_bipush (v := 22) X.x X.b dX11_init_294 (by decide) ?_
  refine lv_bipush (v := 6) X.x X.b dX11_init_296 (by decide) ?_
  obtain ⟨ha266, hf⟩ := wGd_s hf
  obtain ⟨b263, hf⟩ := wGi_s hf
  obtain ⟨g264, e265, hf⟩ := wLe_s hf
  refine rd_ast (t := 13) (N := 48) X h ha266 (fun _ => rfl) e265 b263 dX11_init_298 (fun H locs h => ?_)
  refine lv_dup X.x X.b dX11_init_299 rfl ?_
  refine lv_bipush (v := 23) X.x X.b dX11_init_300 (by decide) ?_
  refine lv_iconst (v := 3) X.x X.b dX11_init_302 (by decide) ?_
  obtain ⟨ha270, hf⟩ := wGd_s hf
  obtain ⟨b267, hf⟩ := wGi_s hf
  obtain ⟨g268, e269, hf⟩ := wLe_s hf
  refine rd_ast (t := 13) (N := 48) X h ha270 (fun _ => rfl) e269 b267 dX11_init_303 (fun H locs h => ?_)
  refine lv_dup X.x X.b dX11_init_304 rfl ?_
  refine lv_bipush (v := 24) X.x X.b dX11_init_305 (by decide) ?_
  refine lv_iconst (v := 2) X.x X.b dX11_init_307 (by decide) ?_
  obtain ⟨ha274, hf⟩ := wGd_s hf
  obtain ⟨b271, hf⟩ := wGi_s hf
  obtain ⟨g272, e273, hf⟩ := wLe_s hf
  refine rd_ast (t := 13) (N := 48) X h ha274 (fun _ => rfl) e273 b271 dX11_init_308 (fun H locs h => ?_)
  refine lv_dup X.x X.b dX11_init_309 rfl ?_
  refine lv_bipush (v := 25) X.x X.b dX11_init_310 (by decide) ?_
  refine lv_bipush (v := 20) X.x X.b dX11_init_312 (by decide) ?_
  obtain ⟨ha278, hf⟩ := wGd_s hf
  obtain ⟨b275, hf⟩ := wGi_s hf
  obtain ⟨g276, e277, hf⟩ := wLe_s hf
  refine rd_ast (t := 13) (N := 48) X h ha278 (fun _ => rfl) e277 b275 dX11_init_314 (fun H locs h => ?_)
  refine lv_dup X.x X.b dX11_init_315 rfl ?_
  refine lv_bipush (v := 26) X.x X.b dX11_init_316 (by decide) ?_
  refine lv_iconst (v := 4) X.x X.b dX11_init_318 (by decide) ?_
  obtain ⟨ha282, hf⟩ := wGd_s hf
  obtain ⟨b279, hf⟩ := wGi_s hf
  obtain ⟨g280, e281, hf⟩ := wLe_s hf
  refine rd_ast (t := 13) (N := 48) X h ha282 (fun _ => rfl) e281 b279 dX11_init_319 (fun H locs h => ?_)
  refine lv_dup X.x X.b dX11_init_320 rfl ?_
  refine lv_bipush (v := 27) X.x X.b dX11_init_321 (by decide) ?_
  refine lv_bipush (v := 8) X.x X.b dX11_init_323 (by decide) ?_
  obtain ⟨ha286, hf⟩ := wGd_s hf
  obtain ⟨b283, hf⟩ := wGi_s hf
  obtain ⟨g284, e285, hf⟩ := wLe_s hf
  refine rd_ast (t := 13) (N := 48) X h ha286 (fun _ => rfl) e285 b283 dX11_init_325 (fun H locs h => ?_)
  refine lv_dup X.x X.b dX11_init_326 rfl ?_
  refine lv_bipush (v := 28) X.x X.b dX11_init_327 (by decide) ?_
  refine lv_iconst (v := 4) X.x X.b dX11_init_329 (by decide) ?_
  obtain ⟨ha290, hf⟩ := wGd_s hf
  obtain ⟨b287, hf⟩ := wGi_s hf
  obtain ⟨g288, e289, hf⟩ := wLe_s hf
  refine rd_ast (t := 13) (N := 48) X h ha290 (fun _ => rfl) e289 b287 dX11_init_330 (fun H locs h => ?_)
  refine lv_dup X.x X.b dX11_init_331 rfl ?_
  refine lv_bipush (v := 29) X.x X.b dX11_init_332 (by decide) ?_
  refine lv_bipush (v := 24) X.x X.b dX11_init_334 (by decide) ?_
  obtain ⟨ha294, hf⟩ := wGd_s hf
  obtain ⟨b291, hf⟩ := wGi_s hf
  obtain ⟨g292, e293, hf⟩ := wLe_s hf
  refine rd_ast (t := 13) (N := 48) X h ha294 (fun _ => rfl) e293 b291 dX11_init_336 (fun H locs h => ?_)
  refine lv_dup X.x X.b dX11_init_337 rfl ?_
  refine lv_bipush (v := 30) X.x X.b dX11_init_338 (by decide) ?_
  refine lv_bipush (v := 12) X.x X.b dX11_init_340 (by decide) ?_
  obtain ⟨ha298, hf⟩ := wGd_s hf
  obtain ⟨b295, hf⟩ := wGi_s hf
  obtain ⟨g296, e297, hf⟩ := wLe_s hf
  refine rd_ast (t := 13) (N := 48) X h ha298 (fun _ => rfl) e297 b295 dX11_init_342 (fun H locs h => ?_)
  refine lv_dup X.x X.b dX11_init_343 rfl ?_
  refine lv_bipush (v := 31) X.x X.b dX11_init_344 (by decide) ?_
  refine lv_iconst (v := 3) X.x X.b dX11_init_346 (by decide) ?_
  obtain ⟨ha302, hf⟩ := wGd_s hf
  obtain ⟨b299, hf⟩ := wGi_s hf
  obtain ⟨g300, e301, hf⟩ := wLe_s hf
  refine rd_ast (t := 13) (N := 48) X h ha302 (fun _ => rfl) e301 b299 dX11_init_347 (fun H locs h => ?_)
  refine lv_dup X.x X.b dX11_init_348 rfl ?_
  refine lv_bipush (v := 32) X.x X.b dX11_init_349 (by decide) ?_
  refine lv_iconst (v := 2) X.x X.b dX11_init_351 (by decide) ?_
  obtain ⟨ha306, hf⟩ := wGd_s hf
  obtain ⟨b303, hf⟩ := wGi_s hf
  obtain ⟨g304, e305, hf⟩ := wLe_s hf
  refine rd_ast (t := 13) (N := 48) X h ha306 (fun _ => rfl) e305 b303 dX11_init_352 (fun H locs h => ?_)
  refine lv_dup X.x X.b dX11_init_353 rfl ?_
  refine lv_bipush (v := 33) X.x X.b dX11_init_354 (by decide) ?_
  refine lv_iconst (v := 3) X.x X.b dX11_init_356 (by decide) ?_
  obtain ⟨ha310, hf⟩ := wGd_s hf
  obtain ⟨b307, hf⟩ := wGi_s hf
  obtain ⟨g308, e309, hf⟩ := wLe_s hf
  refine rd_ast (t := 13) (N := 48) X h ha310 (fun _ => rfl) e309 b307 dX11_init_357 (fun H locs h => ?_)
  refine lv_dup X.x X.b dX11_init_358 rfl ?_
  refine lv_bipush (v := 34) X.x X.b dX11_init_359 (by decide) ?_
  refine lv_iconst (v := 2) X.x X.b dX11_init_361 (by decide) ?_
  obtain ⟨ha314, hf⟩ := wGd_s hf
  obtain ⟨b311, hf⟩ := wGi_s hf
  obtain ⟨g312, e313, hf⟩ := wLe_s hf
  refine rd_ast (t := 13) (N := 48) X h ha314 (fun _ => rfl) e313 b311 dX11_init_362 (fun H locs h => ?_)
  refine lv_dup X.x X.b dX11_init_363 rfl ?_
  refine lv_bipush (v := 35) X.x X.b dX11_init_364 (by decide) ?_
  refine lv_iconst (v := 5) X.x X.b dX11_init_366 (by decide) ?_
  obtain ⟨ha318, hf⟩ := wGd_s hf
  obtain ⟨b315, hf⟩ := wGi_s hf
  obtain ⟨g316, e317, hf⟩ := wLe_s hf
  refine rd_ast (t := 13) (N := 48) X h ha318 (fun _ => rfl) e317 b315 dX11_init_367 (fun H locs h => ?_)
  refine lv_dup X.x X.b dX11_init_368 rfl ?_
  refine lv_bipush (v := 36) X.x X.b dX11_init_369 (by decide) ?_
  refine lv_iconst (v := 0) X.x X.b dX11_init_371 (by decide) ?_
  obtain ⟨ha322, hf⟩ := wGd_s hf
  obtain ⟨b319, hf⟩ := wGi_s hf
  obtain ⟨g320, e321, hf⟩ := wLe_s hf
  refine rd_ast (t := 13) (N := 48) X h ha322 (fun _ => rfl) e321 b319 dX11_init_372 (fun H locs h => ?_)
  refine lv_dup X.x X.b dX11_init_373 rfl ?_
  refine lv_bipush (v := 37) X.x X.b dX11_init_374 (by decide) ?_
  refine lv_iconst (v := 4) X.x X.b dX11_init_376 (by decide) ?_
  obtain ⟨ha326, hf⟩ := wGd_s hf
  obtain ⟨b323, hf⟩ := wGi_s hf
  obtain ⟨g324, e325, hf⟩ := wLe_s hf
  refine rd_ast (t := 13) (N := 48) X h ha326 (fun _ => rfl) e325 b323 dX11_init_377 (fun H locs h => ?_)
  refine lv_dup X.x X.b dX11_init_378 rfl ?_
  refine lv_bipush (v := 38) X.x X.b dX11_init_379 (by decide) ?_
  refine lv_bipush (v := 6) X.x X.b dX11_init_381 (by decide) ?_
  obtain ⟨ha330, hf⟩ := wGd_s hf
  obtain ⟨b327, hf⟩ := wGi_s hf
  obtain ⟨g328, e329, hf⟩ := wLe_s hf
  refine rd_ast (t := 13) (N := 48) X h ha330 (fun _ => rfl) e329 b327 dX11_init_383 (fun H locs h => ?_)
  refine lv_dup X.x X.b dX11_init_384 rfl ?_
  refine lv_bipush (v := 39) X.x X.b dX11_init_385 (by decide) ?_
  refine lv_iconst (v := 3) X.x X.b dX11_init_387 (by decide) ?_
  obtain ⟨ha334, hf⟩ := wGd_s hf
  obtain ⟨b331, hf⟩ := wGi_s hf
  obtain ⟨g332, e333, hf⟩ := wLe_s hf
  refine rd_ast (t := 13) (N := 48) X h ha334 (fun _ => rfl) e333 b331 dX11_init_388 (fun H locs h => ?_)
  refine lv_dup X.x X.b dX11_init_389 rfl ?_
  refine lv_bipush (v := 40) X.x X.b dX11_init_390 (by decide) ?_
  refine lv_iconst (v := 2) X.x X.b dX11_init_392 (by decide) ?_
  obtain ⟨ha338, hf⟩ := wGd_s hf
  obtain ⟨b335, hf⟩ := wGi_s hf
  obtain ⟨g336, e337, hf⟩ := wLe_s hf
  refine rd_ast (t := 13) (N := 48) X h ha338 (fun _ => rfl) e337 b335 dX11_init_393 (fun H locs h => ?_)
  refine lv_dup X.x X.b dX11_init_394 rfl ?_
  refine lv_bipush (v := 41) X.x X.b dX11_init_395 (by decide) ?_
  refine lv_bipush (v := 20) X.x X.b dX11_init_397 (by decide) ?_
  obtain ⟨ha342, hf⟩ := wGd_s hf
  obtain ⟨b339, hf⟩ := wGi_s hf
  obtain ⟨g340, e341, hf⟩ := wLe_s hf
  refine rd_ast (t := 13) (N := 48) X h ha342 (fun _ => rfl) e341 b339 dX11_init_399 (fun H locs h => ?_)
  refine lv_dup X.x X.b dX11_init_400 rfl ?_
  refine lv_bipush (v := 42) X.x X.b dX11_init_401 (by decide) ?_
  refine lv_iconst (v := 0) X.x X.b dX11_init_403 (by decide) ?_
  obtain ⟨ha346, hf⟩ := wGd_s hf
  obtain ⟨b343, hf⟩ := wGi_s hf
  obtain ⟨g344, e345, hf⟩ := wLe_s hf
  refine rd_ast (t := 13) (N := 48) X h ha346 (fun _ => rfl) e345 b343 dX11_init_404 (fun H locs h => ?_)
  refine lv_dup X.x X.b dX11_init_405 rfl ?_
  refine lv_bipush (v := 43) X.x X.b dX11_init_406 (by decide) ?_
  refine lv_bipush (v := 8) X.x X.b dX11_init_408 (by decide) ?_
  obtain ⟨ha350, hf⟩ := wGd_s hf
  obtain ⟨b347, hf⟩ := wGi_s hf
  obtain ⟨g348, e349, hf⟩ := wLe_s hf
  refine rd_ast (t := 13) (N := 48) X h ha350 (fun _ => rfl) e349 b347 dX11_init_410 (fun H locs h => ?_)
  refine lv_dup X.x X.b dX11_init_411 rfl ?_
  refine lv_bipush (v := 44) X.x X.b dX11_init_412 (by decide) ?_
  refine lv_iconst (v := 0) X.x X.b dX11_init_414 (by decide) ?_
  obtain ⟨ha354, hf⟩ := wGd_s hf
  obtain ⟨b351, hf⟩ := wGi_s hf
  obtain ⟨g352, e353, hf⟩ := wLe_s hf
  refine rd_ast (t := 13) (N := 48) X h ha354 (fun _ => rfl) e353 b351 dX11_init_415 (fun H locs h => ?_)
  refine lv_dup X.x X.b dX11_init_416 rfl ?_
  refine lv_bipush (v := 45) X.x X.b dX11_init_417 (by decide) ?_
  refine lv_bipush (v := 34) X.x X.b dX11_init_419 (by decide) ?_
  obtain ⟨ha358, hf⟩ := wGd_s hf
  obtain ⟨b355, hf⟩ := wGi_s hf
  obtain ⟨g356, e357, hf⟩ := wLe_s hf
  refine rd_ast (t := 13) (N := 48) X h ha358 (fun _ => rfl) e357 b355 dX11_init_421 (fun H locs h => ?_)
  refine lv_dup X.x X.b dX11_init_422 rfl ?_
  refine lv_bipush (v := 46) X.x X.b dX11_init_423 (by decide) ?_
  refine lv_bipush (v := 12) X.x X.b dX11_init_425 (by decide) ?_
  obtain ⟨ha362, hf⟩ := wGd_s hf
  obtain ⟨b359, hf⟩ := wGi_s hf
  obtain ⟨g360, e361, hf⟩ := wLe_s hf
  refine rd_ast (t := 13) (N := 48) X h ha362 (fun _ => rfl) e361 b359 dX11_init_427 (fun H locs h => ?_)
  refine lv_dup X.x X.b dX11_init_428 rfl ?_
  refine lv_bipush (v := 47) X.x X.b dX11_init_429 (by decide) ?_
  refine lv_iconst (v := 3) X.x X.b dX11_init_431 (by decide) ?_
  obtain ⟨ha366, hf⟩ := wGd_s hf
  obtain ⟨b363, hf⟩ := wGi_s hf
  obtain ⟨g364, e365, hf⟩ := wLe_s hf
  refine rd_ast (t := 13) (N := 48) X h ha366 (fun _ => rfl) e365 b363 dX11_init_432 (fun H locs h => ?_)
  obtain ⟨ha367, hf⟩ := wGd_s hf
  obtain ⟨hb721, hf⟩ := wGd_s hf
  obtain ⟨g368, e369, hf⟩ := wLe_s hf
  refine rd_put (t := 0) (ci := 10) (j := 20) (C := RX11) (T := TX11) (N := 37) (x := nI (n160 + 1)) (val := .ref (k.1 + n160)) X h ha367 rfl rfl (by decide) iX11 tyX11_ok nmX11 rfl rfl rfl (Nat.le_of_ble_eq_true rfl) lk_X11_50 e369 (congrArg (fun z => (Sum.inr (10, rD k (g364 c0 0 0 0) :: .int (g364 c0 0 0 1) :: .int (g364 c0 0 0 2) :: .int (g364 c0 0 0 3) :: .int (g364 c0 0 0 4) :: rD k (g364 c0 0 0 5) :: rD k (g364 c0 0 0 6) :: rD k (g364 c0 0 0 7) :: .int (g364 c0 0 0 8) :: rD k (g364 c0 0 0 9) :: rD k (g364 c0 0 0 10) :: .int (g364 c0 0 0 11) :: .int (g364 c0 0 0 12) :: .int (g364 c0 0 0 13) :: rD k (g364 c0 0 0 14) :: rD k (g364 c0 0 0 15) :: rD k (g364 c0 0 0 16) :: rD k (g364 c0 0 0 17) :: rD k (g364 c0 0 0 18) :: rD k (g364 c0 0 0 19) :: z :: rD k (g364 c0 0 0 21) :: rD k (g364 c0 0 0 22) :: rD k (g364 c0 0 0 23) :: rD k (g364 c0 0 0 24) :: .int (g364 c0 0 0 25) :: .int (g364 c0 0 0 26) :: .int (g364 c0 0 0 27) :: .int (g364 c0 0 0 28) :: rD k (g364 c0 0 0 29) :: rD k (g364 c0 0 0 30) :: .int (g364 c0 0 0 31) :: .int (g364 c0 0 0 32) :: .int (g364 c0 0 0 33) :: rD k (g364 c0 0 0 34) :: rD k (g364 c0 0 0 35) :: rD k (g364 c0 0 0 36) :: []) : va_E)) (rD_set k hb721)) dX11_init_433 (fun H locs h => ?_)
  exact wX11_init_s436 X hc hz h (lv_sub hl [0] rfl) hf JR
def fX11_init_s63 (n0 : Nat) (n : Nat) (g : Mm) (c0 : Nat) : Option (Nat × Mm) :=
  wGd (kdR n = 8 ∧ slR (n + 1) = slR n + 24 ∧ n + 1 ≤ n0 + 22 ∧ slR (n + 1) ≤ slR n0 + 3217) (wLe (n + 1) fun n64 => wLe (nw g n) fun g65 => wGd (c0 < n64 ∧ c0 < 23 ∧ kdR c0 = 0) (wGd (n + 1 < 2 ^ 31) (wLe (st g65 c0 0 0 15 (nI (n + 1))) fun g71 => wGd (kdR n64 = 9 ∧ slR (n64 + 1) = slR n64 + 11 ∧ n64 + 1 ≤ n0 + 22 ∧ slR (n64 + 1) ≤ slR n0 + 3217) (wLe (n64 + 1) fun n73 => wLe (nw g71 n64) fun g74 => wGd (n64 < n73 ∧ n64 < 23 ∧ kdR n64 = 9) (wGi (0 : Int32) 11 (wLe (st g74 n64 0 0 ((0 : Int32)).toNatClampNeg (0 : Int32)) fun g80 => wGd (n64 < n73 ∧ n64 < 23 ∧ kdR n64 = 9) (wGi (1 : Int32) 11 (wLe (st g80 n64 0 0 ((1 : Int32)).toNatClampNeg (100100 : Int32)) fun g84 => wGd (n64 < n73 ∧ n64 < 23 ∧ kdR n64 = 9) (wGi (2 : Int32) 11 (wLe (st g84 n64 0 0 ((2 : Int32)).toNatClampNeg (18 : Int32)) fun g88 => wGd (n64 < n73 ∧ n64 < 23 ∧ kdR n64 = 9) (wGi (3 : Int32) 11 (wLe (st g88 n64 0 0 ((3 : Int32)).toNatClampNeg (3 : Int32)) fun g92 => wGd (n64 < n73 ∧ n64 < 23 ∧ kdR n64 = 9) (wGi (4 : Int32) 11 (wLe (st g92 n64 0 0 ((4 : Int32)).toNatClampNeg (16 : Int32)) fun g96 => wGd (n64 < n73 ∧ n64 < 23 ∧ kdR n64 = 9) (wGi (5 : Int32) 11 (wLe (st g96 n64 0 0 ((5 : Int32)).toNatClampNeg (100002 : Int32)) fun g100 => wGd (n64 < n73 ∧ n64 < 23 ∧ kdR n64 = 9) (wGi (6 : Int32) 11 (wLe (st g100 n64 0 0 ((6 : Int32)).toNatClampNeg (5 : Int32)) fun g104 => wGd (n64 < n73 ∧ n64 < 23 ∧ kdR n64 = 9) (wGi (7 : Int32) 11 (wLe (st g104 n64 0 0 ((7 : Int32)).toNatClampNeg (100004 : Int32)) fun g108 => wGd (n64 < n73 ∧ n64 < 23 ∧ kdR n64 = 9) (wGi (8 : Int32) 11 (wLe (st g108 n64 0 0 ((8 : Int32)).toNatClampNeg (18 : Int32)) fun g112 => wGd (n64 < n73 ∧ n64 < 23 ∧ kdR n64 = 9) (wGi (9 : Int32) 11 (wLe (st g112 n64 0 0 ((9 : Int32)).toNatClampNeg (16 : Int32)) fun g116 => wGd (n64 < n73 ∧ n64 < 23 ∧ kdR n64 = 9) (wGi (10 : Int32) 11 (wLe (st g116 n64 0 0 ((10 : Int32)).toNatClampNeg (100000 : Int32)) fun g120 => wGd (c0 < n73 ∧ c0 < 23 ∧ kdR c0 = 0) (wGd (n64 + 1 < 2 ^ 31) (wLe (st g120 c0 0 0 16 (nI (n64 + 1))) fun g124 => fX11_init_s136 n0 n73 g124 c0))))))))))))))))))))))))))))
set_option maxHeartbeats 4000000 in
set_option maxRecDepth 20000 in
theorem wX11_init_s63 {k : En} {n0 : Nat} {c0 : Nat} {res : Nat × Mm} (X : Cd k p s m args meth c cX11_init 2 RX11) {n : Nat} {g : Mm} {ce sl : Nat} {H : Heap} {locs : List Loc} {ls : Array Slot} (hc : ce + n0 = n) (hz : sl + slR n0 = slR n) (h : Hd DR k n s g H locs) (hl : lv_has ls 2 [(0, .ref (k.1 + c0))]) {r : Nat × Mm} (hf : fX11_init_s63 n0 n g c0 = some r) (JR : r = res) : W p l e (RmI 1 22 3217 30) s m args below meth c H locs ce sl (FinD DR k args s below 22 3217 res.1 res.2) (F0 m 63 ls []) := by
  unfold fX11_init_s63 at hf
  refine lv_aload_n X.x X.b dX11_init_63 rfl (lv_at hl 0 rfl) ?_
  refine lv_bipush (v := 24) X.x X.b dX11_init_64 (by decide) ?_
  obtain ⟨⟨hk68, ha69a, ha69b, ha69c⟩, hf⟩ := wGd_s hf
  obtain ⟨n64, e66, hf⟩ := wLe_s hf
  obtain ⟨g65, e67, hf⟩ := wLe_s hf
  have hc737 : (ce + 1) + n0 = n64 := by omega
  have hz738 : (sl + 24) + slR n0 = slR n64 := by rw [e66]; omega
  refine rd_newa (cells' := (ce + 1)) (slots' := (sl + 24)) (t := 8) (N := 24) X h hk68 (fun _ => rfl) (by decide) (by decide) (by decide) arr_int rfl rfl ⟨by show (ce + 1) ≤ 22; omega, by show (sl + 24) ≤ 3217; omega⟩ dX11_init_66 (fun H h => ?_)
  have hc := hc737
  have hz := hz738
  rw [← e66, ← e67] at h
  obtain ⟨ha70, hf⟩ := wGd_s hf
  obtain ⟨hb736, hf⟩ := wGd_s hf
  obtain ⟨g71, e72, hf⟩ := wLe_s hf
  refine rd_put (t := 0) (ci := 10) (j := 15) (C := RX11) (T := TX11) (N := 37) (x := nI (n + 1)) (val := .ref (k.1 + n)) X h ha70 rfl rfl (by decide) iX11 tyX11_ok nmX11 rfl rfl rfl (Nat.le_of_ble_eq_true rfl) lk_X11_31 e72 (congrArg (fun z => (Sum.inr (10, rD k (g65 c0 0 0 0) :: .int (g65 c0 0 0 1) :: .int (g65 c0 0 0 2) :: .int (g65 c0 0 0 3) :: .int (g65 c0 0 0 4) :: rD k (g65 c0 0 0 5) :: rD k (g65 c0 0 0 6) :: rD k (g65 c0 0 0 7) :: .int (g65 c0 0 0 8) :: rD k (g65 c0 0 0 9) :: rD k (g65 c0 0 0 10) :: .int (g65 c0 0 0 11) :: .int (g65 c0 0 0 12) :: .int (g65 c0 0 0 13) :: rD k (g65 c0 0 0 14) :: z :: rD k (g65 c0 0 0 16) :: rD k (g65 c0 0 0 17) :: rD k (g65 c0 0 0 18) :: rD k (g65 c0 0 0 19) :: rD k (g65 c0 0 0 20) :: rD k (g65 c0 0 0 21) :: rD k (g65 c0 0 0 22) :: rD k (g65 c0 0 0 23) :: rD k (g65 c0 0 0 24) :: .int (g65 c0 0 0 25) :: .int (g65 c0 0 0 26) :: .int (g65 c0 0 0 27) :: .int (g65 c0 0 0 28) :: rD k (g65 c0 0 0 29) :: rD k (g65 c0 0 0 30) :: .int (g65 c0 0 0 31) :: .int (g65 c0 0 0 32) :: .int (g65 c0 0 0 33) :: rD k (g65 c0 0 0 34) :: rD k (g65 c0 0 0 35) :: rD k (g65 c0 0 0 36) :: []) : va_E)) (rD_set k hb736)) dX11_init_68 (fun H locs h => ?_)
  refine lv_aload_n X.x X.b dX11_init_71 rfl (lv_at hl 0 rfl) ?_
  refine lv_bipush (v := 11) X.x X.b dX11_init_72 (by decide) ?_
  obtain ⟨⟨hk77, ha78a, ha78b, ha78c⟩, hf⟩ := wGd_s hf
  obtain ⟨n73, e75, hf⟩ := wLe_s hf
  obtain ⟨g74, e76, hf⟩ := wLe_s hf
  have hc734 : ((ce + 1) + 1) + n0 = n73 := by omega
  have hz735 : ((sl + 24) + 11) + slR n0 = slR n73 := by rw [e75]; omega
  refine rd_newa (cells' := ((ce + 1) + 1)) (slots' := ((sl + 24) + 11)) (t := 9) (N := 11) X h hk77 (fun _ => rfl) (by decide) (by decide) (by decide) arr_int rfl rfl ⟨by show ((ce + 1) + 1) ≤ 22; omega, by show ((sl + 24) + 11) ≤ 3217; omega⟩ dX11_init_74 (fun H h => ?_)
  have hc := hc734
  have hz := hz735
  rw [← e75, ← e76] at h
  refine lv_dup X.x X.b dX11_init_76 rfl ?_
  refine lv_iconst (v := 0) X.x X.b dX11_init_77 (by decide) ?_
  refine lv_iconst (v := 0) X.x X.b dX11_init_78 (by decide) ?_
  obtain ⟨ha82, hf⟩ := wGd_s hf
  obtain ⟨b79, hf⟩ := wGi_s hf
  obtain ⟨g80, e81, hf⟩ := wLe_s hf
  refine rd_ast (t := 9) (N := 11) X h ha82 (fun _ => rfl) e81 b79 dX11_init_79 (fun H locs h => ?_)
  refine lv_dup X.x X.b dX11_init_80 rfl ?_
  refine lv_iconst (v := 1) X.x X.b dX11_init_81 (by decide) ?_
  refine rd_ldc X lc_X11_34 dX11_init_82 ?_
  obtain ⟨ha86, hf⟩ := wGd_s hf
  obtain ⟨b83, hf⟩ := wGi_s hf
  obtain ⟨g84, e85, hf⟩ := wLe_s hf
  refine rd_ast (t := 9) (N := 11) X h ha86 (fun _ => rfl) e85 b83 dX11_init_84 (fun H locs h => ?_)
  refine lv_dup X.x X.b dX11_init_85 rfl ?_
  refine lv_iconst (v := 2) X.x X.b dX11_init_86 (by decide) ?_
  refine lv_bipush (v := 18) X.x X.b dX11_init_87 (by decide) ?_
  obtain ⟨ha90, hf⟩ := wGd_s hf
  obtain ⟨b87, hf⟩ := wGi_s hf
  obtain ⟨g88, e89, hf⟩ := wLe_s hf
  refine rd_ast (t := 9) (N := 11) X h ha90 (fun _ => rfl) e89 b87 dX11_init_89 (fun H locs h => ?_)
  refine lv_dup X.x X.b dX11_init_90 rfl ?_
  refine lv_iconst (v := 3) X.x X.b dX11_init_91 (by decide) ?_
  refine lv_iconst (v := 3) X.x X.b dX11_init_92 (by decide) ?_
  obtain ⟨ha94, hf⟩ := wGd_s hf
  obtain ⟨b91, hf⟩ := wGi_s hf
  obtain ⟨g92, e93, hf⟩ := wLe_s hf
  refine rd_ast (t := 9) (N := 11) X h ha94 (fun _ => rfl) e93 b91 dX11_init_93 (fun H locs h => ?_)
  refine lv_dup X.x X.b dX11_init_94 rfl ?_
  refine lv_iconst (v := 4) X.x X.b dX11_init_95 (by decide) ?_
  refine lv_bipush (v := 16) X.x X.b dX11_init_96 (by decide) ?_
  obtain ⟨ha98, hf⟩ := wGd_s hf
  obtain ⟨b95, hf⟩ := wGi_s hf
  obtain ⟨g96, e97, hf⟩ := wLe_s hf
  refine rd_ast (t := 9) (N := 11) X h ha98 (fun _ => rfl) e97 b95 dX11_init_98 (fun H locs h => ?_)
  refine lv_dup X.x X.b dX11_init_99 rfl ?_
  refine lv_iconst (v := 5) X.x X.b dX11_init_100 (by decide) ?_
  refine rd_ldc X lc_X11_35 dX11_init_101 ?_
  obtain ⟨ha102, hf⟩ := wGd_s hf
  obtain ⟨b99, hf⟩ := wGi_s hf
  obtain ⟨g100, e101, hf⟩ := wLe_s hf
  refine rd_ast (t := 9) (N := 11) X h ha102 (fun _ => rfl) e101 b99 dX11_init_103 (fun H locs h => ?_)
  refine lv_dup X.x X.b dX11_init_104 rfl ?_
  refine lv_bipush (v := 6) X.x X.b dX11_init_105 (by decide) ?_
  refine lv_iconst (v := 5) X.x X.b dX11_init_107 (by decide) ?_
  obtain ⟨ha106, hf⟩ := wGd_s hf
  obtain ⟨b103, hf⟩ := wGi_s hf
  obtain ⟨g104, e105, hf⟩ := wLe_s hf
  refine rd_ast (t := 9) (N := 11) X h ha106 (fun _ => rfl) e105 b103 dX11_init_108 (fun H locs h => ?_)
  refine lv_dup X.x X.b dX11_init_109 rfl ?_
  refine lv_bipush (v := 7) X.x X.b dX11_init_110 (by decide) ?_
  refine rd_ldc X lc_X11_36 dX11_init_112 ?_
  obtain ⟨ha110, hf⟩ := wGd_s hf
  obtain ⟨b107, hf⟩ := wGi_s hf
  obtain ⟨g108, e109, hf⟩ := wLe_s hf
  refine rd_ast (t := 9) (N := 11) X h ha110 (fun _ => rfl) e109 b107 dX11_init_114 (fun H locs h => ?_)
  refine lv_dup X.x X.b dX11_init_115 rfl ?_
  refine lv_bipush (v := 8) X.x X.b dX11_init_116 (by decide) ?_
  refine lv_bipush (v := 18) X.x X.b dX11_init_118 (by decide) ?_
  obtain ⟨ha114, hf⟩ := wGd_s hf
  obtain ⟨b111, hf⟩ := wGi_s hf
  obtain ⟨g112, e113, hf⟩ := wLe_s hf
  refine rd_ast (t := 9) (N := 11) X h ha114 (fun _ => rfl) e113 b111 dX11_init_120 (fun H locs h => ?_)
  refine lv_dup X.x X.b dX11_init_121 rfl ?_
  refine lv_bipush (v := 9) X.x X.b dX11_init_122 (by decide) ?_
  refine lv_bipush (v := 16) X.x X.b dX11_init_124 (by decide) ?_
  obtain ⟨ha118, hf⟩ := wGd_s hf
  obtain ⟨b115, hf⟩ := wGi_s hf
  obtain ⟨g116, e117, hf⟩ := wLe_s hf
  refine rd_ast (t := 9) (N := 11) X h ha118 (fun _ => rfl) e117 b115 dX11_init_126 (fun H locs h => ?_)
  refine lv_dup X.x X.b dX11_init_127 rfl ?_
  refine lv_bipush (v := 10) X.x X.b dX11_init_128 (by decide) ?_
  refine rd_ldc X lc_X11_37 dX11_init_130 ?_
  obtain ⟨ha122, hf⟩ := wGd_s hf
  obtain ⟨b119, hf⟩ := wGi_s hf
  obtain ⟨g120, e121, hf⟩ := wLe_s hf
  refine rd_ast (t := 9) (N := 11) X h ha122 (fun _ => rfl) e121 b119 dX11_init_132 (fun H locs h => ?_)
  obtain ⟨ha123, hf⟩ := wGd_s hf
  obtain ⟨hb733, hf⟩ := wGd_s hf
  obtain ⟨g124, e125, hf⟩ := wLe_s hf
  refine rd_put (t := 0) (ci := 10) (j := 16) (C := RX11) (T := TX11) (N := 37) (x := nI (n64 + 1)) (val := .ref (k.1 + n64)) X h ha123 rfl rfl (by decide) iX11 tyX11_ok nmX11 rfl rfl rfl (Nat.le_of_ble_eq_true rfl) lk_X11_38 e125 (congrArg (fun z => (Sum.inr (10, rD k (g120 c0 0 0 0) :: .int (g120 c0 0 0 1) :: .int (g120 c0 0 0 2) :: .int (g120 c0 0 0 3) :: .int (g120 c0 0 0 4) :: rD k (g120 c0 0 0 5) :: rD k (g120 c0 0 0 6) :: rD k (g120 c0 0 0 7) :: .int (g120 c0 0 0 8) :: rD k (g120 c0 0 0 9) :: rD k (g120 c0 0 0 10) :: .int (g120 c0 0 0 11) :: .int (g120 c0 0 0 12) :: .int (g120 c0 0 0 13) :: rD k (g120 c0 0 0 14) :: rD k (g120 c0 0 0 15) :: z :: rD k (g120 c0 0 0 17) :: rD k (g120 c0 0 0 18) :: rD k (g120 c0 0 0 19) :: rD k (g120 c0 0 0 20) :: rD k (g120 c0 0 0 21) :: rD k (g120 c0 0 0 22) :: rD k (g120 c0 0 0 23) :: rD k (g120 c0 0 0 24) :: .int (g120 c0 0 0 25) :: .int (g120 c0 0 0 26) :: .int (g120 c0 0 0 27) :: .int (g120 c0 0 0 28) :: rD k (g120 c0 0 0 29) :: rD k (g120 c0 0 0 30) :: .int (g120 c0 0 0 31) :: .int (g120 c0 0 0 32) :: .int (g120 c0 0 0 33) :: rD k (g120 c0 0 0 34) :: rD k (g120 c0 0 0 35) :: rD k (g120 c0 0 0 36) :: []) : va_E)) (rD_set k hb733)) dX11_init_133 (fun H locs h => ?_)
  exact wX11_init_s136 X hc hz h (lv_sub hl [0] rfl) hf JR
def fX11_init (n0 : Nat) (g0 : Mm) (c0 : Nat) : Option (Nat × Mm) :=
  wGd (kdR n0 = 1 ∧ slR (n0 + 1) = slR n0 + 510 ∧ n0 + 1 ≤ n0 + 22 ∧ slR (n0 + 1) ≤ slR n0 + 3217) (wLe (n0 + 1) fun n1 => wLe (nw g0 n0) fun g2 => wGd (c0 < n1 ∧ c0 < 23 ∧ kdR c0 = 0) (wGd (n0 + 1 < 2 ^ 31) (wLe (st g2 c0 0 0 0 (nI (n0 + 1))) fun g8 => wGd (kdR n1 = 2 ∧ slR (n1 + 1) = slR n1 + 40 ∧ n1 + 1 ≤ n0 + 22 ∧ slR (n1 + 1) ≤ slR n0 + 3217) (wLe (n1 + 1) fun n10 => wLe (nw g8 n1) fun g11 => wGd (c0 < n10 ∧ c0 < 23 ∧ kdR c0 = 0) (wGd (n1 + 1 < 2 ^ 31) (wLe (st g11 c0 0 0 5 (nI (n1 + 1))) fun g17 => wGd (kdR n10 = 3 ∧ slR (n10 + 1) = slR n10 + 40 ∧ n10 + 1 ≤ n0 + 22 ∧ slR (n10 + 1) ≤ slR n0 + 3217) (wLe (n10 + 1) fun n19 => wLe (nw g17 n10) fun g20 => wGd (c0 < n19 ∧ c0 < 23 ∧ kdR c0 = 0) (wGd (n10 + 1 < 2 ^ 31) (wLe (st g20 c0 0 0 6 (nI (n10 + 1))) fun g26 => wGd (kdR n19 = 4 ∧ slR (n19 + 1) = slR n19 + 40 ∧ n19 + 1 ≤ n0 + 22 ∧ slR (n19 + 1) ≤ slR n0 + 3217) (wLe (n19 + 1) fun n28 => wLe (nw g26 n19) fun g29 => wGd (c0 < n28 ∧ c0 < 23 ∧ kdR c0 = 0) (wGd (n19 + 1 < 2 ^ 31) (wLe (st g29 c0 0 0 7 (nI (n19 + 1))) fun g35 => wGd (kdR n28 = 5 ∧ slR (n28 + 1) = slR n28 + 12 ∧ n28 + 1 ≤ n0 + 22 ∧ slR (n28 + 1) ≤ slR n0 + 3217) (wLe (n28 + 1) fun n37 => wLe (nw g35 n28) fun g38 => wGd (c0 < n37 ∧ c0 < 23 ∧ kdR c0 = 0) (wGd (n28 + 1 < 2 ^ 31) (wLe (st g38 c0 0 0 9 (nI (n28 + 1))) fun g44 => wGd (kdR n37 = 6 ∧ slR (n37 + 1) = slR n37 + 160 ∧ n37 + 1 ≤ n0 + 22 ∧ slR (n37 + 1) ≤ slR n0 + 3217) (wLe (n37 + 1) fun n46 => wLe (nw g44 n37) fun g47 => wGd (c0 < n46 ∧ c0 < 23 ∧ kdR c0 = 0) (wGd (n37 + 1 < 2 ^ 31) (wLe (st g47 c0 0 0 10 (nI (n37 + 1))) fun g53 => wGd (kdR n46 = 7 ∧ slR (n46 + 1) = slR n46 + 1200 ∧ n46 + 1 ≤ n0 + 22 ∧ slR (n46 + 1) ≤ slR n0 + 3217) (wLe (n46 + 1) fun n55 => wLe (nw g53 n46) fun g56 => wGd (c0 < n55 ∧ c0 < 23 ∧ kdR c0 = 0) (wGd (n46 + 1 < 2 ^ 31) (wLe (st g56 c0 0 0 14 (nI (n46 + 1))) fun g62 => fX11_init_s63 n0 n55 g62 c0)))))))))))))))))))))
set_option maxHeartbeats 4000000 in
set_option maxRecDepth 20000 in
theorem kX11_init (l : Launch) {k : En} {n0 : Nat} {c0 : Nat} {res : Nat × Mm} {g0 : Mm} (hf : fX11_init n0 g0 c0 = some res) : MtD l yX11_init cX11_init 2 (RmI 1 22 3217 30) 22 3217 DR k n0 [.ref (k.1 + c0)] g0 res.1 res.2 := by
  refine MtD.of (by decide) rfl (Nat.le_of_ble_eq_true rfl) ?_
  intro p e s m args below meth c ls X h hl
  have X : Cd k p s m args meth c cX11_init 2 RX11 := X
  have hl : lv_has ls 2 [(0, .ref (k.1 + c0))] := hl
  have hc : 0 + n0 = n0 := Nat.zero_add _
  have hz : 0 + slR n0 = slR n0 := Nat.zero_add _
  have JR : res = res := rfl
  unfold fX11_init at hf
  refine lv_aload_n X.x X.b dX11_init_0 rfl (lv_at hl 0 rfl) ?_
  refine rd_obj X hl lk_X11_1 oi_f (Nat.le_of_ble_eq_true rfl) (Nat.le_of_ble_eq_true rfl) dX11_init_1 ?_
  refine lv_aload_n X.x X.b dX11_init_4 rfl (lv_at hl 0 rfl) ?_
  refine lv_sipush (v := 510) X.x X.b dX11_init_5 (by decide) ?_
  obtain ⟨⟨hk5, ha6a, ha6b, ha6c⟩, hf⟩ := wGd_s hf
  obtain ⟨n1, e3, hf⟩ := wLe_s hf
  obtain ⟨g2, e4, hf⟩ := wLe_s hf
  have hc758 : 1 + n0 = n1 := by omega
  have hz759 : 510 + slR n0 = slR n1 := by rw [e3]; omega
  refine rd_newa (cells' := 1) (slots' := 510) (t := 1) (N := 510) X h hk5 (fun _ => rfl) (by decide) (by decide) (by decide) arr_int rfl rfl ⟨by show 1 ≤ 22; omega, by show 510 ≤ 3217; omega⟩ dX11_init_8 (fun H h => ?_)
  have hc := hc758
  have hz := hz759
  rw [← e3, ← e4] at h
  obtain ⟨ha7, hf⟩ := wGd_s hf
  obtain ⟨hb757, hf⟩ := wGd_s hf
  obtain ⟨g8, e9, hf⟩ := wLe_s hf
  refine rd_put (t := 0) (ci := 10) (j := 0) (C := RX11) (T := TX11) (N := 37) (x := nI (n0 + 1)) (val := .ref (k.1 + n0)) X h ha7 rfl rfl (by decide) iX11 tyX11_ok nmX11 rfl rfl rfl (Nat.le_of_ble_eq_true rfl) lk_X11_7 e9 (congrArg (fun z => (Sum.inr (10, z :: .int (g2 c0 0 0 1) :: .int (g2 c0 0 0 2) :: .int (g2 c0 0 0 3) :: .int (g2 c0 0 0 4) :: rD k (g2 c0 0 0 5) :: rD k (g2 c0 0 0 6) :: rD k (g2 c0 0 0 7) :: .int (g2 c0 0 0 8) :: rD k (g2 c0 0 0 9) :: rD k (g2 c0 0 0 10) :: .int (g2 c0 0 0 11) :: .int (g2 c0 0 0 12) :: .int (g2 c0 0 0 13) :: rD k (g2 c0 0 0 14) :: rD k (g2 c0 0 0 15) :: rD k (g2 c0 0 0 16) :: rD k (g2 c0 0 0 17) :: rD k (g2 c0 0 0 18) :: rD k (g2 c0 0 0 19) :: rD k (g2 c0 0 0 20) :: rD k (g2 c0 0 0 21) :: rD k (g2 c0 0 0 22) :: rD k (g2 c0 0 0 23) :: rD k (g2 c0 0 0 24) :: .int (g2 c0 0 0 25) :: .int (g2 c0 0 0 26) :: .int (g2 c0 0 0 27) :: .int (g2 c0 0 0 28) :: rD k (g2 c0 0 0 29) :: rD k (g2 c0 0 0 30) :: .int (g2 c0 0 0 31) :: .int (g2 c0 0 0 32) :: .int (g2 c0 0 0 33) :: rD k (g2 c0 0 0 34) :: rD k (g2 c0 0 0 35) :: rD k (g2 c0 0 0 36) :: []) : va_E)) (rD_set k hb757)) dX11_init_10 (fun H locs h => ?_)
  refine lv_aload_n X.x X.b dX11_init_13 rfl (lv_at hl 0 rfl) ?_
  refine lv_bipush (v := 40) X.x X.b dX11_init_14 (by decide) ?_
  obtain ⟨⟨hk14, ha15a, ha15b, ha15c⟩, hf⟩ := wGd_s hf
  obtain ⟨n10, e12, hf⟩ := wLe_s hf
  obtain ⟨g11, e13, hf⟩ := wLe_s hf
  have hc755 : 2 + n0 = n10 := by omega
  have hz756 : 550 + slR n0 = slR n10 := by rw [e12]; omega
  refine rd_newa (cells' := 2) (slots' := 550) (t := 2) (N := 40) X h hk14 (fun _ => rfl) (by decide) (by decide) (by decide) arr_int rfl rfl ⟨by show 2 ≤ 22; omega, by show 550 ≤ 3217; omega⟩ dX11_init_16 (fun H h => ?_)
  have hc := hc755
  have hz := hz756
  rw [← e12, ← e13] at h
  obtain ⟨ha16, hf⟩ := wGd_s hf
  obtain ⟨hb754, hf⟩ := wGd_s hf
  obtain ⟨g17, e18, hf⟩ := wLe_s hf
  refine rd_put (t := 0) (ci := 10) (j := 5) (C := RX11) (T := TX11) (N := 37) (x := nI (n1 + 1)) (val := .ref (k.1 + n1)) X h ha16 rfl rfl (by decide) iX11 tyX11_ok nmX11 rfl rfl rfl (Nat.le_of_ble_eq_true rfl) lk_X11_13 e18 (congrArg (fun z => (Sum.inr (10, rD k (g11 c0 0 0 0) :: .int (g11 c0 0 0 1) :: .int (g11 c0 0 0 2) :: .int (g11 c0 0 0 3) :: .int (g11 c0 0 0 4) :: z :: rD k (g11 c0 0 0 6) :: rD k (g11 c0 0 0 7) :: .int (g11 c0 0 0 8) :: rD k (g11 c0 0 0 9) :: rD k (g11 c0 0 0 10) :: .int (g11 c0 0 0 11) :: .int (g11 c0 0 0 12) :: .int (g11 c0 0 0 13) :: rD k (g11 c0 0 0 14) :: rD k (g11 c0 0 0 15) :: rD k (g11 c0 0 0 16) :: rD k (g11 c0 0 0 17) :: rD k (g11 c0 0 0 18) :: rD k (g11 c0 0 0 19) :: rD k (g11 c0 0 0 20) :: rD k (g11 c0 0 0 21) :: rD k (g11 c0 0 0 22) :: rD k (g11 c0 0 0 23) :: rD k (g11 c0 0 0 24) :: .int (g11 c0 0 0 25) :: .int (g11 c0 0 0 26) :: .int (g11 c0 0 0 27) :: .int (g11 c0 0 0 28) :: rD k (g11 c0 0 0 29) :: rD k (g11 c0 0 0 30) :: .int (g11 c0 0 0 31) :: .int (g11 c0 0 0 32) :: .int (g11 c0 0 0 33) :: rD k (g11 c0 0 0 34) :: rD k (g11 c0 0 0 35) :: rD k (g11 c0 0 0 36) :: []) : va_E)) (rD_set k hb754)) dX11_init_18 (fun H locs h => ?_)
  refine lv_aload_n X.x X.b dX11_init_21 rfl (lv_at hl 0 rfl) ?_
  refine lv_bipush (v := 40) X.x X.b dX11_init_22 (by decide) ?_
  obtain ⟨⟨hk23, ha24a, ha24b, ha24c⟩, hf⟩ := wGd_s hf
  obtain ⟨n19, e21, hf⟩ := wLe_s hf
  obtain ⟨g20, e22, hf⟩ := wLe_s hf
  have hc752 : 3 + n0 = n19 := by omega
  have hz753 : 590 + slR n0 = slR n19 := by rw [e21]; omega
  refine rd_newa (cells' := 3) (slots' := 590) (t := 3) (N := 40) X h hk23 (fun _ => rfl) (by decide) (by decide) (by decide) arr_int rfl rfl ⟨by show 3 ≤ 22; omega, by show 590 ≤ 3217; omega⟩ dX11_init_24 (fun H h => ?_)
  have hc := hc752
  have hz := hz753
  rw [← e21, ← e22] at h
  obtain ⟨ha25, hf⟩ := wGd_s hf
  obtain ⟨hb751, hf⟩ := wGd_s hf
  obtain ⟨g26, e27, hf⟩ := wLe_s hf
  refine rd_put (t := 0) (ci := 10) (j := 6) (C := RX11) (T := TX11) (N := 37) (x := nI (n10 + 1)) (val := .ref (k.1 + n10)) X h ha25 rfl rfl (by decide) iX11 tyX11_ok nmX11 rfl rfl rfl (Nat.le_of_ble_eq_true rfl) lk_X11_16 e27 (congrArg (fun z => (Sum.inr (10, rD k (g20 c0 0 0 0) :: .int (g20 c0 0 0 1) :: .int (g20 c0 0 0 2) :: .int (g20 c0 0 0 3) :: .int (g20 c0 0 0 4) :: rD k (g20 c0 0 0 5) :: z :: rD k (g20 c0 0 0 7) :: .int (g20 c0 0 0 8) :: rD k (g20 c0 0 0 9) :: rD k (g20 c0 0 0 10) :: .int (g20 c0 0 0 11) :: .int (g20 c0 0 0 12) :: .int (g20 c0 0 0 13) :: rD k (g20 c0 0 0 14) :: rD k (g20 c0 0 0 15) :: rD k (g20 c0 0 0 16) :: rD k (g20 c0 0 0 17) :: rD k (g20 c0 0 0 18) :: rD k (g20 c0 0 0 19) :: rD k (g20 c0 0 0 20) :: rD k (g20 c0 0 0 21) :: rD k (g20 c0 0 0 22) :: rD k (g20 c0 0 0 23) :: rD k (g20 c0 0 0 24) :: .int (g20 c0 0 0 25) :: .int (g20 c0 0 0 26) :: .int (g20 c0 0 0 27) :: .int (g20 c0 0 0 28) :: rD k (g20 c0 0 0 29) :: rD k (g20 c0 0 0 30) :: .int (g20 c0 0 0 31) :: .int (g20 c0 0 0 32) :: .int (g20 c0 0 0 33) :: rD k (g20 c0 0 0 34) :: rD k (g20 c0 0 0 35) :: rD k (g20 c0 0 0 36) :: []) : va_E)) (rD_set k hb751)) dX11_init_26 (fun H locs h => ?_)
  refine lv_aload_n X.x X.b dX11_init_29 rfl (lv_at hl 0 rfl) ?_
  refine lv_bipush (v := 40) X.x X.b dX11_init_30 (by decide) ?_
  obtain ⟨⟨hk32, ha33a, ha33b, ha33c⟩, hf⟩ := wGd_s hf
  obtain ⟨n28, e30, hf⟩ := wLe_s hf
  obtain ⟨g29, e31, hf⟩ := wLe_s hf
  have hc749 : 4 + n0 = n28 := by omega
  have hz750 : 630 + slR n0 = slR n28 := by rw [e30]; omega
  refine rd_newa (cells' := 4) (slots' := 630) (t := 4) (N := 40) X h hk32 (fun _ => rfl) (by decide) (by decide) (by decide) arr_int rfl rfl ⟨by show 4 ≤ 22; omega, by show 630 ≤ 3217; omega⟩ dX11_init_32 (fun H h => ?_)
  have hc := hc749
  have hz := hz750
  rw [← e30, ← e31] at h
  obtain ⟨ha34, hf⟩ := wGd_s hf
  obtain ⟨hb748, hf⟩ := wGd_s hf
  obtain ⟨g35, e36, hf⟩ := wLe_s hf
  refine rd_put (t := 0) (ci := 10) (j := 7) (C := RX11) (T := TX11) (N := 37) (x := nI (n19 + 1)) (val := .ref (k.1 + n19)) X h ha34 rfl rfl (by decide) iX11 tyX11_ok nmX11 rfl rfl rfl (Nat.le_of_ble_eq_true rfl) lk_X11_19 e36 (congrArg (fun z => (Sum.inr (10, rD k (g29 c0 0 0 0) :: .int (g29 c0 0 0 1) :: .int (g29 c0 0 0 2) :: .int (g29 c0 0 0 3) :: .int (g29 c0 0 0 4) :: rD k (g29 c0 0 0 5) :: rD k (g29 c0 0 0 6) :: z :: .int (g29 c0 0 0 8) :: rD k (g29 c0 0 0 9) :: rD k (g29 c0 0 0 10) :: .int (g29 c0 0 0 11) :: .int (g29 c0 0 0 12) :: .int (g29 c0 0 0 13) :: rD k (g29 c0 0 0 14) :: rD k (g29 c0 0 0 15) :: rD k (g29 c0 0 0 16) :: rD k (g29 c0 0 0 17) :: rD k (g29 c0 0 0 18) :: rD k (g29 c0 0 0 19) :: rD k (g29 c0 0 0 20) :: rD k (g29 c0 0 0 21) :: rD k (g29 c0 0 0 22) :: rD k (g29 c0 0 0 23) :: rD k (g29 c0 0 0 24) :: .int (g29 c0 0 0 25) :: .int (g29 c0 0 0 26) :: .int (g29 c0 0 0 27) :: .int (g29 c0 0 0 28) :: rD k (g29 c0 0 0 29) :: rD k (g29 c0 0 0 30) :: .int (g29 c0 0 0 31) :: .int (g29 c0 0 0 32) :: .int (g29 c0 0 0 33) :: rD k (g29 c0 0 0 34) :: rD k (g29 c0 0 0 35) :: rD k (g29 c0 0 0 36) :: []) : va_E)) (rD_set k hb748)) dX11_init_34 (fun H locs h => ?_)
  refine lv_aload_n X.x X.b dX11_init_37 rfl (lv_at hl 0 rfl) ?_
  refine lv_bipush (v := 12) X.x X.b dX11_init_38 (by decide) ?_
  obtain ⟨⟨hk41, ha42a, ha42b, ha42c⟩, hf⟩ := wGd_s hf
  obtain ⟨n37, e39, hf⟩ := wLe_s hf
  obtain ⟨g38, e40, hf⟩ := wLe_s hf
  have hc746 : 5 + n0 = n37 := by omega
  have hz747 : 642 + slR n0 = slR n37 := by rw [e39]; omega
  refine rd_newa (cells' := 5) (slots' := 642) (t := 5) (N := 12) X h hk41 (fun _ => rfl) (by decide) (by decide) (by decide) arr_int rfl rfl ⟨by show 5 ≤ 22; omega, by show 642 ≤ 3217; omega⟩ dX11_init_40 (fun H h => ?_)
  have hc := hc746
  have hz := hz747
  rw [← e39, ← e40] at h
  obtain ⟨ha43, hf⟩ := wGd_s hf
  obtain ⟨hb745, hf⟩ := wGd_s hf
  obtain ⟨g44, e45, hf⟩ := wLe_s hf
  refine rd_put (t := 0) (ci := 10) (j := 9) (C := RX11) (T := TX11) (N := 37) (x := nI (n28 + 1)) (val := .ref (k.1 + n28)) X h ha43 rfl rfl (by decide) iX11 tyX11_ok nmX11 rfl rfl rfl (Nat.le_of_ble_eq_true rfl) lk_X11_22 e45 (congrArg (fun z => (Sum.inr (10, rD k (g38 c0 0 0 0) :: .int (g38 c0 0 0 1) :: .int (g38 c0 0 0 2) :: .int (g38 c0 0 0 3) :: .int (g38 c0 0 0 4) :: rD k (g38 c0 0 0 5) :: rD k (g38 c0 0 0 6) :: rD k (g38 c0 0 0 7) :: .int (g38 c0 0 0 8) :: z :: rD k (g38 c0 0 0 10) :: .int (g38 c0 0 0 11) :: .int (g38 c0 0 0 12) :: .int (g38 c0 0 0 13) :: rD k (g38 c0 0 0 14) :: rD k (g38 c0 0 0 15) :: rD k (g38 c0 0 0 16) :: rD k (g38 c0 0 0 17) :: rD k (g38 c0 0 0 18) :: rD k (g38 c0 0 0 19) :: rD k (g38 c0 0 0 20) :: rD k (g38 c0 0 0 21) :: rD k (g38 c0 0 0 22) :: rD k (g38 c0 0 0 23) :: rD k (g38 c0 0 0 24) :: .int (g38 c0 0 0 25) :: .int (g38 c0 0 0 26) :: .int (g38 c0 0 0 27) :: .int (g38 c0 0 0 28) :: rD k (g38 c0 0 0 29) :: rD k (g38 c0 0 0 30) :: .int (g38 c0 0 0 31) :: .int (g38 c0 0 0 32) :: .int (g38 c0 0 0 33) :: rD k (g38 c0 0 0 34) :: rD k (g38 c0 0 0 35) :: rD k (g38 c0 0 0 36) :: []) : va_E)) (rD_set k hb745)) dX11_init_42 (fun H locs h => ?_)
  refine lv_aload_n X.x X.b dX11_init_45 rfl (lv_at hl 0 rfl) ?_
  refine lv_sipush (v := 160) X.x X.b dX11_init_46 (by decide) ?_
  obtain ⟨⟨hk50, ha51a, ha51b, ha51c⟩, hf⟩ := wGd_s hf
  obtain ⟨n46, e48, hf⟩ := wLe_s hf
  obtain ⟨g47, e49, hf⟩ := wLe_s hf
  have hc743 : 6 + n0 = n46 := by omega
  have hz744 : 802 + slR n0 = slR n46 := by rw [e48]; omega
  refine rd_newa (cells' := 6) (slots' := 802) (t := 6) (N := 160) X h hk50 (fun _ => rfl) (by decide) (by decide) (by decide) arr_int rfl rfl ⟨by show 6 ≤ 22; omega, by show 802 ≤ 3217; omega⟩ dX11_init_49 (fun H h => ?_)
  have hc := hc743
  have hz := hz744
  rw [← e48, ← e49] at h
  obtain ⟨ha52, hf⟩ := wGd_s hf
  obtain ⟨hb742, hf⟩ := wGd_s hf
  obtain ⟨g53, e54, hf⟩ := wLe_s hf
  refine rd_put (t := 0) (ci := 10) (j := 10) (C := RX11) (T := TX11) (N := 37) (x := nI (n37 + 1)) (val := .ref (k.1 + n37)) X h ha52 rfl rfl (by decide) iX11 tyX11_ok nmX11 rfl rfl rfl (Nat.le_of_ble_eq_true rfl) lk_X11_25 e54 (congrArg (fun z => (Sum.inr (10, rD k (g47 c0 0 0 0) :: .int (g47 c0 0 0 1) :: .int (g47 c0 0 0 2) :: .int (g47 c0 0 0 3) :: .int (g47 c0 0 0 4) :: rD k (g47 c0 0 0 5) :: rD k (g47 c0 0 0 6) :: rD k (g47 c0 0 0 7) :: .int (g47 c0 0 0 8) :: rD k (g47 c0 0 0 9) :: z :: .int (g47 c0 0 0 11) :: .int (g47 c0 0 0 12) :: .int (g47 c0 0 0 13) :: rD k (g47 c0 0 0 14) :: rD k (g47 c0 0 0 15) :: rD k (g47 c0 0 0 16) :: rD k (g47 c0 0 0 17) :: rD k (g47 c0 0 0 18) :: rD k (g47 c0 0 0 19) :: rD k (g47 c0 0 0 20) :: rD k (g47 c0 0 0 21) :: rD k (g47 c0 0 0 22) :: rD k (g47 c0 0 0 23) :: rD k (g47 c0 0 0 24) :: .int (g47 c0 0 0 25) :: .int (g47 c0 0 0 26) :: .int (g47 c0 0 0 27) :: .int (g47 c0 0 0 28) :: rD k (g47 c0 0 0 29) :: rD k (g47 c0 0 0 30) :: .int (g47 c0 0 0 31) :: .int (g47 c0 0 0 32) :: .int (g47 c0 0 0 33) :: rD k (g47 c0 0 0 34) :: rD k (g47 c0 0 0 35) :: rD k (g47 c0 0 0 36) :: []) : va_E)) (rD_set k hb742)) dX11_init_51 (fun H locs h => ?_)
  refine lv_aload_n X.x X.b dX11_init_54 rfl (lv_at hl 0 rfl) ?_
  refine lv_sipush (v := 1200) X.x X.b dX11_init_55 (by decide) ?_
  obtain ⟨⟨hk59, ha60a, ha60b, ha60c⟩, hf⟩ := wGd_s hf
  obtain ⟨n55, e57, hf⟩ := wLe_s hf
  obtain ⟨g56, e58, hf⟩ := wLe_s hf
  have hc740 : 7 + n0 = n55 := by omega
  have hz741 : 2002 + slR n0 = slR n55 := by rw [e57]; omega
  refine rd_newa (cells' := 7) (slots' := 2002) (t := 7) (N := 1200) X h hk59 (fun _ => rfl) (by decide) (by decide) (by decide) arr_int rfl rfl ⟨by show 7 ≤ 22; omega, by show 2002 ≤ 3217; omega⟩ dX11_init_58 (fun H h => ?_)
  have hc := hc740
  have hz := hz741
  rw [← e57, ← e58] at h
  obtain ⟨ha61, hf⟩ := wGd_s hf
  obtain ⟨hb739, hf⟩ := wGd_s hf
  obtain ⟨g62, e63, hf⟩ := wLe_s hf
  refine rd_put (t := 0) (ci := 10) (j := 14) (C := RX11) (T := TX11) (N := 37) (x := nI (n46 + 1)) (val := .ref (k.1 + n46)) X h ha61 rfl rfl (by decide) iX11 tyX11_ok nmX11 rfl rfl rfl (Nat.le_of_ble_eq_true rfl) lk_X11_28 e63 (congrArg (fun z => (Sum.inr (10, rD k (g56 c0 0 0 0) :: .int (g56 c0 0 0 1) :: .int (g56 c0 0 0 2) :: .int (g56 c0 0 0 3) :: .int (g56 c0 0 0 4) :: rD k (g56 c0 0 0 5) :: rD k (g56 c0 0 0 6) :: rD k (g56 c0 0 0 7) :: .int (g56 c0 0 0 8) :: rD k (g56 c0 0 0 9) :: rD k (g56 c0 0 0 10) :: .int (g56 c0 0 0 11) :: .int (g56 c0 0 0 12) :: .int (g56 c0 0 0 13) :: z :: rD k (g56 c0 0 0 15) :: rD k (g56 c0 0 0 16) :: rD k (g56 c0 0 0 17) :: rD k (g56 c0 0 0 18) :: rD k (g56 c0 0 0 19) :: rD k (g56 c0 0 0 20) :: rD k (g56 c0 0 0 21) :: rD k (g56 c0 0 0 22) :: rD k (g56 c0 0 0 23) :: rD k (g56 c0 0 0 24) :: .int (g56 c0 0 0 25) :: .int (g56 c0 0 0 26) :: .int (g56 c0 0 0 27) :: .int (g56 c0 0 0 28) :: rD k (g56 c0 0 0 29) :: rD k (g56 c0 0 0 30) :: .int (g56 c0 0 0 31) :: .int (g56 c0 0 0 32) :: .int (g56 c0 0 0 33) :: rD k (g56 c0 0 0 34) :: rD k (g56 c0 0 0 35) :: rD k (g56 c0 0 0 36) :: []) : va_E)) (rD_set k hb739)) dX11_init_60 (fun H locs h => ?_)
  exact wX11_init_s63 X hc hz h (lv_sub hl [0] rfl) hf JR
end WK
