theorem dX100_isLatin1_0 : decode cX100_isLatin1 0 = .ok (.getstatic 38, 3) := by decide +kernel
theorem dX100_isLatin1_3 : decode cX100_isLatin1 3 = .ok (.ifCond .eq 14, 3) := by decide +kernel
theorem dX100_isLatin1_6 : decode cX100_isLatin1 6 = .ok (.aload_n 0, 1) := by decide +kernel
theorem dX100_isLatin1_7 : decode cX100_isLatin1 7 = .ok (.getfield 15, 3) := by decide +kernel
theorem dX100_isLatin1_10 : decode cX100_isLatin1 10 = .ok (.ifCond .ne 7, 3) := by decide +kernel
theorem dX100_isLatin1_13 : decode cX100_isLatin1 13 = .ok (.iconst 1, 1) := by decide +kernel
theorem dX100_isLatin1_14 : decode cX100_isLatin1 14 = .ok (.goto 4, 3) := by decide +kernel
theorem dX100_isLatin1_17 : decode cX100_isLatin1 17 = .ok (.iconst 0, 1) := by decide +kernel
theorem dX100_isLatin1_18 : decode cX100_isLatin1 18 = .ok (.ireturn, 1) := by decide +kernel
theorem dX102_checkIndex_0 : decode cX102_checkIndex 0 = .ok (.iload_n 0, 1) := by decide +kernel
theorem dX102_checkIndex_1 : decode cX102_checkIndex 1 = .ok (.ifCond .lt 8, 3) := by decide +kernel
theorem dX102_checkIndex_4 : decode cX102_checkIndex 4 = .ok (.iload_n 0, 1) := by decide +kernel
theorem dX102_checkIndex_5 : decode cX102_checkIndex 5 = .ok (.iload_n 1, 1) := by decide +kernel
theorem dX102_checkIndex_6 : decode cX102_checkIndex 6 = .ok (.if_icmp .lt 10, 3) := by decide +kernel
theorem dX102_checkIndex_9 : decode cX102_checkIndex 9 = .ok (.aload_n 2, 1) := by decide +kernel
theorem dX102_checkIndex_10 : decode cX102_checkIndex 10 = .ok (.iload_n 0, 1) := by decide +kernel
theorem dX102_checkIndex_11 : decode cX102_checkIndex 11 = .ok (.iload_n 1, 1) := by decide +kernel
theorem dX102_checkIndex_12 : decode cX102_checkIndex 12 = .ok (.invokestatic 95, 3) := by decide +kernel
theorem dX102_checkIndex_15 : decode cX102_checkIndex 15 = .ok (.athrow, 1) := by decide +kernel
theorem dX102_checkIndex_16 : decode cX102_checkIndex 16 = .ok (.iload_n 0, 1) := by decide +kernel
theorem dX102_checkIndex_17 : decode cX102_checkIndex 17 = .ok (.ireturn, 1) := by decide +kernel
theorem dX100_checkIndex_0 : decode cX100_checkIndex 0 = .ok (.iload_n 0, 1) := by decide +kernel
theorem dX100_checkIndex_1 : decode cX100_checkIndex 1 = .ok (.iload_n 1, 1) := by decide +kernel
theorem dX100_checkIndex_2 : decode cX100_checkIndex 2 = .ok (.getstatic 1053, 3) := by decide +kernel
theorem dX100_checkIndex_5 : decode cX100_checkIndex 5 = .ok (.invokestatic 1059, 3) := by decide +kernel
theorem dX100_checkIndex_8 : decode cX100_checkIndex 8 = .ok (.pop, 1) := by decide +kernel
theorem dX100_checkIndex_9 : decode cX100_checkIndex 9 = .ok (.return_, 1) := by decide +kernel
theorem dX101_charAt_0 : decode cX101_charAt 0 = .ok (.iload_n 1, 1) := by decide +kernel
theorem dX101_charAt_1 : decode cX101_charAt 1 = .ok (.aload_n 0, 1) := by decide +kernel
theorem dX101_charAt_2 : decode cX101_charAt 2 = .ok (.arraylength, 1) := by decide +kernel
theorem dX101_charAt_3 : decode cX101_charAt 3 = .ok (.invokestatic 9, 3) := by decide +kernel
theorem dX101_charAt_6 : decode cX101_charAt 6 = .ok (.aload_n 0, 1) := by decide +kernel
theorem dX101_charAt_7 : decode cX101_charAt 7 = .ok (.iload_n 1, 1) := by decide +kernel
theorem dX101_charAt_8 : decode cX101_charAt 8 = .ok (.baload, 1) := by decide +kernel
theorem dX101_charAt_9 : decode cX101_charAt 9 = .ok (.sipush 255, 3) := by decide +kernel
theorem dX101_charAt_12 : decode cX101_charAt 12 = .ok (.iand, 1) := by decide +kernel
theorem dX101_charAt_13 : decode cX101_charAt 13 = .ok (.i2c, 1) := by decide +kernel
theorem dX101_charAt_14 : decode cX101_charAt 14 = .ok (.ireturn, 1) := by decide +kernel
theorem dX100_charAt_0 : decode cX100_charAt 0 = .ok (.aload_n 0, 1) := by decide +kernel
theorem dX100_charAt_1 : decode cX100_charAt 1 = .ok (.invokevirtual 492, 3) := by decide +kernel
theorem dX100_charAt_4 : decode cX100_charAt 4 = .ok (.ifCond .eq 12, 3) := by decide +kernel
theorem dX100_charAt_7 : decode cX100_charAt 7 = .ok (.aload_n 0, 1) := by decide +kernel
theorem dX100_charAt_8 : decode cX100_charAt 8 = .ok (.getfield 9, 3) := by decide +kernel
theorem dX100_charAt_11 : decode cX100_charAt 11 = .ok (.iload_n 1, 1) := by decide +kernel
theorem dX100_charAt_12 : decode cX100_charAt 12 = .ok (.invokestatic 495, 3) := by decide +kernel
theorem dX100_charAt_15 : decode cX100_charAt 15 = .ok (.ireturn, 1) := by decide +kernel
theorem dX100_charAt_16 : decode cX100_charAt 16 = .ok (.aload_n 0, 1) := by decide +kernel
theorem dX100_charAt_17 : decode cX100_charAt 17 = .ok (.getfield 9, 3) := by decide +kernel
theorem dX100_charAt_20 : decode cX100_charAt 20 = .ok (.iload_n 1, 1) := by decide +kernel
theorem dX100_charAt_21 : decode cX100_charAt 21 = .ok (.invokestatic 498, 3) := by decide +kernel
theorem dX100_charAt_24 : decode cX100_charAt 24 = .ok (.ireturn, 1) := by decide +kernel
theorem dX100_coder_0 : decode cX100_coder 0 = .ok (.getstatic 38, 3) := by decide +kernel
theorem dX100_coder_3 : decode cX100_coder 3 = .ok (.ifCond .eq 10, 3) := by decide +kernel
theorem dX100_coder_6 : decode cX100_coder 6 = .ok (.aload_n 0, 1) := by decide +kernel
theorem dX100_coder_7 : decode cX100_coder 7 = .ok (.getfield 15, 3) := by decide +kernel
theorem dX100_coder_10 : decode cX100_coder 10 = .ok (.goto 4, 3) := by decide +kernel
theorem dX100_coder_13 : decode cX100_coder 13 = .ok (.iconst 1, 1) := by decide +kernel
theorem dX100_coder_14 : decode cX100_coder 14 = .ok (.ireturn, 1) := by decide +kernel
theorem dX100_length_0 : decode cX100_length 0 = .ok (.aload_n 0, 1) := by decide +kernel
theorem dX100_length_1 : decode cX100_length 1 = .ok (.getfield 9, 3) := by decide +kernel
theorem dX100_length_4 : decode cX100_length 4 = .ok (.arraylength, 1) := by decide +kernel
theorem dX100_length_5 : decode cX100_length 5 = .ok (.aload_n 0, 1) := by decide +kernel
theorem dX100_length_6 : decode cX100_length 6 = .ok (.invokevirtual 335, 3) := by decide +kernel
theorem dX100_length_9 : decode cX100_length 9 = .ok (.ishr, 1) := by decide +kernel
theorem dX100_length_10 : decode cX100_length 10 = .ok (.ireturn, 1) := by decide +kernel
theorem dX101_canEncode_0 : decode cX101_canEncode 0 = .ok (.iload_n 0, 1) := by decide +kernel
theorem dX101_canEncode_1 : decode cX101_canEncode 1 = .ok (.ifCond .lt 14, 3) := by decide +kernel
theorem dX101_canEncode_4 : decode cX101_canEncode 4 = .ok (.iload_n 0, 1) := by decide +kernel
theorem dX101_canEncode_5 : decode cX101_canEncode 5 = .ok (.sipush 255, 3) := by decide +kernel
theorem dX101_canEncode_8 : decode cX101_canEncode 8 = .ok (.if_icmp .gt 7, 3) := by decide +kernel
theorem dX101_canEncode_11 : decode cX101_canEncode 11 = .ok (.iconst 1, 1) := by decide +kernel
theorem dX101_canEncode_12 : decode cX101_canEncode 12 = .ok (.goto 4, 3) := by decide +kernel
theorem dX101_canEncode_15 : decode cX101_canEncode 15 = .ok (.iconst 0, 1) := by decide +kernel
theorem dX101_canEncode_16 : decode cX101_canEncode 16 = .ok (.ireturn, 1) := by decide +kernel
theorem dX101_indexOfChar_0 : decode cX101_indexOfChar 0 = .ok (.iload_n 1, 1) := by decide +kernel
theorem dX101_indexOfChar_1 : decode cX101_indexOfChar 1 = .ok (.i2b, 1) := by decide +kernel
theorem dX101_indexOfChar_2 : decode cX101_indexOfChar 2 = .ok (.istore 4, 2) := by decide +kernel
theorem dX101_indexOfChar_4 : decode cX101_indexOfChar 4 = .ok (.iload_n 2, 1) := by decide +kernel
theorem dX101_indexOfChar_5 : decode cX101_indexOfChar 5 = .ok (.istore 5, 2) := by decide +kernel
theorem dX101_indexOfChar_7 : decode cX101_indexOfChar 7 = .ok (.iload 5, 2) := by decide +kernel
theorem dX101_indexOfChar_9 : decode cX101_indexOfChar 9 = .ok (.iload_n 3, 1) := by decide +kernel
theorem dX101_indexOfChar_10 : decode cX101_indexOfChar 10 = .ok (.if_icmp .ge 21, 3) := by decide +kernel
theorem dX101_indexOfChar_13 : decode cX101_indexOfChar 13 = .ok (.aload_n 0, 1) := by decide +kernel
theorem dX101_indexOfChar_14 : decode cX101_indexOfChar 14 = .ok (.iload 5, 2) := by decide +kernel
theorem dX101_indexOfChar_16 : decode cX101_indexOfChar 16 = .ok (.baload, 1) := by decide +kernel
theorem dX101_indexOfChar_17 : decode cX101_indexOfChar 17 = .ok (.iload 4, 2) := by decide +kernel
theorem dX101_indexOfChar_19 : decode cX101_indexOfChar 19 = .ok (.if_icmp .ne 6, 3) := by decide +kernel
theorem dX101_indexOfChar_22 : decode cX101_indexOfChar 22 = .ok (.iload 5, 2) := by decide +kernel
theorem dX101_indexOfChar_24 : decode cX101_indexOfChar 24 = .ok (.ireturn, 1) := by decide +kernel
theorem dX101_indexOfChar_25 : decode cX101_indexOfChar 25 = .ok (.iinc 5 1, 3) := by decide +kernel
theorem dX101_indexOfChar_28 : decode cX101_indexOfChar 28 = .ok (.goto (-21), 3) := by decide +kernel
theorem dX101_indexOfChar_31 : decode cX101_indexOfChar 31 = .ok (.iconst (-1), 1) := by decide +kernel
theorem dX101_indexOfChar_32 : decode cX101_indexOfChar 32 = .ok (.ireturn, 1) := by decide +kernel
theorem dX101_indexOf_0 : decode cX101_indexOf 0 = .ok (.iload_n 1, 1) := by decide +kernel
theorem dX101_indexOf_1 : decode cX101_indexOf 1 = .ok (.invokestatic 88, 3) := by decide +kernel
theorem dX101_indexOf_4 : decode cX101_indexOf 4 = .ok (.ifCond .ne 5, 3) := by decide +kernel
theorem dX101_indexOf_7 : decode cX101_indexOf 7 = .ok (.iconst (-1), 1) := by decide +kernel
theorem dX101_indexOf_8 : decode cX101_indexOf 8 = .ok (.ireturn, 1) := by decide +kernel
theorem dX101_indexOf_9 : decode cX101_indexOf 9 = .ok (.iload_n 2, 1) := by decide +kernel
theorem dX101_indexOf_10 : decode cX101_indexOf 10 = .ok (.iconst 0, 1) := by decide +kernel
theorem dX101_indexOf_11 : decode cX101_indexOf 11 = .ok (.invokestatic 92, 3) := by decide +kernel
theorem dX101_indexOf_14 : decode cX101_indexOf 14 = .ok (.istore_n 2, 1) := by decide +kernel
theorem dX101_indexOf_15 : decode cX101_indexOf 15 = .ok (.iload_n 3, 1) := by decide +kernel
theorem dX101_indexOf_16 : decode cX101_indexOf 16 = .ok (.aload_n 0, 1) := by decide +kernel
theorem dX101_indexOf_17 : decode cX101_indexOf 17 = .ok (.arraylength, 1) := by decide +kernel
theorem dX101_indexOf_18 : decode cX101_indexOf 18 = .ok (.invokestatic 38, 3) := by decide +kernel
theorem dX101_indexOf_21 : decode cX101_indexOf 21 = .ok (.istore_n 3, 1) := by decide +kernel
theorem dX101_indexOf_22 : decode cX101_indexOf 22 = .ok (.iload_n 2, 1) := by decide +kernel
theorem dX101_indexOf_23 : decode cX101_indexOf 23 = .ok (.iload_n 3, 1) := by decide +kernel
theorem dX101_indexOf_24 : decode cX101_indexOf 24 = .ok (.if_icmp .lt 5, 3) := by decide +kernel
theorem dX101_indexOf_27 : decode cX101_indexOf 27 = .ok (.iconst (-1), 1) := by decide +kernel
theorem dX101_indexOf_28 : decode cX101_indexOf 28 = .ok (.ireturn, 1) := by decide +kernel
theorem dX101_indexOf_29 : decode cX101_indexOf 29 = .ok (.aload_n 0, 1) := by decide +kernel
theorem dX101_indexOf_30 : decode cX101_indexOf 30 = .ok (.iload_n 1, 1) := by decide +kernel
theorem dX101_indexOf_31 : decode cX101_indexOf 31 = .ok (.iload_n 2, 1) := by decide +kernel
theorem dX101_indexOf_32 : decode cX101_indexOf 32 = .ok (.iload_n 3, 1) := by decide +kernel
theorem dX101_indexOf_33 : decode cX101_indexOf 33 = .ok (.invokestatic 95, 3) := by decide +kernel
theorem dX101_indexOf_36 : decode cX101_indexOf 36 = .ok (.ireturn, 1) := by decide +kernel
theorem dX100_indexOf2_0 : decode cX100_indexOf2 0 = .ok (.aload_n 0, 1) := by decide +kernel
theorem dX100_indexOf2_1 : decode cX100_indexOf2 1 = .ok (.invokevirtual 492, 3) := by decide +kernel
theorem dX100_indexOf2_4 : decode cX100_indexOf2 4 = .ok (.ifCond .eq 19, 3) := by decide +kernel
theorem dX100_indexOf2_7 : decode cX100_indexOf2 7 = .ok (.aload_n 0, 1) := by decide +kernel
theorem dX100_indexOf2_8 : decode cX100_indexOf2 8 = .ok (.getfield 9, 3) := by decide +kernel
theorem dX100_indexOf2_11 : decode cX100_indexOf2 11 = .ok (.iload_n 1, 1) := by decide +kernel
theorem dX100_indexOf2_12 : decode cX100_indexOf2 12 = .ok (.iload_n 2, 1) := by decide +kernel
theorem dX100_indexOf2_13 : decode cX100_indexOf2 13 = .ok (.aload_n 0, 1) := by decide +kernel
theorem dX100_indexOf2_14 : decode cX100_indexOf2 14 = .ok (.invokevirtual 505, 3) := by decide +kernel
theorem dX100_indexOf2_17 : decode cX100_indexOf2 17 = .ok (.invokestatic 637, 3) := by decide +kernel
theorem dX100_indexOf2_20 : decode cX100_indexOf2 20 = .ok (.goto 16, 3) := by decide +kernel
theorem dX100_indexOf2_23 : decode cX100_indexOf2 23 = .ok (.aload_n 0, 1) := by decide +kernel
theorem dX100_indexOf2_24 : decode cX100_indexOf2 24 = .ok (.getfield 9, 3) := by decide +kernel
theorem dX100_indexOf2_27 : decode cX100_indexOf2 27 = .ok (.iload_n 1, 1) := by decide +kernel
theorem dX100_indexOf2_28 : decode cX100_indexOf2 28 = .ok (.iload_n 2, 1) := by decide +kernel
theorem dX100_indexOf2_29 : decode cX100_indexOf2 29 = .ok (.aload_n 0, 1) := by decide +kernel
theorem dX100_indexOf2_30 : decode cX100_indexOf2 30 = .ok (.invokevirtual 505, 3) := by decide +kernel
theorem dX100_indexOf2_33 : decode cX100_indexOf2 33 = .ok (.invokestatic 640, 3) := by decide +kernel
theorem dX100_indexOf2_36 : decode cX100_indexOf2 36 = .ok (.ireturn, 1) := by decide +kernel
theorem dX100_indexOf_0 : decode cX100_indexOf 0 = .ok (.aload_n 0, 1) := by decide +kernel
theorem dX100_indexOf_1 : decode cX100_indexOf 1 = .ok (.iload_n 1, 1) := by decide +kernel
theorem dX100_indexOf_2 : decode cX100_indexOf 2 = .ok (.iconst 0, 1) := by decide +kernel
theorem dX100_indexOf_3 : decode cX100_indexOf 3 = .ok (.invokevirtual 633, 3) := by decide +kernel
theorem dX100_indexOf_6 : decode cX100_indexOf 6 = .ok (.ireturn, 1) := by decide +kernel
theorem dX103_bitCount_0 : decode cX103_bitCount 0 = .ok (.iload_n 0, 1) := by decide +kernel
theorem dX103_bitCount_1 : decode cX103_bitCount 1 = .ok (.iload_n 0, 1) := by decide +kernel
theorem dX103_bitCount_2 : decode cX103_bitCount 2 = .ok (.iconst 1, 1) := by decide +kernel
theorem dX103_bitCount_3 : decode cX103_bitCount 3 = .ok (.iushr, 1) := by decide +kernel
theorem dX103_bitCount_4 : decode cX103_bitCount 4 = .ok (.ldc_w 265, 3) := by decide +kernel
theorem dX103_bitCount_7 : decode cX103_bitCount 7 = .ok (.iand, 1) := by decide +kernel
theorem dX103_bitCount_8 : decode cX103_bitCount 8 = .ok (.isub, 1) := by decide +kernel
theorem dX103_bitCount_9 : decode cX103_bitCount 9 = .ok (.istore_n 0, 1) := by decide +kernel
theorem dX103_bitCount_10 : decode cX103_bitCount 10 = .ok (.iload_n 0, 1) := by decide +kernel
theorem dX103_bitCount_11 : decode cX103_bitCount 11 = .ok (.ldc_w 266, 3) := by decide +kernel
theorem dX103_bitCount_14 : decode cX103_bitCount 14 = .ok (.iand, 1) := by decide +kernel
theorem dX103_bitCount_15 : decode cX103_bitCount 15 = .ok (.iload_n 0, 1) := by decide +kernel
theorem dX103_bitCount_16 : decode cX103_bitCount 16 = .ok (.iconst 2, 1) := by decide +kernel
theorem dX103_bitCount_17 : decode cX103_bitCount 17 = .ok (.iushr, 1) := by decide +kernel
theorem dX103_bitCount_18 : decode cX103_bitCount 18 = .ok (.ldc_w 266, 3) := by decide +kernel
theorem dX103_bitCount_21 : decode cX103_bitCount 21 = .ok (.iand, 1) := by decide +kernel
theorem dX103_bitCount_22 : decode cX103_bitCount 22 = .ok (.iadd, 1) := by decide +kernel
theorem dX103_bitCount_23 : decode cX103_bitCount 23 = .ok (.istore_n 0, 1) := by decide +kernel
theorem dX103_bitCount_24 : decode cX103_bitCount 24 = .ok (.iload_n 0, 1) := by decide +kernel
theorem dX103_bitCount_25 : decode cX103_bitCount 25 = .ok (.iload_n 0, 1) := by decide +kernel
theorem dX103_bitCount_26 : decode cX103_bitCount 26 = .ok (.iconst 4, 1) := by decide +kernel
theorem dX103_bitCount_27 : decode cX103_bitCount 27 = .ok (.iushr, 1) := by decide +kernel
theorem dX103_bitCount_28 : decode cX103_bitCount 28 = .ok (.iadd, 1) := by decide +kernel
theorem dX103_bitCount_29 : decode cX103_bitCount 29 = .ok (.ldc_w 267, 3) := by decide +kernel
theorem dX103_bitCount_32 : decode cX103_bitCount 32 = .ok (.iand, 1) := by decide +kernel
theorem dX103_bitCount_33 : decode cX103_bitCount 33 = .ok (.istore_n 0, 1) := by decide +kernel
theorem dX103_bitCount_34 : decode cX103_bitCount 34 = .ok (.iload_n 0, 1) := by decide +kernel
theorem dX103_bitCount_35 : decode cX103_bitCount 35 = .ok (.iload_n 0, 1) := by decide +kernel
theorem dX103_bitCount_36 : decode cX103_bitCount 36 = .ok (.bipush 8, 2) := by decide +kernel
theorem dX103_bitCount_38 : decode cX103_bitCount 38 = .ok (.iushr, 1) := by decide +kernel
theorem dX103_bitCount_39 : decode cX103_bitCount 39 = .ok (.iadd, 1) := by decide +kernel
theorem dX103_bitCount_40 : decode cX103_bitCount 40 = .ok (.istore_n 0, 1) := by decide +kernel
theorem dX103_bitCount_41 : decode cX103_bitCount 41 = .ok (.iload_n 0, 1) := by decide +kernel
theorem dX103_bitCount_42 : decode cX103_bitCount 42 = .ok (.iload_n 0, 1) := by decide +kernel
theorem dX103_bitCount_43 : decode cX103_bitCount 43 = .ok (.bipush 16, 2) := by decide +kernel
theorem dX103_bitCount_45 : decode cX103_bitCount 45 = .ok (.iushr, 1) := by decide +kernel
theorem dX103_bitCount_46 : decode cX103_bitCount 46 = .ok (.iadd, 1) := by decide +kernel
theorem dX103_bitCount_47 : decode cX103_bitCount 47 = .ok (.istore_n 0, 1) := by decide +kernel
theorem dX103_bitCount_48 : decode cX103_bitCount 48 = .ok (.iload_n 0, 1) := by decide +kernel
theorem dX103_bitCount_49 : decode cX103_bitCount 49 = .ok (.bipush 63, 2) := by decide +kernel
theorem dX103_bitCount_51 : decode cX103_bitCount 51 = .ok (.iand, 1) := by decide +kernel
theorem dX103_bitCount_52 : decode cX103_bitCount 52 = .ok (.ireturn, 1) := by decide +kernel
section WK
variable {p : Program} {l : Launch} {e : Env} {s : State} {m : MethodId} {args : Array Value} {below : List Frame} {meth : Method} {c : Code}
set_option maxHeartbeats 4000000 in
set_option maxRecDepth 20000 in
theorem kX100_isLatin1 (l : Launch) {Y : Ly} {k : En} {S : Nat → Prop} (hS : True) {g0 : Mm} {sq : Nat} (hq : sq < 3) {res : Int32} (hf : fX100_isLatin1 sq = some res) : Mt l yX100_isLatin1 cX100_isLatin1 1 (some .boolean) (RmN 0 0) Y S k [.ref (k.2.2.2.2.1 sq)] g0 (some (.int res)) g0 := by
  refine Mt.of (by decide) (Nat.le_of_ble_eq_true rfl) ?_
  intro p e s m args below meth c ls X _ h hl
  have X : Cx Y S k p s m args meth c cX100_isLatin1 1 (some .boolean) RX100 := X
  have hl : lv_has ls 1 [(0, .ref (k.2.2.2.2.1 sq))] := hl
  have JR : res = res := rfl
  unfold fX100_isLatin1 at hf
  refine ro_csf X h lk_X100_38 dX100_isLatin1_0 ?_
  refine lv_if_eq (tgt := 17) X.x X.b dX100_isLatin1_3 (by decide) (fun c1 => ?_) (fun c1 => ?_)
  · have hf := wT c1 hf
    refine lv_iconst (v := 0) X.x X.b dX100_isLatin1_17 (by decide) ?_
    cases (Option.some.inj hf).trans JR
    exact ro_zret X h (Or.inl rfl) dX100_isLatin1_18
  · have hf := wF c1 hf
    refine lv_aload_n X.x X.b dX100_isLatin1_6 rfl (lv_at hl 0 rfl) ?_
    refine ro_scod X h hq lk_X100_15 dX100_isLatin1_7 ?_
    refine lv_if_ne (tgt := 17) X.x X.b dX100_isLatin1_10 (by decide) (fun c2 => ?_) (fun c2 => ?_)
    · have hf := wF c2 hf
      refine lv_iconst (v := 0) X.x X.b dX100_isLatin1_17 (by decide) ?_
      cases (Option.some.inj hf).trans JR
      exact ro_zret X h (Or.inl rfl) dX100_isLatin1_18
    · have hf := wT c2 hf
      refine lv_iconst (v := 1) X.x X.b dX100_isLatin1_13 (by decide) ?_
      refine lv_goto (tgt := 18) X.x X.b dX100_isLatin1_14 (by decide) ?_
      cases (Option.some.inj hf).trans JR
      exact ro_zret X h (Or.inr rfl) dX100_isLatin1_18
set_option maxHeartbeats 4000000 in
set_option maxRecDepth 20000 in
theorem kX102_checkIndex (l : Launch) {Y : Ly} {k : En} {S : Nat → Prop} (hS : True) {op : Nat} {g0 : Mm} {a0 : Int32} {a1 : Int32} {res : Int32} (hf : fX102_checkIndex a0 a1 = some res) : Mt l yX102_checkIndex cX102_checkIndex 3 (some .int) (RmN 0 0) Y S k [.int a0, .int a1, .ref op] g0 (some (.int res)) g0 := by
  refine Mt.of (by decide) (Nat.le_of_ble_eq_true rfl) ?_
  intro p e s m args below meth c ls X _ h hl
  have X : Cx Y S k p s m args meth c cX102_checkIndex 3 (some .int) RX102 := X
  have hl : lv_has ls 3 [(0, .int a0), (1, .int a1), (2, .ref op)] := hl
  have JR : res = res := rfl
  unfold fX102_checkIndex at hf
  refine lv_iload_n X.x X.b dX102_checkIndex_0 rfl (lv_at hl 0 rfl) ?_
  refine lv_if_lt (tgt := 9) X.x X.b dX102_checkIndex_1 (by decide) (fun c1 => ?_) (fun c1 => ?_)
  · have hf := wT c1 hf
    refine lv_aload_n X.x X.b dX102_checkIndex_9 rfl (lv_at hl 2 rfl) ?_
    refine lv_iload_n X.x X.b dX102_checkIndex_10 rfl (lv_at hl 0 rfl) ?_
    refine lv_iload_n X.x X.b dX102_checkIndex_11 rfl (lv_at hl 1 rfl) ?_
    cases hf
  · have hf := wF c1 hf
    refine lv_iload_n X.x X.b dX102_checkIndex_4 rfl (lv_at hl 0 rfl) ?_
    refine lv_iload_n X.x X.b dX102_checkIndex_5 rfl (lv_at hl 1 rfl) ?_
    refine lv_icmp_lt (tgt := 16) X.x X.b dX102_checkIndex_6 (by decide) (fun c2 => ?_) (fun c2 => ?_)
    · have hf := wT c2 hf
      refine lv_iload_n X.x X.b dX102_checkIndex_16 rfl (lv_at hl 0 rfl) ?_
      cases (Option.some.inj hf).trans JR
      exact ro_iret X h dX102_checkIndex_17
    · have hf := wF c2 hf
      refine lv_aload_n X.x X.b dX102_checkIndex_9 rfl (lv_at hl 2 rfl) ?_
      refine lv_iload_n X.x X.b dX102_checkIndex_10 rfl (lv_at hl 0 rfl) ?_
      refine lv_iload_n X.x X.b dX102_checkIndex_11 rfl (lv_at hl 1 rfl) ?_
      cases hf
set_option maxHeartbeats 4000000 in
set_option maxRecDepth 20000 in
theorem kX102_checkIndexN (l : Launch) {Y : Ly} {k : En} {S : Nat → Prop} (hS : True) {g0 : Mm} {a0 : Int32} {a1 : Int32} {res : Int32} (hf : fX102_checkIndex a0 a1 = some res) : Mt l yX102_checkIndex cX102_checkIndex 3 (some .int) (RmN 0 0) Y S k [.int a0, .int a1, .null] g0 (some (.int res)) g0 := by
  refine Mt.of (by decide) (Nat.le_of_ble_eq_true rfl) ?_
  intro p e s m args below meth c ls X _ h hl
  have X : Cx Y S k p s m args meth c cX102_checkIndex 3 (some .int) RX102 := X
  have hl : lv_has ls 3 [(0, .int a0), (1, .int a1), (2, .null)] := hl
  have JR : res = res := rfl
  unfold fX102_checkIndex at hf
  refine lv_iload_n X.x X.b dX102_checkIndex_0 rfl (lv_at hl 0 rfl) ?_
  refine lv_if_lt (tgt := 9) X.x X.b dX102_checkIndex_1 (by decide) (fun c1 => ?_) (fun c1 => ?_)
  · have hf := wT c1 hf
    refine lv_aload_nN X.x X.b dX102_checkIndex_9 rfl (lv_at hl 2 rfl) ?_
    refine lv_iload_n X.x X.b dX102_checkIndex_10 rfl (lv_at hl 0 rfl) ?_
    refine lv_iload_n X.x X.b dX102_checkIndex_11 rfl (lv_at hl 1 rfl) ?_
    cases hf
  · have hf := wF c1 hf
    refine lv_iload_n X.x X.b dX102_checkIndex_4 rfl (lv_at hl 0 rfl) ?_
    refine lv_iload_n X.x X.b dX102_checkIndex_5 rfl (lv_at hl 1 rfl) ?_
    refine lv_icmp_lt (tgt := 16) X.x X.b dX102_checkIndex_6 (by decide) (fun c2 => ?_) (fun c2 => ?_)
    · have hf := wT c2 hf
      refine lv_iload_n X.x X.b dX102_checkIndex_16 rfl (lv_at hl 0 rfl) ?_
      cases (Option.some.inj hf).trans JR
      exact ro_iret X h dX102_checkIndex_17
    · have hf := wF c2 hf
      refine lv_aload_nN X.x X.b dX102_checkIndex_9 rfl (lv_at hl 2 rfl) ?_
      refine lv_iload_n X.x X.b dX102_checkIndex_10 rfl (lv_at hl 0 rfl) ?_
      refine lv_iload_n X.x X.b dX102_checkIndex_11 rfl (lv_at hl 1 rfl) ?_
      cases hf
set_option maxHeartbeats 4000000 in
set_option maxRecDepth 20000 in
theorem kX100_checkIndex (l : Launch) {Y : Ly} {k : En} {S : Nat → Prop} (hS : True) {g0 : Mm} {a0 : Int32} {a1 : Int32} {res : Unit} (hf : fX100_checkIndex a0 a1 = some res) : Mt l yX100_checkIndex cX100_checkIndex 2 none (RmN 1 22) Y S k [.int a0, .int a1] g0 none g0 := by
  refine Mt.of (by decide) (Nat.le_of_ble_eq_true rfl) ?_
  intro p e s m args below meth c ls X _ h hl
  have X : Cx Y S k p s m args meth c cX100_checkIndex 2 none RX100 := X
  have hl : lv_has ls 2 [(0, .int a0), (1, .int a1)] := hl
  have JR : res = res := rfl
  unfold fX100_checkIndex at hf
  refine lv_iload_n X.x X.b dX100_checkIndex_0 rfl (lv_at hl 0 rfl) ?_
  refine lv_iload_n X.x X.b dX100_checkIndex_1 rfl (lv_at hl 1 rfl) ?_
  rcases X.2.2.1.2.2.2.2 with hz1 | ⟨op, hz1⟩
  · refine va_gets X.x X.b hz1 h.2.1 X.o (X.t _ lk_X100_1053) (fun _ z => z) dX100_checkIndex_2 ?_
    obtain ⟨y3, e2, hf⟩ := wBd_s hf
    refine ro_callsI (As := [.int a0, .int a1, .null]) (g1 := g0) (x := y3) X h (kX102_checkIndexN l trivial e2) mv_X102_checkIndex lk_X100_1059 ⟨rfl, rfl⟩ ⟨(Nat.le_of_ble_eq_true rfl), (Nat.le_of_ble_eq_true rfl)⟩ rfl hl rfl (Nat.le_of_ble_eq_true rfl) ⟨Nat.zero_le _, Nat.zero_le _⟩ dX100_checkIndex_5 (fun H locs h => ?_)
    refine lv_pop X.x X.b dX100_checkIndex_8 rfl ?_
    cases (Option.some.inj hf).trans JR
    exact ro_vret X h dX100_checkIndex_9
  · refine va_gets X.x X.b hz1 h.2.1 X.o (X.t _ lk_X100_1053) (fun _ z => z) dX100_checkIndex_2 ?_
    obtain ⟨y5, e4, hf⟩ := wBd_s hf
    refine ro_callsI (As := [.int a0, .int a1, .ref op]) (g1 := g0) (x := y5) X h (kX102_checkIndex l trivial e4) mv_X102_checkIndex lk_X100_1059 ⟨rfl, rfl⟩ ⟨(Nat.le_of_ble_eq_true rfl), (Nat.le_of_ble_eq_true rfl)⟩ rfl hl rfl (Nat.le_of_ble_eq_true rfl) ⟨Nat.zero_le _, Nat.zero_le _⟩ dX100_checkIndex_5 (fun H locs h => ?_)
    refine lv_pop X.x X.b dX100_checkIndex_8 rfl ?_
    cases (Option.some.inj hf).trans JR
    exact ro_vret X h dX100_checkIndex_9
set_option maxHeartbeats 4000000 in
set_option maxRecDepth 20000 in
theorem kX101_charAt (l : Launch) {Y : Ly} {k : En} {S : Nat → Prop} (hS : True) {g0 : Mm} {sq : Nat} {a1 : Int32} (hq : sq < 3) {res : Int32} (hf : fX101_charAt sq a1 = some res) : Mt l yX101_charAt cX101_charAt 2 (some .char) (RmN 2 43) Y S k [.ref (k.2.2.2.2.2 sq), .int a1] g0 (some (.int res)) g0 := by
  refine Mt.of (by decide) (Nat.le_of_ble_eq_true rfl) ?_
  intro p e s m args below meth c ls X _ h hl
  have X : Cx Y S k p s m args meth c cX101_charAt 2 (some .char) RX101 := X
  have hl : lv_has ls 2 [(0, .ref (k.2.2.2.2.2 sq)), (1, .int a1)] := hl
  have JR : res = res := rfl
  unfold fX101_charAt at hf
  refine lv_iload_n X.x X.b dX101_charAt_0 rfl (lv_at hl 1 rfl) ?_
  refine lv_aload_n X.x X.b dX101_charAt_1 rfl (lv_at hl 0 rfl) ?_
  refine ro_blen X h hq dX101_charAt_2 ?_
  obtain ⟨u2, e1, hf⟩ := wBd_s hf
  refine ro_callsV (As := [.int a1, .int (nI (kN sq))]) (g1 := g0) X h (kX100_checkIndex l trivial e1) mv_X100_checkIndex lk_X101_9 ⟨rfl, rfl⟩ ⟨(Nat.le_of_ble_eq_true rfl), (Nat.le_of_ble_eq_true rfl)⟩ rfl hl rfl (Nat.le_of_ble_eq_true rfl) ⟨Nat.zero_le _, Nat.zero_le _⟩ dX101_charAt_3 (fun H locs h => ?_)
  refine lv_aload_n X.x X.b dX101_charAt_6 rfl (lv_at hl 0 rfl) ?_
  refine lv_iload_n X.x X.b dX101_charAt_7 rfl (lv_at hl 1 rfl) ?_
  obtain ⟨b3, hf⟩ := wGi_s hf
  refine ro_bald X h hq b3 dX101_charAt_8 ?_
  refine lv_sipush (v := 255) X.x X.b dX101_charAt_9 (by decide) ?_
  refine lv_iand X.x X.b dX101_charAt_12 ?_
  refine lv_i2c X.x X.b dX101_charAt_13 rfl ?_
  obtain ⟨z4, hf⟩ := wGd_s hf
  cases (Option.some.inj hf).trans JR
  exact ro_cret X h z4 dX101_charAt_14
set_option maxHeartbeats 4000000 in
set_option maxRecDepth 20000 in
theorem kX100_charAt (l : Launch) {Y : Ly} {k : En} {S : Nat → Prop} (hS : True) {g0 : Mm} {sq : Nat} {a1 : Int32} (hq : sq < 3) {res : Int32} (hf : fX100_charAt sq a1 = some res) : Mt l yX100_charAt cX100_charAt 2 (some .char) (RmN 3 64) Y S k [.ref (k.2.2.2.2.1 sq), .int a1] g0 (some (.int res)) g0 := by
  refine Mt.of (by decide) (Nat.le_of_ble_eq_true rfl) ?_
  intro p e s m args below meth c ls X _ h hl
  have X : Cx Y S k p s m args meth c cX100_charAt 2 (some .char) RX100 := X
  have hl : lv_has ls 2 [(0, .ref (k.2.2.2.2.1 sq)), (1, .int a1)] := hl
  have JR : res = res := rfl
  unfold fX100_charAt at hf
  refine lv_aload_n X.x X.b dX100_charAt_0 rfl (lv_at hl 0 rfl) ?_
  obtain ⟨y2, e1, hf⟩ := wBd_s hf
  refine ro_callvI (As := []) (g1 := g0) (x := y2) X h (kX100_isLatin1 l trivial hq e1) mv_X100_isLatin1 lk_X100_492 ⟨rfl, rfl⟩ ⟨(Nat.le_of_ble_eq_true rfl), (Nat.le_of_ble_eq_true rfl)⟩ (r_str X h hq) rfl hl rfl (Nat.le_of_ble_eq_true rfl) ⟨Nat.zero_le _, Nat.zero_le _⟩ dX100_charAt_1 (fun H locs h => ?_)
  refine lv_if_eq (tgt := 16) X.x X.b dX100_charAt_4 (by decide) (fun c3 => ?_) (fun c3 => ?_)
  · have hf := wT c3 hf
    refine lv_aload_n X.x X.b dX100_charAt_16 rfl (lv_at hl 0 rfl) ?_
    refine ro_sval X h hq lk_X100_9 dX100_charAt_17 ?_
    refine lv_iload_n X.x X.b dX100_charAt_20 rfl (lv_at hl 1 rfl) ?_
    cases hf
  · have hf := wF c3 hf
    refine lv_aload_n X.x X.b dX100_charAt_7 rfl (lv_at hl 0 rfl) ?_
    refine ro_sval X h hq lk_X100_9 dX100_charAt_8 ?_
    refine lv_iload_n X.x X.b dX100_charAt_11 rfl (lv_at hl 1 rfl) ?_
    obtain ⟨y5, e4, hf⟩ := wBd_s hf
    refine ro_callsI (As := [.ref (k.2.2.2.2.2 sq), .int a1]) (g1 := g0) (x := y5) X h (kX101_charAt l trivial hq e4) mv_X101_charAt lk_X100_495 ⟨rfl, rfl⟩ ⟨(Nat.le_of_ble_eq_true rfl), (Nat.le_of_ble_eq_true rfl)⟩ rfl hl rfl (Nat.le_of_ble_eq_true rfl) ⟨Nat.zero_le _, Nat.zero_le _⟩ dX100_charAt_12 (fun H locs h => ?_)
    obtain ⟨z6, hf⟩ := wGd_s hf
    cases (Option.some.inj hf).trans JR
    exact ro_cret X h z6 dX100_charAt_15
set_option maxHeartbeats 4000000 in
set_option maxRecDepth 20000 in
theorem kX100_coder (l : Launch) {Y : Ly} {k : En} {S : Nat → Prop} (hS : True) {g0 : Mm} {sq : Nat} (hq : sq < 3) {res : Int32} (hf : fX100_coder sq = some res) : Mt l yX100_coder cX100_coder 1 (some .byte) (RmN 0 0) Y S k [.ref (k.2.2.2.2.1 sq)] g0 (some (.int res)) g0 := by
  refine Mt.of (by decide) (Nat.le_of_ble_eq_true rfl) ?_
  intro p e s m args below meth c ls X _ h hl
  have X : Cx Y S k p s m args meth c cX100_coder 1 (some .byte) RX100 := X
  have hl : lv_has ls 1 [(0, .ref (k.2.2.2.2.1 sq))] := hl
  have JR : res = res := rfl
  unfold fX100_coder at hf
  refine ro_csf X h lk_X100_38 dX100_coder_0 ?_
  refine lv_if_eq (tgt := 13) X.x X.b dX100_coder_3 (by decide) (fun c1 => ?_) (fun c1 => ?_)
  · have hf := wT c1 hf
    refine lv_iconst (v := 1) X.x X.b dX100_coder_13 (by decide) ?_
    obtain ⟨z2, hf⟩ := wGd_s hf
    cases (Option.some.inj hf).trans JR
    exact ro_bret X h z2 dX100_coder_14
  · have hf := wF c1 hf
    refine lv_aload_n X.x X.b dX100_coder_6 rfl (lv_at hl 0 rfl) ?_
    refine ro_scod X h hq lk_X100_15 dX100_coder_7 ?_
    refine lv_goto (tgt := 14) X.x X.b dX100_coder_10 (by decide) ?_
    obtain ⟨z3, hf⟩ := wGd_s hf
    cases (Option.some.inj hf).trans JR
    exact ro_bret X h z3 dX100_coder_14
set_option maxHeartbeats 4000000 in
set_option maxRecDepth 20000 in
theorem kX100_length (l : Launch) {Y : Ly} {k : En} {S : Nat → Prop} (hS : True) {g0 : Mm} {sq : Nat} (hq : sq < 3) {res : Int32} (hf : fX100_length sq = some res) : Mt l yX100_length cX100_length 1 (some .int) (RmN 1 20) Y S k [.ref (k.2.2.2.2.1 sq)] g0 (some (.int res)) g0 := by
  refine Mt.of (by decide) (Nat.le_of_ble_eq_true rfl) ?_
  intro p e s m args below meth c ls X _ h hl
  have X : Cx Y S k p s m args meth c cX100_length 1 (some .int) RX100 := X
  have hl : lv_has ls 1 [(0, .ref (k.2.2.2.2.1 sq))] := hl
  have JR : res = res := rfl
  unfold fX100_length at hf
  refine lv_aload_n X.x X.b dX100_length_0 rfl (lv_at hl 0 rfl) ?_
  refine ro_sval X h hq lk_X100_9 dX100_length_1 ?_
  refine ro_blen X h hq dX100_length_4 ?_
  refine lv_aload_n X.x X.b dX100_length_5 rfl (lv_at hl 0 rfl) ?_
  obtain ⟨y2, e1, hf⟩ := wBd_s hf
  refine ro_callvI (As := []) (g1 := g0) (x := y2) X h (kX100_coder l trivial hq e1) mv_X100_coder lk_X100_335 ⟨rfl, rfl⟩ ⟨(Nat.le_of_ble_eq_true rfl), (Nat.le_of_ble_eq_true rfl)⟩ (r_str X h hq) rfl hl rfl (Nat.le_of_ble_eq_true rfl) ⟨Nat.zero_le _, Nat.zero_le _⟩ dX100_length_6 (fun H locs h => ?_)
  refine lv_ishr X.x X.b dX100_length_9 ?_
  cases (Option.some.inj hf).trans JR
  exact ro_iret X h dX100_length_10
set_option maxHeartbeats 4000000 in
set_option maxRecDepth 20000 in
theorem kX101_canEncode (l : Launch) {Y : Ly} {k : En} {S : Nat → Prop} (hS : True) {g0 : Mm} {a0 : Int32} {res : Int32} (hf : fX101_canEncode a0 = some res) : Mt l yX101_canEncode cX101_canEncode 1 (some .boolean) (RmN 0 0) Y S k [.int a0] g0 (some (.int res)) g0 := by
  refine Mt.of (by decide) (Nat.le_of_ble_eq_true rfl) ?_
  intro p e s m args below meth c ls X _ h hl
  have X : Cx Y S k p s m args meth c cX101_canEncode 1 (some .boolean) RX101 := X
  have hl : lv_has ls 1 [(0, .int a0)] := hl
  have JR : res = res := rfl
  unfold fX101_canEncode at hf
  refine lv_iload_n X.x X.b dX101_canEncode_0 rfl (lv_at hl 0 rfl) ?_
  refine lv_if_lt (tgt := 15) X.x X.b dX101_canEncode_1 (by decide) (fun c1 => ?_) (fun c1 => ?_)
  · have hf := wT c1 hf
    refine lv_iconst (v := 0) X.x X.b dX101_canEncode_15 (by decide) ?_
    cases (Option.some.inj hf).trans JR
    exact ro_zret X h (Or.inl rfl) dX101_canEncode_16
  · have hf := wF c1 hf
    refine lv_iload_n X.x X.b dX101_canEncode_4 rfl (lv_at hl 0 rfl) ?_
    refine lv_sipush (v := 255) X.x X.b dX101_canEncode_5 (by decide) ?_
    refine lv_icmp_gt (tgt := 15) X.x X.b dX101_canEncode_8 (by decide) (fun c2 => ?_) (fun c2 => ?_)
    · have hf := wT c2 hf
      refine lv_iconst (v := 0) X.x X.b dX101_canEncode_15 (by decide) ?_
      cases (Option.some.inj hf).trans JR
      exact ro_zret X h (Or.inl rfl) dX101_canEncode_16
    · have hf := wF c2 hf
      refine lv_iconst (v := 1) X.x X.b dX101_canEncode_11 (by decide) ?_
      refine lv_goto (tgt := 16) X.x X.b dX101_canEncode_12 (by decide) ?_
      cases (Option.some.inj hf).trans JR
      exact ro_zret X h (Or.inr rfl) dX101_canEncode_16
set_option maxHeartbeats 4000000 in
set_option maxRecDepth 20000 in
theorem wX101_indexOfChar_L7 {Y : Ly} {k : En} {S : Nat → Prop} (hS : True) {g0 : Mm} {sq : Nat} {a1 : Int32} {a2 : Int32} {a3 : Int32} (hq : sq < 3) {res : Int32} (X : Cx Y S k p s m args meth c cX101_indexOfChar 6 (some .int) RX101) {x4 : Int32} {r : Int32} (JR : r = res) :
    ∀ (fu : Nat) (x5 : Int32) (H : Heap) (locs : List Loc) (ls : Array Slot), Hx Y S k s g0 H locs → lv_has ls 6 [(0, .ref (k.2.2.2.2.2 sq)), (3, .int a3), (4, .int x4), (5, .int x5)] → wLp (fun q => fX101_indexOfChar_B7 sq a1 a2 a3 x4 q) fu x5 = some r → W p l e (RmN 0 0) s m args below meth c H locs 0 0 (Fin Y S k args s below (some (.int res)) g0) (F0 m 7 ls []) := by
  intro fu
  induction fu with
  | zero => intro x5 H locs ls h hl hf; exact (wLp_0 hf).elim
  | succ fu ih1 =>
    intro x5 H locs ls h hl hf
    obtain ⟨r1, hf, hr⟩ := wLp_s hf
    have J1n : ∀ (x5 : Int32), r1 = .inl x5 → ∀ (H : Heap) (locs : List Loc) (ls : Array Slot), Hx Y S k s g0 H locs → lv_has ls 6 [(0, .ref (k.2.2.2.2.2 sq)), (3, .int a3), (4, .int x4), (5, .int x5)] → W p l e (RmN 0 0) s m args below meth c H locs 0 0 (Fin Y S k args s below (some (.int res)) g0) (F0 m 7 ls []) := fun x5 q H locs ls h hl => by subst q; exact ih1 _ _ _ _ h hl hr
    have JRn : ∀ t1, r1 = .inr t1 → t1 = res := fun t1 q => by subst q; obtain rfl := Option.some.inj hr; exact JR
    have J1 := J1n
    have JR := JRn
    clear J1n JRn
    have hf : fX101_indexOfChar_B7 sq a1 a2 a3 x4 x5 = some r1 := hf
    unfold fX101_indexOfChar_B7 at hf
    refine lv_iload X.x X.b dX101_indexOfChar_7 (lv_at hl 3 rfl) ?_
    refine lv_iload_n X.x X.b dX101_indexOfChar_9 rfl (lv_at hl 1 rfl) ?_
    refine lv_icmp_ge (tgt := 31) X.x X.b dX101_indexOfChar_10 (by decide) (fun c3 => ?_) (fun c3 => ?_)
    · have hf := wT c3 hf
      obtain ⟨t4, hf, e5⟩ := wEx_s hf
      have JR := JR t4 e5
      refine lv_iconst (v := (-1)) X.x X.b dX101_indexOfChar_31 (by decide) ?_
      cases (Option.some.inj hf).trans JR
      exact ro_iret X h dX101_indexOfChar_32
    · have hf := wF c3 hf
      refine lv_aload_n X.x X.b dX101_indexOfChar_13 rfl (lv_at hl 0 rfl) ?_
      refine lv_iload X.x X.b dX101_indexOfChar_14 (lv_at hl 3 rfl) ?_
      obtain ⟨b6, hf⟩ := wGi_s hf
      refine ro_bald X h hq b6 dX101_indexOfChar_16 ?_
      refine lv_iload X.x X.b dX101_indexOfChar_17 (lv_at hl 2 rfl) ?_
      refine lv_icmp_ne (tgt := 25) X.x X.b dX101_indexOfChar_19 (by decide) (fun c7 => ?_) (fun c7 => ?_)
      · have hf := wF c7 hf
        obtain ⟨y8, e9, hf⟩ := wLe_s hf
        refine lv_iinc (v := y8) (lv' := [(5, .int y8), (0, .ref (k.2.2.2.2.2 sq)), (3, .int a3), (4, .int x4)]) X.x X.b dX101_indexOfChar_25 hl (k := 3) rfl (by rw [e9]; rfl) (by decide) rfl (fun ls hl => ?_)
        refine lv_goto (tgt := 7) X.x X.b dX101_indexOfChar_28 (by decide) ?_
        exact J1 _ (Option.some.inj hf).symm _ _ _ h (lv_sub hl [1, 2, 3, 0] rfl)
      · have hf := wT c7 hf
        obtain ⟨t10, hf, e11⟩ := wEx_s hf
        have JR := JR t10 e11
        refine lv_iload X.x X.b dX101_indexOfChar_22 (lv_at hl 3 rfl) ?_
        cases (Option.some.inj hf).trans JR
        exact ro_iret X h dX101_indexOfChar_24
set_option maxHeartbeats 4000000 in
set_option maxRecDepth 20000 in
theorem kX101_indexOfChar (l : Launch) {Y : Ly} {k : En} {S : Nat → Prop} (hS : True) {g0 : Mm} {sq : Nat} {a1 : Int32} {a2 : Int32} {a3 : Int32} (hq : sq < 3) {res : Int32} (hf : fX101_indexOfChar sq a1 a2 a3 = some res) : Mt l yX101_indexOfChar cX101_indexOfChar 6 (some .int) (RmN 0 0) Y S k [.ref (k.2.2.2.2.2 sq), .int a1, .int a2, .int a3] g0 (some (.int res)) g0 := by
  refine Mt.of (by decide) (Nat.le_of_ble_eq_true rfl) ?_
  intro p e s m args below meth c ls X _ h hl
  have X : Cx Y S k p s m args meth c cX101_indexOfChar 6 (some .int) RX101 := X
  have hl : lv_has ls 6 [(0, .ref (k.2.2.2.2.2 sq)), (1, .int a1), (2, .int a2), (3, .int a3)] := hl
  have JR : res = res := rfl
  unfold fX101_indexOfChar at hf
  refine lv_iload_n X.x X.b dX101_indexOfChar_0 rfl (lv_at hl 1 rfl) ?_
  refine lv_i2b X.x X.b dX101_indexOfChar_1 rfl ?_
  obtain ⟨y1, e2, hf⟩ := wLe_s hf
  refine lv_nmi e2 ?_
  refine lv_istore (lv' := [(4, .int y1), (0, .ref (k.2.2.2.2.2 sq)), (1, .int a1), (2, .int a2), (3, .int a3)]) X.x X.b dX101_indexOfChar_2 hl (by decide) rfl (fun ls hl => ?_)
  refine lv_iload_n X.x X.b dX101_indexOfChar_4 rfl (lv_at hl 3 rfl) ?_
  refine lv_istore (lv' := [(5, .int a2), (4, .int y1), (0, .ref (k.2.2.2.2.2 sq)), (1, .int a1), (2, .int a2), (3, .int a3)]) X.x X.b dX101_indexOfChar_5 hl (by decide) rfl (fun ls hl => ?_)
  exact wX101_indexOfChar_L7 hS hq X JR _ _ _ _ _ h (lv_sub hl [2, 5, 1, 0] rfl) hf
set_option maxHeartbeats 4000000 in
set_option maxRecDepth 20000 in
theorem kX101_indexOf (l : Launch) {Y : Ly} {k : En} {S : Nat → Prop} (hS : True) {g0 : Mm} {sq : Nat} {a1 : Int32} {a2 : Int32} {a3 : Int32} (hq : sq < 3) {res : Int32} (hf : fX101_indexOf sq a1 a2 a3 = some res) : Mt l yX101_indexOf cX101_indexOf 4 (some .int) (RmN 1 25) Y S k [.ref (k.2.2.2.2.2 sq), .int a1, .int a2, .int a3] g0 (some (.int res)) g0 := by
  refine Mt.of (by decide) (Nat.le_of_ble_eq_true rfl) ?_
  intro p e s m args below meth c ls X _ h hl
  have X : Cx Y S k p s m args meth c cX101_indexOf 4 (some .int) RX101 := X
  have hl : lv_has ls 4 [(0, .ref (k.2.2.2.2.2 sq)), (1, .int a1), (2, .int a2), (3, .int a3)] := hl
  have JR : res = res := rfl
  unfold fX101_indexOf at hf
  refine lv_iload_n X.x X.b dX101_indexOf_0 rfl (lv_at hl 1 rfl) ?_
  obtain ⟨y2, e1, hf⟩ := wBd_s hf
  refine ro_callsI (As := [.int a1]) (g1 := g0) (x := y2) X h (kX101_canEncode l trivial e1) mv_X101_canEncode lk_X101_88 ⟨rfl, rfl⟩ ⟨(Nat.le_of_ble_eq_true rfl), (Nat.le_of_ble_eq_true rfl)⟩ rfl hl rfl (Nat.le_of_ble_eq_true rfl) ⟨Nat.zero_le _, Nat.zero_le _⟩ dX101_indexOf_1 (fun H locs h => ?_)
  refine lv_if_ne (tgt := 9) X.x X.b dX101_indexOf_4 (by decide) (fun c3 => ?_) (fun c3 => ?_)
  · have hf := wF c3 hf
    refine lv_iload_n X.x X.b dX101_indexOf_9 rfl (lv_at hl 2 rfl) ?_
    refine lv_iconst (v := 0) X.x X.b dX101_indexOf_10 (by decide) ?_
    refine ro_max X hl lk_X101_92 mx_f (Nat.le_of_ble_eq_true rfl) (Nat.le_of_ble_eq_true rfl) ⟨Nat.zero_le _, Nat.zero_le _⟩ dX101_indexOf_11 ?_
    obtain ⟨y4, e5, hf⟩ := wLe_s hf
    refine lv_nmi e5 ?_
    refine lv_istore_n (lv' := [(2, .int y4), (0, .ref (k.2.2.2.2.2 sq)), (1, .int a1), (3, .int a3)]) X.x X.b dX101_indexOf_14 rfl hl (by decide) rfl (fun ls hl => ?_)
    refine lv_iload_n X.x X.b dX101_indexOf_15 rfl (lv_at hl 3 rfl) ?_
    refine lv_aload_n X.x X.b dX101_indexOf_16 rfl (lv_at hl 1 rfl) ?_
    refine ro_blen X h hq dX101_indexOf_17 ?_
    refine ro_min X hl lk_X101_38 mn_f (Nat.le_of_ble_eq_true rfl) (Nat.le_of_ble_eq_true rfl) ⟨Nat.zero_le _, Nat.zero_le _⟩ dX101_indexOf_18 ?_
    obtain ⟨y6, e7, hf⟩ := wLe_s hf
    refine lv_nmi e7 ?_
    refine lv_istore_n (lv' := [(3, .int y6), (2, .int y4), (0, .ref (k.2.2.2.2.2 sq)), (1, .int a1)]) X.x X.b dX101_indexOf_21 rfl hl (by decide) rfl (fun ls hl => ?_)
    refine lv_iload_n X.x X.b dX101_indexOf_22 rfl (lv_at hl 1 rfl) ?_
    refine lv_iload_n X.x X.b dX101_indexOf_23 rfl (lv_at hl 0 rfl) ?_
    refine lv_icmp_lt (tgt := 29) X.x X.b dX101_indexOf_24 (by decide) (fun c8 => ?_) (fun c8 => ?_)
    · have hf := wT c8 hf
      refine lv_aload_n X.x X.b dX101_indexOf_29 rfl (lv_at hl 2 rfl) ?_
      refine lv_iload_n X.x X.b dX101_indexOf_30 rfl (lv_at hl 3 rfl) ?_
      refine lv_iload_n X.x X.b dX101_indexOf_31 rfl (lv_at hl 1 rfl) ?_
      refine lv_iload_n X.x X.b dX101_indexOf_32 rfl (lv_at hl 0 rfl) ?_
      obtain ⟨y10, e9, hf⟩ := wBd_s hf
      refine ro_callsI (As := [.ref (k.2.2.2.2.2 sq), .int a1, .int y4, .int y6]) (g1 := g0) (x := y10) X h (kX101_indexOfChar l trivial hq e9) mv_X101_indexOfChar lk_X101_95 ⟨rfl, rfl⟩ ⟨(Nat.le_of_ble_eq_true rfl), (Nat.le_of_ble_eq_true rfl)⟩ rfl hl rfl (Nat.le_of_ble_eq_true rfl) ⟨Nat.zero_le _, Nat.zero_le _⟩ dX101_indexOf_33 (fun H locs h => ?_)
      cases (Option.some.inj hf).trans JR
      exact ro_iret X h dX101_indexOf_36
    · have hf := wF c8 hf
      refine lv_iconst (v := (-1)) X.x X.b dX101_indexOf_27 (by decide) ?_
      cases (Option.some.inj hf).trans JR
      exact ro_iret X h dX101_indexOf_28
  · have hf := wT c3 hf
    refine lv_iconst (v := (-1)) X.x X.b dX101_indexOf_7 (by decide) ?_
    cases (Option.some.inj hf).trans JR
    exact ro_iret X h dX101_indexOf_8
set_option maxHeartbeats 4000000 in
set_option maxRecDepth 20000 in
theorem kX100_indexOf2 (l : Launch) {Y : Ly} {k : En} {S : Nat → Prop} (hS : True) {g0 : Mm} {sq : Nat} {a1 : Int32} {a2 : Int32} (hq : sq < 3) {res : Int32} (hf : fX100_indexOf2 sq a1 a2 = some res) : Mt l yX100_indexOf2 cX100_indexOf2 3 (some .int) (RmN 2 48) Y S k [.ref (k.2.2.2.2.1 sq), .int a1, .int a2] g0 (some (.int res)) g0 := by
  refine Mt.of (by decide) (Nat.le_of_ble_eq_true rfl) ?_
  intro p e s m args below meth c ls X _ h hl
  have X : Cx Y S k p s m args meth c cX100_indexOf2 3 (some .int) RX100 := X
  have hl : lv_has ls 3 [(0, .ref (k.2.2.2.2.1 sq)), (1, .int a1), (2, .int a2)] := hl
  have JR : res = res := rfl
  unfold fX100_indexOf2 at hf
  refine lv_aload_n X.x X.b dX100_indexOf2_0 rfl (lv_at hl 0 rfl) ?_
  obtain ⟨y2, e1, hf⟩ := wBd_s hf
  refine ro_callvI (As := []) (g1 := g0) (x := y2) X h (kX100_isLatin1 l trivial hq e1) mv_X100_isLatin1 lk_X100_492 ⟨rfl, rfl⟩ ⟨(Nat.le_of_ble_eq_true rfl), (Nat.le_of_ble_eq_true rfl)⟩ (r_str X h hq) rfl hl rfl (Nat.le_of_ble_eq_true rfl) ⟨Nat.zero_le _, Nat.zero_le _⟩ dX100_indexOf2_1 (fun H locs h => ?_)
  refine lv_if_eq (tgt := 23) X.x X.b dX100_indexOf2_4 (by decide) (fun c3 => ?_) (fun c3 => ?_)
  · have hf := wT c3 hf
    refine lv_aload_n X.x X.b dX100_indexOf2_23 rfl (lv_at hl 0 rfl) ?_
    refine ro_sval X h hq lk_X100_9 dX100_indexOf2_24 ?_
    refine lv_iload_n X.x X.b dX100_indexOf2_27 rfl (lv_at hl 1 rfl) ?_
    refine lv_iload_n X.x X.b dX100_indexOf2_28 rfl (lv_at hl 2 rfl) ?_
    refine lv_aload_n X.x X.b dX100_indexOf2_29 rfl (lv_at hl 0 rfl) ?_
    obtain ⟨y5, e4, hf⟩ := wBd_s hf
    refine ro_callvI (As := []) (g1 := g0) (x := y5) X h (kX100_length l trivial hq e4) mv_X100_length lk_X100_505 ⟨rfl, rfl⟩ ⟨(Nat.le_of_ble_eq_true rfl), (Nat.le_of_ble_eq_true rfl)⟩ (r_str X h hq) rfl hl rfl (Nat.le_of_ble_eq_true rfl) ⟨Nat.zero_le _, Nat.zero_le _⟩ dX100_indexOf2_30 (fun H locs h => ?_)
    cases hf
  · have hf := wF c3 hf
    refine lv_aload_n X.x X.b dX100_indexOf2_7 rfl (lv_at hl 0 rfl) ?_
    refine ro_sval X h hq lk_X100_9 dX100_indexOf2_8 ?_
    refine lv_iload_n X.x X.b dX100_indexOf2_11 rfl (lv_at hl 1 rfl) ?_
    refine lv_iload_n X.x X.b dX100_indexOf2_12 rfl (lv_at hl 2 rfl) ?_
    refine lv_aload_n X.x X.b dX100_indexOf2_13 rfl (lv_at hl 0 rfl) ?_
    obtain ⟨y7, e6, hf⟩ := wBd_s hf
    refine ro_callvI (As := []) (g1 := g0) (x := y7) X h (kX100_length l trivial hq e6) mv_X100_length lk_X100_505 ⟨rfl, rfl⟩ ⟨(Nat.le_of_ble_eq_true rfl), (Nat.le_of_ble_eq_true rfl)⟩ (r_str X h hq) rfl hl rfl (Nat.le_of_ble_eq_true rfl) ⟨Nat.zero_le _, Nat.zero_le _⟩ dX100_indexOf2_14 (fun H locs h => ?_)
    obtain ⟨y9, e8, hf⟩ := wBd_s hf
    refine ro_callsI (As := [.ref (k.2.2.2.2.2 sq), .int a1, .int a2, .int y7]) (g1 := g0) (x := y9) X h (kX101_indexOf l trivial hq e8) mv_X101_indexOf lk_X100_637 ⟨rfl, rfl⟩ ⟨(Nat.le_of_ble_eq_true rfl), (Nat.le_of_ble_eq_true rfl)⟩ rfl hl rfl (Nat.le_of_ble_eq_true rfl) ⟨Nat.zero_le _, Nat.zero_le _⟩ dX100_indexOf2_17 (fun H locs h => ?_)
    refine lv_goto (tgt := 36) X.x X.b dX100_indexOf2_20 (by decide) ?_
    cases (Option.some.inj hf).trans JR
    exact ro_iret X h dX100_indexOf2_36
set_option maxHeartbeats 4000000 in
set_option maxRecDepth 20000 in
theorem kX100_indexOf (l : Launch) {Y : Ly} {k : En} {S : Nat → Prop} (hS : True) {g0 : Mm} {sq : Nat} {a1 : Int32} (hq : sq < 3) {res : Int32} (hf : fX100_indexOf sq a1 = some res) : Mt l yX100_indexOf cX100_indexOf 2 (some .int) (RmN 3 70) Y S k [.ref (k.2.2.2.2.1 sq), .int a1] g0 (some (.int res)) g0 := by
  refine Mt.of (by decide) (Nat.le_of_ble_eq_true rfl) ?_
  intro p e s m args below meth c ls X _ h hl
  have X : Cx Y S k p s m args meth c cX100_indexOf 2 (some .int) RX100 := X
  have hl : lv_has ls 2 [(0, .ref (k.2.2.2.2.1 sq)), (1, .int a1)] := hl
  have JR : res = res := rfl
  unfold fX100_indexOf at hf
  refine lv_aload_n X.x X.b dX100_indexOf_0 rfl (lv_at hl 0 rfl) ?_
  refine lv_iload_n X.x X.b dX100_indexOf_1 rfl (lv_at hl 1 rfl) ?_
  refine lv_iconst (v := 0) X.x X.b dX100_indexOf_2 (by decide) ?_
  obtain ⟨y2, e1, hf⟩ := wBd_s hf
  refine ro_callvI (As := [.int a1, .int (0 : Int32)]) (g1 := g0) (x := y2) X h (kX100_indexOf2 l trivial hq e1) mv_X100_indexOf2 lk_X100_633 ⟨rfl, rfl⟩ ⟨(Nat.le_of_ble_eq_true rfl), (Nat.le_of_ble_eq_true rfl)⟩ (r_str X h hq) rfl hl rfl (Nat.le_of_ble_eq_true rfl) ⟨Nat.zero_le _, Nat.zero_le _⟩ dX100_indexOf_3 (fun H locs h => ?_)
  cases (Option.some.inj hf).trans JR
  exact ro_iret X h dX100_indexOf_6
set_option maxHeartbeats 4000000 in
set_option maxRecDepth 20000 in
theorem kX103_bitCount (l : Launch) {Y : Ly} {k : En} {S : Nat → Prop} (hS : True) {g0 : Mm} {a0 : Int32} {res : Int32} (hf : fX103_bitCount a0 = some res) : Mt l yX103_bitCount cX103_bitCount 1 (some .int) (RmN 0 0) Y S k [.int a0] g0 (some (.int res)) g0 := by
  refine Mt.of (by decide) (Nat.le_of_ble_eq_true rfl) ?_
  intro p e s m args below meth c ls X _ h hl
  have X : Cx Y S k p s m args meth c cX103_bitCount 1 (some .int) RX103 := X
  have hl : lv_has ls 1 [(0, .int a0)] := hl
  have JR : res = res := rfl
  unfold fX103_bitCount at hf
  refine lv_iload_n X.x X.b dX103_bitCount_0 rfl (lv_at hl 0 rfl) ?_
  refine lv_iload_n X.x X.b dX103_bitCount_1 rfl (lv_at hl 0 rfl) ?_
  refine lv_iconst (v := 1) X.x X.b dX103_bitCount_2 (by decide) ?_
  refine lv_iushr X.x X.b dX103_bitCount_3 rfl ?_
  refine ro_ldcw X lc_X103_265 dX103_bitCount_4 ?_
  refine lv_iand X.x X.b dX103_bitCount_7 ?_
  refine lv_isub X.x X.b dX103_bitCount_8 ?_
  obtain ⟨y1, e2, hf⟩ := wLe_s hf
  refine lv_nmi e2 ?_
  refine lv_istore_n (lv' := [(0, .int y1)]) X.x X.b dX103_bitCount_9 rfl hl (by decide) rfl (fun ls hl => ?_)
  refine lv_iload_n X.x X.b dX103_bitCount_10 rfl (lv_at hl 0 rfl) ?_
  refine ro_ldcw X lc_X103_266 dX103_bitCount_11 ?_
  refine lv_iand X.x X.b dX103_bitCount_14 ?_
  refine lv_iload_n X.x X.b dX103_bitCount_15 rfl (lv_at hl 0 rfl) ?_
  refine lv_iconst (v := 2) X.x X.b dX103_bitCount_16 (by decide) ?_
  refine lv_iushr X.x X.b dX103_bitCount_17 rfl ?_
  refine ro_ldcw X lc_X103_266 dX103_bitCount_18 ?_
  refine lv_iand X.x X.b dX103_bitCount_21 ?_
  refine lv_iadd X.x X.b dX103_bitCount_22 ?_
  obtain ⟨y3, e4, hf⟩ := wLe_s hf
  refine lv_nmi e4 ?_
  refine lv_istore_n (lv' := [(0, .int y3)]) X.x X.b dX103_bitCount_23 rfl hl (by decide) rfl (fun ls hl => ?_)
  refine lv_iload_n X.x X.b dX103_bitCount_24 rfl (lv_at hl 0 rfl) ?_
  refine lv_iload_n X.x X.b dX103_bitCount_25 rfl (lv_at hl 0 rfl) ?_
  refine lv_iconst (v := 4) X.x X.b dX103_bitCount_26 (by decide) ?_
  refine lv_iushr X.x X.b dX103_bitCount_27 rfl ?_
  refine lv_iadd X.x X.b dX103_bitCount_28 ?_
  refine ro_ldcw X lc_X103_267 dX103_bitCount_29 ?_
  refine lv_iand X.x X.b dX103_bitCount_32 ?_
  obtain ⟨y5, e6, hf⟩ := wLe_s hf
  refine lv_nmi e6 ?_
  refine lv_istore_n (lv' := [(0, .int y5)]) X.x X.b dX103_bitCount_33 rfl hl (by decide) rfl (fun ls hl => ?_)
  refine lv_iload_n X.x X.b dX103_bitCount_34 rfl (lv_at hl 0 rfl) ?_
  refine lv_iload_n X.x X.b dX103_bitCount_35 rfl (lv_at hl 0 rfl) ?_
  refine lv_bipush (v := 8) X.x X.b dX103_bitCount_36 (by decide) ?_
  refine lv_iushr X.x X.b dX103_bitCount_38 rfl ?_
  refine lv_iadd X.x X.b dX103_bitCount_39 ?_
  obtain ⟨y7, e8, hf⟩ := wLe_s hf
  refine lv_nmi e8 ?_
  refine lv_istore_n (lv' := [(0, .int y7)]) X.x X.b dX103_bitCount_40 rfl hl (by decide) rfl (fun ls hl => ?_)
  refine lv_iload_n X.x X.b dX103_bitCount_41 rfl (lv_at hl 0 rfl) ?_
  refine lv_iload_n X.x X.b dX103_bitCount_42 rfl (lv_at hl 0 rfl) ?_
  refine lv_bipush (v := 16) X.x X.b dX103_bitCount_43 (by decide) ?_
  refine lv_iushr X.x X.b dX103_bitCount_45 rfl ?_
  refine lv_iadd X.x X.b dX103_bitCount_46 ?_
  obtain ⟨y9, e10, hf⟩ := wLe_s hf
  refine lv_nmi e10 ?_
  refine lv_istore_n (lv' := [(0, .int y9)]) X.x X.b dX103_bitCount_47 rfl hl (by decide) rfl (fun ls hl => ?_)
  refine lv_iload_n X.x X.b dX103_bitCount_48 rfl (lv_at hl 0 rfl) ?_
  refine lv_bipush (v := 63) X.x X.b dX103_bitCount_49 (by decide) ?_
  refine lv_iand X.x X.b dX103_bitCount_51 ?_
  cases (Option.some.inj hf).trans JR
  exact ro_iret X h dX103_bitCount_52
end WK
