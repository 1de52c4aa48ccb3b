-- ===== the law from its entry, the world given =====
set_option maxHeartbeats 4000000 in
set_option maxRecDepth 20000 in
theorem whole_go {p : Program} {l : Launch} {e : Env} {s : State} {m : MethodId} {below : List Frame} {meth : Method} {c : Code} {b L : Nat} {xs : Nat → Int32} {kC kR : En} (X : Lw p l s m meth c b L xs kC kR) (hgv : (Jvm.Cond.and given_1 narrow_1).before #[Value.ref b] s = true) :
    W p l e room_1 s m #[Value.ref b] below meth c s.heap [] 0 0 (lw_Z below #[Value.ref b] s) (entryFrame m ([Value.ref b] : List Value).toArray 4) := by
  obtain ⟨gC, gR, eC, eR, ckC, hRel⟩ := start_Rel
  have hl := lv_entry [Value.ref b] (n := 4) (Nat.le_of_ble_eq_true rfl)
  rw [lg_entry_eq]
  have z0 : s.heap.size = kC.1 := X.2.2.2.1.symm
  have eK : kR = (kC.1 + 167, kC.2) := X.2.2.2.2.1
  refine lw_new0 (k := kC) (kd := kdC) (en := edC) (nc := 167) (cells' := 1) (slots' := 6) (t := 0) (C := RX10) (T := TX10) (N := 6) (ci := 9) X va_S.rf rfl z0 rfl rfl rfl iX10 tyX10_ok (fun j hj => match j, hj with | 0, _ => rfl | 1, _ => rfl | 2, _ => rfl | 3, _ => rfl | 4, _ => rfl | 5, _ => rfl | j + 6, hj => absurd hj (by omega)) clL_7 in_X10 ini_X10 rfl rfl ⟨by decide, by decide⟩ dL_law_0 (fun H1 w1 S1 z1 o1 => ?_)
  refine lv_dup X.x X.bb dL_law_3 rfl ?_
  refine lw_init (k := kC) (As := []) (cells' := 167) (slots' := 3570) X S1 rfl z1 (by omega) w1 (kX10_init l eC) miv_X10_init lkL_9 ⟨rfl, rfl⟩ ⟨Nat.le_of_ble_eq_true rfl, Nat.le_of_ble_eq_true rfl⟩ rfl hl rfl (Nat.le_of_ble_eq_true rfl) rfl rfl ⟨by decide, by decide⟩ dL_law_4 (fun H2 locs2 w2 S2 z2 o2 => ?_)
  refine lv_astore_n (lv' := [(1, .ref kC.1), (0, .ref b)]) X.x X.bb dL_law_7 rfl hl (by decide) rfl (fun ls hl => ?_)
  refine lw_new0 (k := (kC.1 + 167, kC.2)) (kd := kdR) (en := edR) (nc := 23) (cells' := 168) (slots' := 3607) (t := 0) (C := RX11) (T := TX11) (N := 37) (ci := 10) X S2 rfl z2 rfl rfl rfl iX11 tyX11_ok (fun j hj => ?_) clL_10 in_X11 ini_X11 rfl rfl ⟨by decide, by decide⟩ dL_law_8 (fun H3 w3 S3 z3 o3 => ?_)
  · have : ∀ j, j < 37 → j < 37 := fun _ h => h
    rcases (show j = 0 ∨ j = 1 ∨ j = 2 ∨ j = 3 ∨ j = 4 ∨ j = 5 ∨ j = 6 ∨ j = 7 ∨ j = 8 ∨ j = 9 ∨ j = 10 ∨ j = 11 ∨ j = 12 ∨ j = 13 ∨ j = 14 ∨ j = 15 ∨ j = 16 ∨ j = 17 ∨ j = 18 ∨ j = 19 ∨ j = 20 ∨ j = 21 ∨ j = 22 ∨ j = 23 ∨ j = 24 ∨ j = 25 ∨ j = 26 ∨ j = 27 ∨ j = 28 ∨ j = 29 ∨ j = 30 ∨ j = 31 ∨ j = 32 ∨ j = 33 ∨ j = 34 ∨ j = 35 ∨ j = 36 by omega) with rfl | rfl | rfl | rfl | rfl | rfl | rfl | rfl | rfl | rfl | rfl | rfl | rfl | rfl | rfl | rfl | rfl | rfl | rfl | rfl | rfl | rfl | rfl | rfl | rfl | rfl | rfl | rfl | rfl | rfl | rfl | rfl | rfl | rfl | rfl | rfl | rfl <;> rfl
  refine lv_dup X.x X.bb dL_law_11 rfl ?_
  refine lw_init (k := (kC.1 + 167, kC.2)) (As := []) (cells' := 190) (slots' := 6824) X S3 rfl z3 (by show s.heap.size ≤ kC.1 + 167; omega) w3 (kX11_init l eR) miv_X11_init lkL_12 ⟨rfl, rfl⟩ ⟨Nat.le_of_ble_eq_true rfl, Nat.le_of_ble_eq_true rfl⟩ rfl hl rfl (Nat.le_of_ble_eq_true rfl) rfl rfl ⟨by decide, by decide⟩ dL_law_12 (fun H4 locs4 w4 S4 z4 o4 => ?_)
  refine lv_astore_n (lv' := [(2, .ref (kC.1 + 167)), (1, .ref kC.1), (0, .ref b)]) X.x X.bb dL_law_15 rfl hl (by decide) rfl (fun ls hl => ?_)
  refine lv_iconst (v := 0) X.x X.bb dL_law_16 (by decide) ?_
  refine lv_istore_n (lv' := [(3, .int 0), (2, .ref (kC.1 + 167)), (1, .ref kC.1), (0, .ref b)]) X.x X.bb dL_law_17 rfl hl (by decide) rfl (fun ls hl => ?_)
  have hk9 : ckR gR = true := by
    have := s_9
    unfold chI at this
    rw [eR] at this
    have : ((23 : Nat) == 23 && ckR gR) = true := this
    rw [Bool.and_eq_true] at this
    exact this.2
  have wR : Wd YR (fun _ => True) kR gR H4 := by rw [eK]; exact cv_R w4 hk9
  have wC : Wd YC (fun _ => True) kC (toS gC) H4 := by
    refine cv_A (fun t i v q1 q2 q3 => ?_) ckC
    have h0 := w2 t i v q1 q2 q3
    have q1 : t < 167 := q1
    have h1 := h0.kept (H1 := H3) (o3 _ (by show kC.1 + t < H2.size; rw [z2]; omega))
    exact h1.kept (o4 _ (by show kC.1 + t < H3.size; rw [z3]; show kC.1 + t < kC.1 + 167 + 1; omega) (by show kC.1 + t < kC.1 + 167; omega))
  refine lw_loop X hgv all_Rel (L + 7) 0 0 (by omega) (by omega) rfl (toS gC) gR hRel H4 locs4 ls ⟨wC, wR, S4, ?_⟩ ?_
  · rw [z4, eK]
  · rw [eK]; exact hl
