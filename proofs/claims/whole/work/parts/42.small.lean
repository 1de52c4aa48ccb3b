-- ===== small functions =====
theorem nI_m1' {n : Nat} (h : n < 2 ^ 31) : (nI n = -nI 1) = False := nI_m1 h
theorem m1_nI {n : Nat} (h : n < 2 ^ 31) : (-nI 1 = nI n) = False := eq_false fun e => (nI_m1 h).mp e.symm
theorem lt_of_le2 {x : Int32} (h : nI 2 ≤ x) : nI 1 < x := by
  have h1 := Int32.le_iff_toInt_le.mp h
  refine Int32.lt_iff_toInt_lt.mpr ?_
  have e2 : (nI 2).toInt = 2 := rfl
  have e1 : (nI 1).toInt = 1 := rfl
  omega
theorem le_of_lt1 {x : Int32} (h : nI 1 < x) : nI 2 ≤ x := by
  have h1 := Int32.lt_iff_toInt_lt.mp h
  refine Int32.le_iff_toInt_le.mpr ?_
  have e2 : (nI 2).toInt = 2 := rfl
  have e1 : (nI 1).toInt = 1 := rfl
  omega
theorem of_ev (g : Mm) {v c : Nat} (h : 30 * v + c < 510) : fX11_of g (nI v) (nI c) = some (g 1 0 0 (30 * v + c)) := by
  unfold fX11_of
  simp (disch := omega) only [li_0, li_1, li_2, li_3, li_4, li_5, li_6, li_7, li_8, li_9, li_10, li_11, li_12, li_13, li_14, li_15, li_16, li_17, li_18, li_19, li_30, li_32, li_40, li_41, li_42, li_43, li_45, li_48, li_57, li_59, li_60, li_61, li_63, li_97, li_99, li_122, li_160, li_200, li_255, li_256, li_257, li_258, li_259, li_360, li_460, li_462, li_470, li_475, li_480, li_481, li_482, li_483, li_484, li_490, li_496, li_510, li_999, li_9999, li_10000, li_10008, li_10009, li_10010, li_10011, li_10012, li_10013, li_10014, li_10015, li_10016, li_100000, wGi_ok, wGb_0, wGb_1, wLe_e, wBd_e, wB2_e, wEx_e, nI_mul, nI_add, nI_clamp, nI_leI, nI_ltI, nI_eq, nI_m1]
theorem hv_ev {g : Mm} {i v n : Nat} (hn : g 9 i 0 2 = nI n) (h : n < 2 ^ 31) (hv : v < 2 ^ 31) : fX4_hasVisit g i (nI v) = some (if v < n then 1 else 0) := by
  unfold fX4_hasVisit
  rw [hn]
  simp (disch := omega) only [li_0, li_1, li_2, li_3, li_4, li_5, li_6, li_7, li_8, li_9, li_10, li_11, li_12, li_13, li_14, li_15, li_16, li_17, li_18, li_19, li_30, li_32, li_40, li_41, li_42, li_43, li_45, li_48, li_57, li_59, li_60, li_61, li_63, li_97, li_99, li_122, li_160, li_200, li_255, li_256, li_257, li_258, li_259, li_360, li_460, li_462, li_470, li_475, li_480, li_481, li_482, li_483, li_484, li_490, li_496, li_510, li_999, li_9999, li_10000, li_10008, li_10009, li_10010, li_10011, li_10012, li_10013, li_10014, li_10015, li_10016, li_100000, wGi_ok, wGb_0, wGb_1, wLe_e, wBd_e, wB2_e, wEx_e, nI_mul, nI_add, nI_clamp, nI_leI, nI_ltI, nI_eq, nI_m1]
  split
  · omega
  · split
    · rw [if_neg (by omega)]
    · rw [if_pos (by omega)]
theorem hst_ev {g : Mm} {i v n : Nat} (hn : g 9 i 0 1 = nI n) (h : n < 2 ^ 31) (hv : v < 2 ^ 31) : fX4_hasStand g i (nI v) = some (if v < n then 1 else 0) := by
  unfold fX4_hasStand
  rw [hn]
  simp (disch := omega) only [li_0, li_1, li_2, li_3, li_4, li_5, li_6, li_7, li_8, li_9, li_10, li_11, li_12, li_13, li_14, li_15, li_16, li_17, li_18, li_19, li_30, li_32, li_40, li_41, li_42, li_43, li_45, li_48, li_57, li_59, li_60, li_61, li_63, li_97, li_99, li_122, li_160, li_200, li_255, li_256, li_257, li_258, li_259, li_360, li_460, li_462, li_470, li_475, li_480, li_481, li_482, li_483, li_484, li_490, li_496, li_510, li_999, li_9999, li_10000, li_10008, li_10009, li_10010, li_10011, li_10012, li_10013, li_10014, li_10015, li_10016, li_100000, wGi_ok, wGb_0, wGb_1, wLe_e, wBd_e, wB2_e, wEx_e, nI_mul, nI_add, nI_clamp, nI_leI, nI_ltI, nI_eq, nI_m1]
  split
  · omega
  · split
    · rw [if_neg (by omega)]
    · rw [if_pos (by omega)]
/-- the feeds to a visit that are on their way -/
theorem bags_pr {i : Nat} {gC gR : Mm} {nv nf ns v : Nat} (h : PS i gC gR nv nf ns) (hv : v < nv) : ∃ r : Nat, r ≤ 16 ∧ fX4_openFeeds gC i (nI v) = some (nI r) ∧ fX11_bagsTo gR (nI v) = some (nI r) := by
  have hv12 := h.nv12
  have hf := h.nf16
  obtain ⟨⟨a1, a2, a3⟩, ⟨b1, b2, b3⟩, -⟩ := id h
  have key := wLp_two (f1 := fun q : Int32 × Int32 => fX4_openFeeds_B4 gC i (nI v) q.1 q.2) (f2 := fun q : Int32 × Int32 => fX11_bagsTo_B4 gR (nI v) q.1 q.2)
    (fun t1 t2 => ∃ r : Nat, r ≤ 16 ∧ t1 = nI r ∧ t2 = nI r) (fun k s1 s2 => ∃ r : Nat, r ≤ k ∧ s1 = (nI r, nI k) ∧ s2 = (nI r, nI k)) nf
    (fun k s1 s2 hk ⟨r, hr, e1, e2⟩ => by
      subst e1; subst e2
      left
      have e1 := h.f1 hk
      have e4 := h.f4 hk
      dsimp only
      unfold fX4_openFeeds_B4 fX11_bagsTo_B4 fX4_openFeeds_b41 fX11_bagsTo_b55 fX11_bagsTo_b56
      rw [a3, b2]
      have hk' : ¬ nf ≤ k := by omega
      simp (disch := omega) only [li_0, li_1, li_2, li_3, li_4, li_5, li_6, li_7, li_8, li_9, li_10, li_11, li_12, li_13, li_14, li_15, li_16, li_17, li_18, li_19, li_30, li_32, li_40, li_41, li_42, li_43, li_45, li_48, li_57, li_59, li_60, li_61, li_63, li_97, li_99, li_122, li_160, li_200, li_255, li_256, li_257, li_258, li_259, li_360, li_460, li_462, li_470, li_475, li_480, li_481, li_482, li_483, li_484, li_490, li_496, li_510, li_999, li_9999, li_10000, li_10008, li_10009, li_10010, li_10011, li_10012, li_10013, li_10014, li_10015, li_10016, li_100000, wGi_ok, wGb_0, wGb_1, wLe_e, wBd_e, wB2_e, wEx_e, nI_mul, nI_add, nI_clamp, nI_leI, nI_ltI, nI_eq, nI_m1, e1, e4, if_neg hk', Nat.add_zero]
      by_cases c1 : gR 1 0 0 (360 + 6 * k + 1) = nI v
      · by_cases c2 : nI 2 ≤ gR 1 0 0 (360 + 6 * k + 4)
        · simp only [if_pos c1, if_pos c2, if_pos (lt_of_le2 c2)]
          exact ⟨_, _, rfl, rfl, r, by omega, rfl, rfl⟩
        · simp only [if_pos c1, if_neg c2, if_neg (fun q => c2 (le_of_lt1 q))]
          exact ⟨_, _, rfl, rfl, r + 1, by omega, rfl, rfl⟩
      · simp only [if_neg c1]
        exact ⟨_, _, rfl, rfl, r, by omega, rfl, rfl⟩)
    (fun s1 s2 ⟨r, hr, e1, e2⟩ => by
      subst e1; subst e2
      dsimp only
      unfold fX4_openFeeds_B4 fX11_bagsTo_B4
      rw [a3, b2, if_pos (nI_le (Nat.le_refl _) (by omega)), if_pos (nI_le (Nat.le_refl _) (by omega))]
      exact ⟨_, _, rfl, rfl, r, by omega, rfl, rfl⟩)
    (k := 0) (Nat.zero_le _) (s1 := (0, 0)) (s2 := (0, 0)) ⟨0, Nat.le_refl _, rfl, rfl⟩ (u1 := 1000) (u2 := 1000) (by omega) (by omega)
  obtain ⟨t1, t2, q1, q2, r, hr, rfl, rfl⟩ := key
  exact ⟨r, hr, q1, q2⟩
theorem lateOf_pr {i : Nat} {gC gR : Mm} {nv nf ns v : Nat} (h : PS i gC gR nv nf ns) (hv : v < nv) : ∃ r : Int32, fX9_lateTicks gC i v = some r ∧ fX11_lateOf gR (nI v) = some r := by
  have hv12 := h.nv12
  obtain ⟨t1, t2, q1, q2, rfl⟩ := wLp_two (f1 := fun q : Int32 × Int32 => fX9_lateTicks_B4 gC i v q.1 q.2) (f2 := fun q : Int32 × Int32 => fX11_lateOf_B4 gR (nI v) q.1 q.2)
    (fun t1 t2 => t1 = t2) (fun k s1 s2 => s1 = s2 ∧ s1.2 = nI k) 9
    (fun k s1 s2 hk ⟨e1, e2⟩ => by
      subst e1
      obtain ⟨a, b⟩ := s1
      have e2 : b = nI k := e2
      subst e2
      left
      have e1 := h.c21 hv hk
      have hk' : ¬ 9 ≤ k := by omega
      dsimp only
      unfold fX9_lateTicks_B4 fX11_lateOf_B4
      simp (disch := omega) only [li_0, li_1, li_2, li_3, li_4, li_5, li_6, li_7, li_8, li_9, li_10, li_11, li_12, li_13, li_14, li_15, li_16, li_17, li_18, li_19, li_30, li_32, li_40, li_41, li_42, li_43, li_45, li_48, li_57, li_59, li_60, li_61, li_63, li_97, li_99, li_122, li_160, li_200, li_255, li_256, li_257, li_258, li_259, li_360, li_460, li_462, li_470, li_475, li_480, li_481, li_482, li_483, li_484, li_490, li_496, li_510, li_999, li_9999, li_10000, li_10008, li_10009, li_10010, li_10011, li_10012, li_10013, li_10014, li_10015, li_10016, li_100000, wGi_ok, wGb_0, wGb_1, wLe_e, wBd_e, wB2_e, wEx_e, nI_mul, nI_add, nI_clamp, nI_leI, nI_ltI, nI_eq, nI_m1, e1, if_neg hk', of_ev, Nat.add_assoc]
      exact ⟨_, _, rfl, rfl, rfl, rfl⟩)
    (fun s1 s2 ⟨e1, e2⟩ => by
      subst e1
      obtain ⟨a, b⟩ := s1
      have e2 : b = nI 9 := e2
      subst e2
      exact ⟨_, _, rfl, rfl, rfl⟩)
    (k := 0) (Nat.zero_le _) (s1 := (0, 0)) (s2 := (0, 0)) ⟨rfl, rfl⟩ (u1 := 1000) (u2 := 1000) (by omega) (by omega)
  exact ⟨_, q1, q2⟩
theorem lateAll_pr {i : Nat} {gC gR : Mm} {nv nf ns : Nat} (h : PS i gC gR nv nf ns) : ∃ r : Int32, fX4_lateInAll gC i = some r ∧ fX11_lateOfAll gR = some r := by
  have hv12 := h.nv12
  obtain ⟨⟨a1, a2, a3⟩, ⟨b1, b2, b3⟩, -⟩ := id h
  obtain ⟨t1, t2, q1, q2, rfl⟩ := wLp_two (f1 := fun q : Int32 × Int32 => fX4_lateInAll_B4 gC i q.1 q.2) (f2 := fun q : Int32 × Int32 => fX11_lateOfAll_B4 gR q.1 q.2)
    (fun t1 t2 => t1 = t2) (fun k s1 s2 => s1 = s2 ∧ s1.2 = nI k) nv
    (fun k s1 s2 hk ⟨e1, e2⟩ => by
      subst e1
      obtain ⟨a, b⟩ := s1
      have e2 : b = nI k := e2
      subst e2
      left
      obtain ⟨r, r1, r2⟩ := lateOf_pr h hk
      have hk' : ¬ nv ≤ k := by omega
      dsimp only
      unfold fX4_lateInAll_B4 fX11_lateOfAll_B4
      rw [a2, b1]
      simp (disch := omega) only [li_0, li_1, li_2, li_3, li_4, li_5, li_6, li_7, li_8, li_9, li_10, li_11, li_12, li_13, li_14, li_15, li_16, li_17, li_18, li_19, li_30, li_32, li_40, li_41, li_42, li_43, li_45, li_48, li_57, li_59, li_60, li_61, li_63, li_97, li_99, li_122, li_160, li_200, li_255, li_256, li_257, li_258, li_259, li_360, li_460, li_462, li_470, li_475, li_480, li_481, li_482, li_483, li_484, li_490, li_496, li_510, li_999, li_9999, li_10000, li_10008, li_10009, li_10010, li_10011, li_10012, li_10013, li_10014, li_10015, li_10016, li_100000, wGi_ok, wGb_0, wGb_1, wLe_e, wBd_e, wB2_e, wEx_e, nI_mul, nI_add, nI_clamp, nI_leI, nI_ltI, nI_eq, nI_m1, if_neg hk', r1, r2]
      exact ⟨_, _, rfl, rfl, rfl, rfl⟩)
    (fun s1 s2 ⟨e1, e2⟩ => by
      subst e1
      obtain ⟨a, b⟩ := s1
      have e2 : b = nI nv := e2
      subst e2
      dsimp only
      unfold fX4_lateInAll_B4 fX11_lateOfAll_B4
      rw [a2, b1, if_pos (nI_le (Nat.le_refl _) (by omega)), if_pos (nI_le (Nat.le_refl _) (by omega))]
      exact ⟨_, _, rfl, rfl, rfl⟩)
    (k := 0) (Nat.zero_le _) (s1 := (0, 0)) (s2 := (0, 0)) ⟨rfl, rfl⟩ (u1 := 1000) (u2 := 1000) (by omega) (by omega)
  exact ⟨_, q1, q2⟩
theorem missed_pr {i : Nat} {gC gR : Mm} {nv nf ns : Nat} (h : PS i gC gR nv nf ns) : ∃ r : Int32, fX4_missedBags gC i = some r ∧ fX11_missed gR = some r := by
  have hf := h.nf16
  obtain ⟨⟨a1, a2, a3⟩, ⟨b1, b2, b3⟩, -⟩ := id h
  obtain ⟨t1, t2, q1, q2, rfl⟩ := wLp_two (f1 := fun q : Int32 × Int32 => fX4_missedBags_B4 gC i q.1 q.2) (f2 := fun q : Int32 × Int32 => fX11_missed_B6 gR q.1 q.2)
    (fun t1 t2 => t1 = t2) (fun k s1 s2 => s1.1 = s2.1 ∧ s1.2 = nI k ∧ s2.2 = nI (360 + 6 * k)) nf
    (fun k s1 s2 hk ⟨e1, e2, e3⟩ => by
      obtain ⟨a, b⟩ := s1
      obtain ⟨a', b'⟩ := s2
      have e1 : a = a' := e1
      have e2 : b = nI k := e2
      have e3 : b' = nI (360 + 6 * k) := e3
      subst e1; subst e2; subst e3
      left
      have f4 := h.f4 hk
      have f2 := h.f2 hk
      have hk' : ¬ nf ≤ k := by omega
      have hk2 : ¬ 360 + 6 * nf ≤ 360 + 6 * k := by omega
      dsimp only
      unfold fX4_missedBags_B4 fX11_missed_B6 fX4_missedBags_b37 fX11_missed_b46
      rw [a3, b2]
      simp (disch := omega) only [li_0, li_1, li_2, li_3, li_4, li_5, li_6, li_7, li_8, li_9, li_10, li_11, li_12, li_13, li_14, li_15, li_16, li_17, li_18, li_19, li_30, li_32, li_40, li_41, li_42, li_43, li_45, li_48, li_57, li_59, li_60, li_61, li_63, li_97, li_99, li_122, li_160, li_200, li_255, li_256, li_257, li_258, li_259, li_360, li_460, li_462, li_470, li_475, li_480, li_481, li_482, li_483, li_484, li_490, li_496, li_510, li_999, li_9999, li_10000, li_10008, li_10009, li_10010, li_10011, li_10012, li_10013, li_10014, li_10015, li_10016, li_100000, wGi_ok, wGb_0, wGb_1, wLe_e, wBd_e, wB2_e, wEx_e, nI_mul, nI_add, nI_clamp, nI_leI, nI_ltI, nI_eq, nI_m1, if_neg hk', if_neg hk2, f4, f2]
      by_cases c1 : gR 1 0 0 (360 + 6 * k + 4) = nI 3
      · simp only [if_pos c1]
        exact ⟨_, _, rfl, rfl, rfl, rfl, rfl⟩
      · simp only [if_neg c1]
        exact ⟨_, _, rfl, rfl, (Int32.add_zero a).symm, rfl, rfl⟩)
    (fun s1 s2 ⟨e1, e2, e3⟩ => by
      obtain ⟨a, b⟩ := s1
      obtain ⟨a', b'⟩ := s2
      have e1 : a = a' := e1
      have e2 : b = nI nf := e2
      have e3 : b' = nI (360 + 6 * nf) := e3
      subst e1; subst e2; subst e3
      dsimp only
      unfold fX4_missedBags_B4 fX11_missed_B6
      rw [a3, b2]
      simp (disch := omega) only [li_0, li_1, li_2, li_3, li_4, li_5, li_6, li_7, li_8, li_9, li_10, li_11, li_12, li_13, li_14, li_15, li_16, li_17, li_18, li_19, li_30, li_32, li_40, li_41, li_42, li_43, li_45, li_48, li_57, li_59, li_60, li_61, li_63, li_97, li_99, li_122, li_160, li_200, li_255, li_256, li_257, li_258, li_259, li_360, li_460, li_462, li_470, li_475, li_480, li_481, li_482, li_483, li_484, li_490, li_496, li_510, li_999, li_9999, li_10000, li_10008, li_10009, li_10010, li_10011, li_10012, li_10013, li_10014, li_10015, li_10016, li_100000, wGi_ok, wGb_0, wGb_1, wLe_e, wBd_e, wB2_e, wEx_e, nI_mul, nI_add, nI_clamp, nI_leI, nI_ltI, nI_eq, nI_m1, Nat.le_refl, if_true]
      exact ⟨_, _, rfl, rfl, rfl⟩)
    (k := 0) (Nat.zero_le _) (s1 := (0, 0)) (s2 := (0, 360)) ⟨rfl, rfl, rfl⟩ (u1 := 1000) (u2 := 1000) (by omega) (by omega)
  exact ⟨_, q1, q2⟩
