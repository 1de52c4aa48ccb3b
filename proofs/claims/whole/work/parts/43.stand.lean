-- ===== the stand for a visit =====
theorem m1_lt : ((-nI 1 : Int32) < nI 0) = True := eq_true (by decide)
theorem m1_le : (nI 0 ≤ (-nI 1 : Int32)) = False := eq_false (by decide)
theorem m1_m1 : ((-nI 1 : Int32) = -nI 1) = True := eq_true rfl
theorem ge_ge {x : Int32} {n : Nat} (h : x = nI n) (hn : n < 2 ^ 31) : (nI 0 ≤ x) = True := eq_true (by subst h; exact nI_le (Nat.zero_le _) hn)
theorem hst_m1 {g : Mm} {i : Nat} : fX4_hasStand g i (-1) = some 0 := rfl
theorem hst_m1' {g : Mm} {i : Nat} : fX4_hasStand g i (-nI 1) = some 0 := rfl
theorem size_ev {g : Mm} {n : Nat} (h : n < 6) : fX3_size g (nI n) = some (sV 3 n) := by
  unfold fX3_size
  simp (disch := omega) only [li_0, li_1, li_2, li_3, li_4, li_5, li_6, li_7, li_8, li_9, li_10, li_11, li_12, li_13, li_14, li_15, li_16, li_17, li_18, li_19, li_30, li_32, li_40, li_41, li_42, li_43, li_45, li_48, li_57, li_59, li_60, li_61, li_63, li_97, li_99, li_122, li_160, li_200, li_255, li_256, li_257, li_258, li_259, li_360, li_460, li_462, li_470, li_475, li_480, li_481, li_482, li_483, li_484, li_490, li_496, li_510, li_999, li_9999, li_10000, li_10008, li_10009, li_10010, li_10011, li_10012, li_10013, li_10014, li_10015, li_10016, li_100000, wGi_ok, wGb_0, wGb_1, wLe_e, wBd_e, wB2_e, wEx_e, nI_mul, nI_add, nI_clamp, nI_leI, nI_ltI, nI_eq, nI_m1]
theorem roll_ev {g : Mm} {n : Nat} (h : n < 6) : fX3_roll g (nI n) = some (sV 4 n) := by
  unfold fX3_roll
  simp (disch := omega) only [li_0, li_1, li_2, li_3, li_4, li_5, li_6, li_7, li_8, li_9, li_10, li_11, li_12, li_13, li_14, li_15, li_16, li_17, li_18, li_19, li_30, li_32, li_40, li_41, li_42, li_43, li_45, li_48, li_57, li_59, li_60, li_61, li_63, li_97, li_99, li_122, li_160, li_200, li_255, li_256, li_257, li_258, li_259, li_360, li_460, li_462, li_470, li_475, li_480, li_481, li_482, li_483, li_484, li_490, li_496, li_510, li_999, li_9999, li_10000, li_10008, li_10009, li_10010, li_10011, li_10012, li_10013, li_10014, li_10015, li_10016, li_100000, wGi_ok, wGb_0, wGb_1, wLe_e, wBd_e, wB2_e, wEx_e, nI_mul, nI_add, nI_clamp, nI_leI, nI_ltI, nI_eq, nI_m1]
theorem stand_loop {i : Nat} {gC gR : Mm} {nv nf ns v : Nat} (h : PS i gC gR nv nf ns) (hv : v < nv) {kd : Nat} (hk6 : kd < 6) (hkd : gR 1 0 0 (30 * v) = nI kd) (i1 v1 : Nat) : ∃ r : Int32, fX4_standFor_L41 gC i i1 v1 (-1) (sV 3 kd) 0 = some r ∧ fX11_standFor_L33 gR (nI v) (-1) 0 = some r ∧ (r = -1 ∨ ∃ s : Nat, s < ns ∧ r = nI s) := by
  have hv12 := h.nv12
  have hs6 := h.ns6
  obtain ⟨⟨a1, a2, a3⟩, ⟨b1, b2, b3⟩, hE, hU, hP, hK⟩ := id h
  have key := wLp_two (f1 := fun q : Int32 × Int32 => fX4_standFor_B41 gC i i1 v1 q.1 (sV 3 kd) q.2) (f2 := fun q : Int32 × Int32 => fX11_standFor_B33 gR (nI v) q.1 q.2)
    (fun t1 t2 => t1 = t2 ∧ (t1 = -1 ∨ ∃ s : Nat, s < ns ∧ t1 = nI s)) (fun k s1 s2 => s1 = s2 ∧ s1.2 = nI k ∧ (s1.1 = -1 ∨ ∃ s : Nat, s < ns ∧ s1.1 = nI s)) ns
    (fun k s1 s2 hk ⟨e1, e2, e3⟩ => by
      subst e1
      obtain ⟨a, b⟩ := s1
      have e2 : b = nI k := e2
      subst e2
      left
      have f2 := h.e12 hk
      have f3 := h.e13 hk
      have ks := hK.2.1 kd hk6
      have hk' : ¬ ns ≤ k := by omega
      dsimp only
      unfold fX4_standFor_B41 fX11_standFor_B33 fX4_standFor_b75 fX4_standFor_b76 fX4_standFor_b103 fX4_standFor_b106 fX11_standFor_b86 fX11_standFor_b87 fX11_standFor_b123 fX11_standFor_b128 fX11_standFor_b129
      rw [a1, b3]
      have ho := hP.2.2.2.2.2.2.2.2 k (by omega)
      simp (disch := omega) only [li_0, li_1, li_2, li_3, li_4, li_5, li_6, li_7, li_8, li_9, li_10, li_11, li_12, li_13, li_14, li_15, li_16, li_17, li_18, li_19, li_30, li_32, li_40, li_41, li_42, li_43, li_45, li_48, li_57, li_59, li_60, li_61, li_63, li_97, li_99, li_122, li_160, li_200, li_255, li_256, li_257, li_258, li_259, li_360, li_460, li_462, li_470, li_475, li_480, li_481, li_482, li_483, li_484, li_490, li_496, li_510, li_999, li_9999, li_10000, li_10008, li_10009, li_10010, li_10011, li_10012, li_10013, li_10014, li_10015, li_10016, li_100000, wGi_ok, wGb_0, wGb_1, wLe_e, wBd_e, wB2_e, wEx_e, nI_mul, nI_add, nI_clamp, nI_leI, nI_ltI, nI_eq, nI_m1, if_neg hk', f2, f3, of_ev, Nat.add_zero, hkd, ks]
      rcases ho with ho | ⟨m, hm, ho⟩
      · have ho : gR 1 0 0 (496 + k) = -nI 1 := ho
        simp only [ho, m1_le, m1_m1, if_true, if_false]
        by_cases c1 : gR 1 0 0 (490 + k) < sV 3 kd
        · simp only [if_pos c1, if_true]
          exact ⟨_, _, rfl, rfl, rfl, rfl, e3⟩
        · simp (disch := omega) only [if_neg c1, nI_eq, Nat.one_ne_zero, if_false]
          rcases e3 with e3 | ⟨z, hz, e3⟩
          · have e3 : a = -nI 1 := e3
            subst e3
            simp only [m1_lt, m1_m1, if_true]
            exact ⟨_, _, rfl, rfl, rfl, rfl, Or.inr ⟨k, hk, rfl⟩⟩
          · have e3 : a = nI z := e3
            subst e3
            have f4 := h.e12 hz
            simp (disch := omega) only [nI_mul, nI_add, nI_clamp, nI_leI, nI_ltI, nI_eq, nI_m1, wGi_ok, wGb_0, wGb_1, wLe_e, wBd_e, wB2_e, wEx_e, nI_m1', Nat.not_lt_zero, if_false, f4]
            by_cases c2 : gR 1 0 0 (490 + z) ≤ gR 1 0 0 (490 + k)
            · simp only [if_pos c2]
              exact ⟨_, _, rfl, rfl, rfl, rfl, Or.inr ⟨z, hz, rfl⟩⟩
            · simp only [if_neg c2]
              exact ⟨_, _, rfl, rfl, rfl, rfl, Or.inr ⟨k, hk, rfl⟩⟩
      · simp (disch := omega) only [ho, nI_leI, nI_m1', Nat.zero_le, if_true, if_false]
        exact ⟨_, _, rfl, rfl, rfl, rfl, e3⟩)
    (fun s1 s2 ⟨e1, e2, e3⟩ => by
      subst e1
      obtain ⟨a, b⟩ := s1
      have e2 : b = nI ns := e2
      subst e2
      dsimp only
      unfold fX4_standFor_B41 fX11_standFor_B33
      rw [a1, b3, if_pos (nI_le (Nat.le_refl _) (by omega)), if_pos (nI_le (Nat.le_refl _) (by omega))]
      exact ⟨_, _, rfl, rfl, rfl, e3⟩)
    (k := 0) (Nat.zero_le _) (s1 := (-1, 0)) (s2 := (-1, 0)) ⟨rfl, rfl, Or.inl rfl⟩ (u1 := 1000) (u2 := 1000) (by omega) (by omega)
  obtain ⟨t1, t2, q1, q2, rfl, q3⟩ := key
  exact ⟨_, q1, q2, q3⟩
theorem stand_pr {i : Nat} {gC gR : Mm} {nv nf ns v : Nat} (h : PS i gC gR nv nf ns) (hv : v < nv) : ∃ r : Int32, fX4_standFor gC i i v = some r ∧ fX11_standFor gR (nI v) = some r ∧ (r = -1 ∨ ∃ s : Nat, s < ns ∧ r = nI s) := by
  have hv12 := h.nv12
  have hs6 := h.ns6
  obtain ⟨⟨a1, a2, a3⟩, ⟨b1, b2, b3⟩, hE, hU, hP, hK⟩ := id h
  obtain ⟨⟨kd, hk6, hkd⟩, hw, -, -⟩ := hP.2.2.2.2.1 v hv
  obtain ⟨r, r1, r2, r3⟩ := stand_loop h hv hk6 hkd i v
  have v0 := h.v0 hv
  have v5 := h.v5 hv
  have e1 : fX4_standFor_b28 gC i i v = some r := by
    unfold fX4_standFor_b28
    rw [v0, hkd, size_ev hk6]
    exact r1
  have e2 : fX11_standFor_b28 gR (nI v) = some r := r2
  unfold fX4_standFor fX11_standFor
  rcases hw with hw | ⟨n, hn, hw⟩
  · have hw : gR 1 0 0 (30 * v + 4) = -nI 1 := hw
    refine ⟨r, ?_, ?_, r3⟩
    · rw [v5, hw, hst_m1']
      simp only [wGi_ok, wGb_0, wGb_1, wLe_e, wBd_e, wB2_e, wEx_e, if_true, e1]
    · simp (disch := omega) only [li_0, li_1, li_2, li_3, li_4, li_5, li_6, li_7, li_8, li_9, li_10, li_11, li_12, li_13, li_14, li_15, li_16, li_17, li_18, li_19, li_30, li_32, li_40, li_41, li_42, li_43, li_45, li_48, li_57, li_59, li_60, li_61, li_63, li_97, li_99, li_122, li_160, li_200, li_255, li_256, li_257, li_258, li_259, li_360, li_460, li_462, li_470, li_475, li_480, li_481, li_482, li_483, li_484, li_490, li_496, li_510, li_999, li_9999, li_10000, li_10008, li_10009, li_10010, li_10011, li_10012, li_10013, li_10014, li_10015, li_10016, li_100000, wGi_ok, wGb_0, wGb_1, wLe_e, wBd_e, wB2_e, wEx_e, nI_mul, nI_add, nI_clamp, nI_leI, nI_ltI, nI_eq, nI_m1, of_ev, hw, m1_m1, if_true, e2]
  · have f3 := h.e13 hn
    have ho := hP.2.2.2.2.2.2.2.2 n (by omega)
    rcases ho with ho | ⟨m, hm, ho⟩
    · have ho : gR 1 0 0 (496 + n) = -nI 1 := ho
      refine ⟨nI n, ?_, ?_, Or.inr ⟨n, hn, rfl⟩⟩
      · rw [v5, hw, hst_ev a1 (by omega) (by omega), if_pos hn]
        simp (disch := omega) only [li_0, li_1, li_2, li_3, li_4, li_5, li_6, li_7, li_8, li_9, li_10, li_11, li_12, li_13, li_14, li_15, li_16, li_17, li_18, li_19, li_30, li_32, li_40, li_41, li_42, li_43, li_45, li_48, li_57, li_59, li_60, li_61, li_63, li_97, li_99, li_122, li_160, li_200, li_255, li_256, li_257, li_258, li_259, li_360, li_460, li_462, li_470, li_475, li_480, li_481, li_482, li_483, li_484, li_490, li_496, li_510, li_999, li_9999, li_10000, li_10008, li_10009, li_10010, li_10011, li_10012, li_10013, li_10014, li_10015, li_10016, li_100000, wGi_ok, wGb_0, wGb_1, wLe_e, wBd_e, wB2_e, wEx_e, nI_mul, nI_add, nI_clamp, nI_leI, nI_ltI, nI_eq, nI_m1, f3, ho, m1_le, if_false, Nat.one_ne_zero]
      · simp (disch := omega) only [li_0, li_1, li_2, li_3, li_4, li_5, li_6, li_7, li_8, li_9, li_10, li_11, li_12, li_13, li_14, li_15, li_16, li_17, li_18, li_19, li_30, li_32, li_40, li_41, li_42, li_43, li_45, li_48, li_57, li_59, li_60, li_61, li_63, li_97, li_99, li_122, li_160, li_200, li_255, li_256, li_257, li_258, li_259, li_360, li_460, li_462, li_470, li_475, li_480, li_481, li_482, li_483, li_484, li_490, li_496, li_510, li_999, li_9999, li_10000, li_10008, li_10009, li_10010, li_10011, li_10012, li_10013, li_10014, li_10015, li_10016, li_100000, wGi_ok, wGb_0, wGb_1, wLe_e, wBd_e, wB2_e, wEx_e, nI_mul, nI_add, nI_clamp, nI_leI, nI_ltI, nI_eq, nI_m1, of_ev, hw, nI_m1', ho, m1_m1, if_true, if_false]
    · refine ⟨r, ?_, ?_, r3⟩
      · rw [v5, hw, hst_ev a1 (by omega) (by omega), if_pos hn]
        simp (disch := omega) only [li_0, li_1, li_2, li_3, li_4, li_5, li_6, li_7, li_8, li_9, li_10, li_11, li_12, li_13, li_14, li_15, li_16, li_17, li_18, li_19, li_30, li_32, li_40, li_41, li_42, li_43, li_45, li_48, li_57, li_59, li_60, li_61, li_63, li_97, li_99, li_122, li_160, li_200, li_255, li_256, li_257, li_258, li_259, li_360, li_460, li_462, li_470, li_475, li_480, li_481, li_482, li_483, li_484, li_490, li_496, li_510, li_999, li_9999, li_10000, li_10008, li_10009, li_10010, li_10011, li_10012, li_10013, li_10014, li_10015, li_10016, li_100000, wGi_ok, wGb_0, wGb_1, wLe_e, wBd_e, wB2_e, wEx_e, nI_mul, nI_add, nI_clamp, nI_leI, nI_ltI, nI_eq, nI_m1, f3, ho, Nat.zero_le, if_true, if_false, Nat.one_ne_zero, e1]
      · simp (disch := omega) only [li_0, li_1, li_2, li_3, li_4, li_5, li_6, li_7, li_8, li_9, li_10, li_11, li_12, li_13, li_14, li_15, li_16, li_17, li_18, li_19, li_30, li_32, li_40, li_41, li_42, li_43, li_45, li_48, li_57, li_59, li_60, li_61, li_63, li_97, li_99, li_122, li_160, li_200, li_255, li_256, li_257, li_258, li_259, li_360, li_460, li_462, li_470, li_475, li_480, li_481, li_482, li_483, li_484, li_490, li_496, li_510, li_999, li_9999, li_10000, li_10008, li_10009, li_10010, li_10011, li_10012, li_10013, li_10014, li_10015, li_10016, li_100000, wGi_ok, wGb_0, wGb_1, wLe_e, wBd_e, wB2_e, wEx_e, nI_mul, nI_add, nI_clamp, nI_leI, nI_ltI, nI_eq, nI_m1, of_ev, hw, nI_m1', ho, if_false, e2]
