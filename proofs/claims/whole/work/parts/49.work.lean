-- ===== (2): work ~ works =====
theorem left_dec {n : Nat} (h : 0 < n) : nI n - nI 1 = nI (n - 1) := by
  obtain ⟨m, rfl⟩ : ∃ m, n = m + 1 := ⟨n - 1, by omega⟩
  rw [← nI_add, Int32.sub_eq_add_neg, Int32.add_assoc]
  show nI m + (nI 1 + -nI 1) = nI m
  rw [show nI 1 + -nI 1 = 0 from rfl, Int32.add_zero]
theorem work_step {i : Nat} {g1 g2 : Mm} {nv nf ns v k : Nat} (hi : i < 2) (h : PS i g1 g2 nv nf ns) (hv : v < nv) (hk : k < 8) :
    ∃ gC' gR', fX4_work_B17 g1 i (nI v) v (nI k) = some (.inl (gC', nI (k + 1))) ∧ fX11_works_B2 g2 (nI v) (nI k) = some (.inl (gR', nI (k + 1))) ∧ TK i nv nf ns g1 g2 gC' gR' := by
  have hv12 := h.nv12
  obtain ⟨⟨m, hm, em, hb⟩, -⟩ := h.2.2.2.1 v hv
  obtain ⟨n, hn, en⟩ := (h.2.2.2.2.1.2.2.2.2.2.1 v hv).2 k hk
  obtain ⟨hb1, hb2⟩ := hb k hk
  have hu := under_ev (i := i) (v := v) hm hk em
  have hk' : ¬ 8 ≤ k := by omega
  unfold fX4_work_B17 fX11_works_B2 fX4_work_b56 fX11_works_b52
  simp (disch := omega) only [li_0, li_1, li_2, li_3, li_4, li_5, li_6, li_7, li_8, li_9, li_10, li_11, li_12, li_13, li_14, li_15, li_16, li_17, li_18, li_19, li_30, li_32, li_40, li_41, li_42, li_43, li_45, li_48, li_57, li_59, li_60, li_61, li_63, li_97, li_99, li_122, li_160, li_200, li_255, li_256, li_257, li_258, li_259, li_360, li_460, li_462, li_470, li_475, li_480, li_481, li_482, li_483, li_484, li_490, li_496, li_510, li_999, li_9999, li_10000, li_10008, li_10009, li_10010, li_10011, li_10012, li_10013, li_10014, li_10015, li_10016, li_100000, wGi_ok, wGb_0, wGb_1, wLe_e, wBd_e, wB2_e, wEx_e, nI_mul, nI_add, nI_clamp, nI_leI, nI_ltI, nI_eq, nI_m1, hu, if_neg hk', en]
  by_cases c : m.testBit k = true
  · have n0 : n ≠ 0 := fun e => hb1.mp c (by rw [en, e]; rfl)
    have l20 : g1 20 i v k = nI n := (hb2 c).trans en
    have c2 : ¬ n ≤ 0 := by omega
    have c3 : ¬ ((1 : Nat) = 0) := by decide
    simp (disch := omega) only [if_pos c, li_0, li_1, li_2, li_3, li_4, li_5, li_6, li_7, li_8, li_9, li_10, li_11, li_12, li_13, li_14, li_15, li_16, li_17, li_18, li_19, li_30, li_32, li_40, li_41, li_42, li_43, li_45, li_48, li_57, li_59, li_60, li_61, li_63, li_97, li_99, li_122, li_160, li_200, li_255, li_256, li_257, li_258, li_259, li_360, li_460, li_462, li_470, li_475, li_480, li_481, li_482, li_483, li_484, li_490, li_496, li_510, li_999, li_9999, li_10000, li_10008, li_10009, li_10010, li_10011, li_10012, li_10013, li_10014, li_10015, li_10016, li_100000, wGi_ok, wGb_0, wGb_1, wLe_e, wBd_e, wB2_e, wEx_e, nI_mul, nI_add, nI_clamp, nI_leI, nI_ltI, nI_eq, nI_m1, if_neg c2, if_neg c3, l20, left_dec, st_eq]
    by_cases c1 : n = 1
    · subst c1
      obtain ⟨a, b, r1, r2, r3⟩ := finish_pr hi h hv hk hm em en
      have d : 1 - 1 = 0 := rfl
      simp only [d, if_true, r1, r2, wBd_e]
      exact ⟨_, _, rfl, rfl, r3⟩
    · have d : ¬ n - 1 = 0 := by omega
      have d' : nI (n - 1) ≠ 0 := fun e => by
        have e : nI (n - 1) = nI 0 := e
        rw [nI_eq (by omega) (by omega)] at e
        omega
      simp only [if_neg d]
      refine ⟨_, _, rfl, rfl, (h.s0.goes hv hk hm em c d').full ?_, FrC.rf.st (by unfold wrC; omega), FrR.rf.st (Or.inl rfl)⟩
      rw [st_p]
      obtain ⟨h1, h2, h3, h4, h5, h6, h7, h8, h9⟩ := h.2.2.2.2.1
      have hf16 := h1.2.1
      have off : ∀ q, q ≠ 30 * v + 11 + k → upd (g2 1 0 0) (30 * v + 11 + k) (nI (n - 1)) q = g2 1 0 0 q := fun q hq => upd_n hq
      refine ⟨h1, ?_, ?_, ?_, ?_, ?_, ?_, ?_, ?_⟩
      · rw [off _ (by omega)]; exact h2
      · rw [off _ (by omega)]; exact h3
      · intro r hr; rw [off _ (by omega)]; exact h4 r hr
      · intro v' hv'
        rw [off (30 * v') (by omega), off (30 * v' + 4) (by omega), off (30 * v' + 6) (by omega), off (30 * v' + 8) (by omega)]
        exact h5 v' hv'
      · intro v' hv'
        rw [off (30 * v' + 10) (by omega)]
        refine ⟨(h6 v' hv').1, fun a ha => ?_⟩
        by_cases e : 30 * v' + 11 + a = 30 * v + 11 + k
        · rw [e, upd_e]; exact ⟨n - 1, by omega, rfl⟩
        · rw [off _ e]; exact (h6 v' hv').2 a ha
      · intro v' hv'
        rw [off (30 * v' + 6) (by omega), off (30 * v' + 8) (by omega), off (30 * v' + 9) (by omega)]
        refine ⟨(h7 v' hv').1, (h7 v' hv').2.1, fun z => (h7 v' hv').2.2 ?_⟩
        by_cases e : 30 * v' + 18 = 30 * v + 11 + k
        · rw [e, en]
          exact fun q => n0 (by
            have q : nI n = nI 0 := q
            rwa [nI_eq (by omega) (by omega)] at q)
        · rwa [off _ e] at z
      · intro f hf
        rw [off _ (by omega), off _ (by omega)]; exact h8 f hf
      · intro s hs
        rw [off _ (by omega)]; exact h9 s hs
  · have n0 : n = 0 := Decidable.byContradiction fun q => c (hb1.mpr (by
      rw [en]
      intro e
      have e : nI n = nI 0 := e
      rw [nI_eq (by omega) (by omega)] at e
      exact q e))
    subst n0
    simp (disch := omega) only [if_neg c, li_0, li_1, li_2, li_3, li_4, li_5, li_6, li_7, li_8, li_9, li_10, li_11, li_12, li_13, li_14, li_15, li_16, li_17, li_18, li_19, li_30, li_32, li_40, li_41, li_42, li_43, li_45, li_48, li_57, li_59, li_60, li_61, li_63, li_97, li_99, li_122, li_160, li_200, li_255, li_256, li_257, li_258, li_259, li_360, li_460, li_462, li_470, li_475, li_480, li_481, li_482, li_483, li_484, li_490, li_496, li_510, li_999, li_9999, li_10000, li_10008, li_10009, li_10010, li_10011, li_10012, li_10013, li_10014, li_10015, li_10016, li_100000, wGi_ok, wGb_0, wGb_1, wLe_e, wBd_e, wB2_e, wEx_e, nI_mul, nI_add, nI_clamp, nI_leI, nI_ltI, nI_eq, nI_m1, if_true, Nat.le_refl]
    exact ⟨_, _, rfl, rfl, TK.rf h⟩
