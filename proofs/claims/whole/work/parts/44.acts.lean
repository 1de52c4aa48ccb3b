-- ===== acts as bits; a change of state =====
set_option maxRecDepth 100000 in
theorem bit_all : ∀ m, m < 256 → ∀ a, a < 8 → ((((nI m) >>> ((nI a) &&& nI 31)) &&& nI 1 = nI 1) ↔ m.testBit a = true) := by decide +kernel
theorem li_31 : (31 : Int32) = nI 31 := rfl
theorem under_ev {g : Mm} {i v m a : Nat} (hm : m < 256) (ha : a < 8) (h : g 19 i v 10 = nI m) : fX9_isUnder g i v (nI a) = some (if m.testBit a = true then 1 else 0) := by
  unfold fX9_isUnder
  rw [h]
  simp only [li_31, li_1, bit_all m hm a ha]
  split <;> rfl
theorem sub_m1000 {t : Nat} : nI t - (-1000 : Int32) = nI (t + 1000) := by
  rw [Int32.sub_eq_add_neg, Int32.neg_neg]
  exact nI_add t 1000
/-- ice is needed -/
theorem ice_pr {i : Nat} {gC gR : Mm} {nv nf ns v : Nat} (h : PS i gC gR nv nf ns) (hv : v < nv) : ∃ r : Int32, fX9_needsIce gC i v (gR 1 0 0 482) (gR 1 0 0 480) = some r ∧ fX11_needsIce gR (nI v) = some r ∧ (r = 0 ∨ r = 1) := by
  have hv12 := h.nv12
  obtain ⟨-, -, hE, hU, hP, hK⟩ := id h
  obtain ⟨t, ht, et⟩ := hP.2.1
  have hc := (hU v hv).2
  unfold fX9_needsIce fX11_needsIce
  simp (disch := omega) only [li_0, li_1, li_2, li_3, li_4, li_5, li_6, li_7, li_8, li_9, li_10, li_11, li_12, li_13, li_14, li_15, li_16, li_17, li_18, li_19, li_30, li_32, li_40, li_41, li_42, li_43, li_45, li_48, li_57, li_59, li_60, li_61, li_63, li_97, li_99, li_122, li_160, li_200, li_255, li_256, li_257, li_258, li_259, li_360, li_460, li_462, li_470, li_475, li_480, li_481, li_482, li_483, li_484, li_490, li_496, li_510, li_999, li_9999, li_10000, li_10008, li_10009, li_10010, li_10011, li_10012, li_10013, li_10014, li_10015, li_10016, li_100000, wGi_ok, wGb_0, wGb_1, wLe_e, wBd_e, wB2_e, wEx_e, nI_mul, nI_add, nI_clamp, nI_leI, nI_ltI, nI_eq, nI_m1, of_ev, et]
  by_cases c1 : gR 1 0 0 482 = nI 1
  · simp only [if_pos c1]
    rcases hc with ⟨c2, c3⟩ | ⟨u, hu, c2, c3⟩
    · have c2 : gC 19 i v 12 = -nI 1 := c2
      rw [c2, c3, sub_m1000]
      have q : ¬ t + 1000 ≤ 40 := by omega
      simp (disch := omega) only [m1_lt, nI_mul, nI_add, nI_clamp, nI_leI, nI_ltI, nI_eq, nI_m1, if_true, if_neg q]
      exact ⟨_, rfl, rfl, Or.inr rfl⟩
    · rw [c2, c3]
      simp (disch := omega) only [nI_mul, nI_add, nI_clamp, nI_leI, nI_ltI, nI_eq, nI_m1, Nat.not_lt_zero, if_false]
      by_cases q : nI t - nI u ≤ nI 40
      · simp only [if_pos q]
        exact ⟨_, rfl, rfl, Or.inl rfl⟩
      · simp only [if_neg q]
        exact ⟨_, rfl, rfl, Or.inr rfl⟩
  · simp only [if_neg c1]
    exact ⟨_, rfl, rfl, Or.inl rfl⟩
theorem PI.state {p : Nat → Int32} {nv nf ns v n : Nat} (h : PI p nv nf ns) (hv : v < nv) (hn : n ≤ 8) (c1 : 2 ≤ n → n ≤ 4 → ∃ s : Nat, s < ns ∧ p (30 * v + 8) = nI s) (c2 : n ≤ 4 → p (30 * v + 9) &&& 128 = 0) (c3 : p (30 * v + 18) ≠ 0 → n = 4) : PI (upd p (30 * v + 6) (nI n)) nv nf ns := by
  obtain ⟨h1, h2, h3, h4, h5, h6, h7, h8, h9⟩ := h
  have hv12 := h1.1
  have hf16 := h1.2.1
  have off : ∀ m, m ≠ 30 * v + 6 → upd p (30 * v + 6) (nI n) m = p m := fun m hm => upd_n hm
  refine ⟨h1, ?_, ?_, ?_, ?_, ?_, ?_, ?_, ?_⟩
  · rw [off _ (by omega)]; exact h2
  · rw [off _ (by omega)]; exact h3
  · intro r hr; rw [off _ (by omega)]; exact h4 r hr
  · intro v' hv'
    rw [off (30 * v') (by omega), off (30 * v' + 4) (by omega), off (30 * v' + 8) (by omega)]
    refine ⟨(h5 v' hv').1, (h5 v' hv').2.1, ?_, (h5 v' hv').2.2.2⟩
    by_cases e : v' = v
    · subst e; exact ⟨n, hn, upd_e⟩
    · rw [off _ (by omega)]; exact (h5 v' hv').2.2.1
  · intro v' hv'
    rw [off (30 * v' + 10) (by omega)]
    refine ⟨(h6 v' hv').1, fun a ha => ?_⟩
    rw [off (30 * v' + 11 + a) (by omega)]
    exact (h6 v' hv').2 a ha
  · intro v' hv'
    rw [off (30 * v' + 8) (by omega), off (30 * v' + 9) (by omega), off (30 * v' + 18) (by omega)]
    by_cases e : v' = v
    · subst e
      rw [upd_e]
      exact ⟨fun n' g1 g2 g3 => by rw [nI_eq (by omega) (by omega)] at g3; subst g3; exact c1 g1 g2, fun n' g1 g2 => by rw [nI_eq (by omega) (by omega)] at g2; subst g2; exact c2 g1, fun g1 => by rw [c3 g1]⟩
    · rw [off (30 * v' + 6) (by omega)]
      exact h7 v' hv'
  · intro f hf
    rw [off _ (by omega), off _ (by omega)]; exact h8 f hf
  · intro s hs
    rw [off _ (by omega)]; exact h9 s hs
/-- a change of state, in both -/
theorem enter_pr {i : Nat} {gC gR : Mm} {nv nf ns v n : Nat} (hi : i < 2) (h : PS i gC gR nv nf ns) (hv : v < nv) (hp : PI (upd (gR 1 0 0) (30 * v + 6) (nI n)) nv nf ns) :
    ∃ gC' gR', fX9_enter gC i v (nI n) (gR 1 0 0 480) = some gC' ∧ fX11_becomes gR (nI v) (nI n) = some gR' ∧ TK i nv nf ns gC gR gC' gR' ∧ gR' 1 0 0 = upd (upd (gR 1 0 0) (30 * v + 6) (nI n)) (30 * v + 7) (gR 1 0 0 480) := by
  have hv12 := h.nv12
  have h1 := h.set (ix_v6 hv) hp
  have hp2 : PI (upd ((st gR 1 0 0 (30 * v + 6) (nI n)) 1 0 0) (30 * v + 7) (gR 1 0 0 480)) nv nf ns := h1.2.2.2.2.1.free (by
    rintro (q | q | q | q | q | ⟨v', q1, q2⟩ | ⟨f, q1, q2⟩) <;> omega)
  have h2 := h1.set (ix_v7 hv) hp2
  refine ⟨_, _, rfl, ?_, ⟨h2, ?_, ?_⟩, ?_⟩
  · unfold fX11_becomes
    simp (disch := omega) only [li_0, li_1, li_2, li_3, li_4, li_5, li_6, li_7, li_8, li_9, li_10, li_11, li_12, li_13, li_14, li_15, li_16, li_17, li_18, li_19, li_30, li_32, li_40, li_41, li_42, li_43, li_45, li_48, li_57, li_59, li_60, li_61, li_63, li_97, li_99, li_122, li_160, li_200, li_255, li_256, li_257, li_258, li_259, li_360, li_460, li_462, li_470, li_475, li_480, li_481, li_482, li_483, li_484, li_490, li_496, li_510, li_999, li_9999, li_10000, li_10008, li_10009, li_10010, li_10011, li_10012, li_10013, li_10014, li_10015, li_10016, li_100000, wGi_ok, wGb_0, wGb_1, wLe_e, wBd_e, wB2_e, wEx_e, nI_mul, nI_add, nI_clamp, nI_leI, nI_ltI, nI_eq, nI_m1]
    rw [st_ne (g := gR) (t := 1) (i := 0) (v := 0) (j := 30 * v + 6) (t' := 1) (i' := 0) (v' := 0) (j' := 480) (by omega)]
  · exact (FrC.rf.st (by unfold wrC; omega)).st (by unfold wrC; omega)
  · exact (FrR.rf.st (Or.inl rfl)).st (Or.inl rfl)
  · rw [st_p, st_p]
