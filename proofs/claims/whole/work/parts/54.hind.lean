-- ===== a rule, asked for a visit =====
def RS (i : Nat) (gC gR : Mm) : Prop := ∃ t, t < 6 ∧ gC 9 i 0 4 = nI (t + 1) ∧ gR 0 0 0 13 = nI t ∧ RT gC gR t
theorem RT.off {gC gR gC' gR' : Mm} {t : Nat} (h : RT gC gR t) (h6 : gC' 6 t 0 = gC 6 t 0) (h7 : gC' 7 t 0 = gC 7 t 0) (k7 : gR' 7 = gR 7) (k8 : gR' 8 = gR 8) : RT gC' gR' t := by
  unfold RT at *
  rw [h6, h7, k7, k8]
  exact h
theorem RS.fr {i i' nv nf : Nat} {gC gR gC' gR' : Mm} (h : RS i gC gR) (hC : FrC i' nv nf gC gC') (hR : FrR gR gR') : RS i gC' gR' := by
  obtain ⟨t, ht, e1, e2, e3⟩ := h
  refine ⟨t, ht, (hC 9 i 0 4 (by unfold wrC; omega)).trans e1, by rw [hR 0 (by decide) (by decide) (by decide)]; exact e2, e3.off (funext fun j => hC 6 t 0 j (by unfold wrC; omega)) (funext fun j => hC 7 t 0 j (by unfold wrC; omega)) (hR 7 (by decide) (by decide) (by decide)) (hR 8 (by decide) (by decide) (by decide))⟩
def VB (i : Nat) (g : Mm) (nv : Nat) : Prop := ∀ v, v < nv → ∃ e : Nat, e ≤ 9999 ∧ g 19 i v 2 = nI e
theorem VB.fr {i i' nv nv' nf : Nat} {g g' : Mm} (h : VB i g nv) (hC : FrC i' nv' nf g g') : VB i g' nv := fun v hv => by
  obtain ⟨e, he, q⟩ := h v hv
  exact ⟨e, he, (hC 19 i v 2 (by unfold wrC; omega)).trans q⟩
theorem ask_pr {i nv nf ns v q : Nat} {gC gR : Mm} (h : PS i gC gR nv nf ns) (hr : RS i gC gR) (hb : VB i gC nv) (hv : v < nv) (hq : q < 3) (pv : Int32) :
    ∃ r n gC1 gC' gR', n < 6 ∧ fX4_learn gC i (nI v) pv = some gC1 ∧ gC1 9 i 0 4 = nI (n + 1) ∧ fX6_says gC1 n (nI q) i = some (gC', r) ∧ fX11_worth gR (nI q) (nI v) pv = some (gR', r) ∧ SC gC gC1 ∧ SC gC1 gC' ∧ SR gR gR' := by
  obtain ⟨t, ht, e1, e2, e3⟩ := hr
  obtain ⟨e, he, ee⟩ := hb v hv
  obtain ⟨gC1, l1, l2, l3⟩ := learn_pr h hv he ee pv
  obtain ⟨r, gC', gR', s1, s2, s3, s4⟩ := says_pr (i := i) (q := q) (v := v) (pv := pv) (e3.off (gC' := gC1) (gR' := gR) (by rw [l2 6 (by decide)]) (by rw [l2 7 (by decide)]) rfl rfl) ht e2 hq l3
  exact ⟨r, t, gC1, gC', gR', ht, l1, by rw [l2 9 (by decide)]; exact e1, s1, s2, fun t a b => l2 t b, fun t a b => s3 t a, s4⟩
theorem at0 (y : Int32) : (if (0 : Int32) < y then y else 0) = if 0 ≤ y then y else 0 := by
  by_cases c : (0 : Int32) < y
  · rw [if_pos c, if_pos (Int32.le_of_lt c)]
  · rw [if_neg c]
    by_cases d : (0 : Int32) ≤ y
    · rw [if_pos d]
      exact (Int32.le_antisymm (Int32.not_lt.mp c) d).symm
    · rw [if_neg d]
theorem at0_ev {g g' : Mm} {q v pv r : Int32} (h : fX11_worth g q v pv = some (g', r)) : fX11_atLeast0 g q v pv = some (g', if (0 : Int32) < r then r else 0) := by
  unfold fX11_atLeast0
  rw [h, wB2_e, at0]
  by_cases c : (0 : Int32) ≤ r
  · rw [if_pos c, if_pos c]
  · rw [if_neg c, if_neg c]
-- ===== what hinders =====
theorem wait_pr {i nv nf ns v : Nat} {gC gR : Mm} (h : PS i gC gR nv nf ns) (hr : RS i gC gR) (hb : VB i gC nv) (hv : v < nv) :
    ∃ b gC' gR', fX4_waitsForBags gC i (nI v) = some (gC', b) ∧ SC gC gC' ∧ SR gR gR' ∧ fX11_hindrance gR (nI v) (nI 5) = (if b = 0 then fX11_hindrance_b46 gR' (nI v) (nI 5) (gR 1 0 0 480) else some (gR', 4)) ∧ (b = 0 ∨ b = 1) := by
  have hv12 := h.nv12
  obtain ⟨r, hr16, b1, b2⟩ := bags_pr h hv
  obtain ⟨y, n, gC1, gC', gR', a1, a2, a3, a4, a5, a6, a7, a8⟩ := ask_pr (q := 2) h hr hb hv (by omega) (-1)
  have e9 := h.e9
  have v2 := h.v2 hv
  have i480 : ∀ (β : Type) (f : Option β), wGi (480 : Int32) 510 f = f := fun β f => wGi_ok (n := 480) (by omega) (by omega)
  have c480 : (480 : Int32).toNatClampNeg = 480 := nI_clamp (n := 480) (by omega)
  have c5 : nI 5 = (5 : Int32) := rfl
  unfold fX4_waitsForBags fX11_hindrance
  rw [b1, wBd_e, i480, c480, wLe_e, if_pos c5, b2, wBd_e]
  by_cases r0 : r = 0
  · subst r0
    rw [if_pos (show nI 0 = 0 from rfl), if_pos (show nI 0 ≤ (0 : Int32) by decide)]
    exact ⟨0, gC, gR, rfl, SC.rf, SR.rf, (if_pos rfl).symm, Or.inl rfl⟩
  · have n0 : ¬ nI r = 0 := nI_ne0 (by omega) (by omega)
    have e2 : (2 : Int32) = nI 2 := rfl
    rw [if_neg n0, if_neg (nI_nle (by omega) (by omega)), a2, wBd_e, wGi_ok (by omega) (by omega), a3, wGr_ok a1, e2, a4, wB2_e, wLe_e, nI_clamp (by omega), of_ev gR (by omega), wBd_e, at0_ev a5, wB2_e]
    have e9' : gC' 9 i 0 0 = gR 1 0 0 480 := by rw [a7 9 (by decide) (by decide), a6 9 (by decide) (by decide)]; exact e9
    have v2' : gC1 19 i v 2 = gR 1 0 0 (30 * v + 2) := by rw [a6 19 (by decide) (by decide)]; exact v2
    rw [e9', v2']
    by_cases c : 0 ≤ lg_cmp (gR 1 0 0 480).toInt64 ((gR 1 0 0 (30 * v + 2)).toInt64 + (if (0 : Int32) < y then y else 0).toInt64)
    · rw [if_pos c, if_pos c]
      exact ⟨0, gC', gR', rfl, a6.tr a7, a8, (if_pos rfl).symm, Or.inl rfl⟩
    · rw [if_neg c, if_neg c]
      exact ⟨1, gC', gR', rfl, a6.tr a7, a8, (if_neg (by decide)).symm, Or.inr rfl⟩
def GW (w : Int32) : Prop := w = -1 ∨ ∃ c : Nat, c < 9 ∧ w = nI c
theorem hind_a {i nv nf ns v a : Nat} {g1 g2 : Mm} (h : PS i g1 g2 nv nf ns) (hv : v < nv) (ha : a < 8) : ∃ w, fX4_hindrance_b80 g1 i (nI v) (nI a) v = some (g1, w) ∧ fX11_hindrance_b97 g2 (nI v) (nI a) (g2 1 0 0 480) = some (g2, w) ∧ GW w := by
  have hv12 := h.nv12
  unfold fX4_hindrance_b80 fX11_hindrance_b97
  by_cases c7 : a = 7
  · subst c7
    have e9 := h.e9
    have v1 := h.v1 hv
    have v3 := h.v3 hv
    have v4 := h.v4 hv
    have u := h.e10_7
    have u : g1 10 i 0 7 = g2 1 0 0 483 := u
    simp (disch := omega) only [li_0, li_1, li_2, li_3, li_4, li_5, li_6, li_7, li_8, li_9, li_10, li_11, li_12, li_13, li_14, li_15, li_16, li_17, li_18, li_19, li_30, li_32, li_40, li_41, li_42, li_43, li_45, li_48, li_57, li_59, li_60, li_61, li_63, li_97, li_99, li_122, li_160, li_200, li_255, li_256, li_257, li_258, li_259, li_360, li_460, li_462, li_470, li_475, li_480, li_481, li_482, li_483, li_484, li_490, li_496, li_510, li_999, li_9999, li_10000, li_10008, li_10009, li_10010, li_10011, li_10012, li_10013, li_10014, li_10015, li_10016, li_100000, wGi_ok, wGb_0, wGb_1, wLe_e, wBd_e, wB2_e, wEx_e, nI_mul, nI_add, nI_clamp, nI_leI, nI_ltI, nI_eq, nI_m1, lim_ev, limR_ev, if_true, e9, v1, v3, v4, u]
    by_cases c : g2 1 0 0 480 ≤ g2 1 0 0 (30 * v + 1) + g2 1 0 0 (30 * v + 5) + g2 1 0 0 (30 * v + 3)
    · rw [if_pos c, if_pos c]
      exact ⟨_, rfl, rfl, Or.inl rfl⟩
    · rw [if_neg c, if_neg c]
      by_cases c2 : g2 1 0 0 483 = nI 0
      · refine ⟨nI 7, if_pos c2, if_pos c2, Or.inr ⟨7, by omega, rfl⟩⟩
      · refine ⟨-nI 1, if_neg c2, if_neg c2, Or.inl rfl⟩
  · have c : ¬ nI a = (7 : Int32) := fun e => c7 (by
      have e : nI a = nI 7 := e
      rwa [nI_eq (by omega) (by omega)] at e)
    rw [if_neg c, if_neg c]
    exact ⟨_, rfl, rfl, Or.inl rfl⟩
theorem hind_b {i nv nf ns v a : Nat} {g1 g2 : Mm} (h : PS i g1 g2 nv nf ns) (hv : v < nv) (ha : a < 8) : ∃ w, fX4_hindrance_b50 g1 i (nI v) (nI a) v = some (g1, w) ∧ fX11_hindrance_b72 g2 (nI v) (nI a) (g2 1 0 0 480) = some (g2, w) ∧ GW w := by
  have hv12 := h.nv12
  obtain ⟨w, w1, w2, w3⟩ := hind_a h hv ha
  have kr := h.2.2.2.2.2.2.2.2.1 a ha
  unfold fX4_hindrance_b50 fX11_hindrance_b72
  rw [truck_ev ha, wBd_e, wGi_ok (by omega) (by omega), nI_clamp (by omega), kr]
  rcases sv7 a ha with c | ⟨k', hk', c⟩
  · rw [c, if_pos (by decide), if_pos rfl]
    exact ⟨w, w1, w2, w3⟩
  · have c1 : ¬ nI k' < 0 := nI_pos (by omega)
    have c2 : ¬ nI k' = (-1 : Int32) := fun e => (nI_m1 (by omega)).mp e
    have e2 : (475 : Int32) + nI k' = nI (475 + k') := by simp only [li_0, li_1, li_2, li_3, li_4, li_5, li_6, li_7, li_8, li_9, li_10, li_11, li_12, li_13, li_14, li_15, li_16, li_17, li_18, li_19, li_30, li_32, li_40, li_41, li_42, li_43, li_45, li_48, li_57, li_59, li_60, li_61, li_63, li_97, li_99, li_122, li_160, li_200, li_255, li_256, li_257, li_258, li_259, li_360, li_460, li_462, li_470, li_475, li_480, li_481, li_482, li_483, li_484, li_490, li_496, li_510, li_999, li_9999, li_10000, li_10008, li_10009, li_10010, li_10011, li_10012, li_10013, li_10014, li_10015, li_10016, li_100000, nI_add]
    have e3 : (470 : Int32) + nI k' = nI (470 + k') := by simp only [li_0, li_1, li_2, li_3, li_4, li_5, li_6, li_7, li_8, li_9, li_10, li_11, li_12, li_13, li_14, li_15, li_16, li_17, li_18, li_19, li_30, li_32, li_40, li_41, li_42, li_43, li_45, li_48, li_57, li_59, li_60, li_61, li_63, li_97, li_99, li_122, li_160, li_200, li_255, li_256, li_257, li_258, li_259, li_360, li_460, li_462, li_470, li_475, li_480, li_481, li_482, li_483, li_484, li_490, li_496, li_510, li_999, li_9999, li_10000, li_10008, li_10009, li_10010, li_10011, li_10012, li_10013, li_10014, li_10015, li_10016, li_100000, nI_add]
    have u := h.2.2.1 11 0 k' _ (ix_e11s hk')
    have u' := h.2.2.1 10 0 k' _ (ix_e10s hk')
    unfold fX11_isFree
    rw [c, if_neg c1, if_neg c2, wGi_ok (by omega) (by omega), wGi_ok (by omega) (by omega), nI_clamp (show k' < 2 ^ 31 by omega), wGi_ok (by omega) (by omega), e2, e3, wGi_ok (by omega) (by omega), wGi_ok (by omega) (by omega), nI_clamp (show 475 + k' < 2 ^ 31 by omega), nI_clamp (show 470 + k' < 2 ^ 31 by omega), u, u']
    by_cases q : g2 1 0 0 (475 + k') < g2 1 0 0 (470 + k')
    · rw [if_pos q, if_neg (Int32.not_le.mpr q), wBd_e, if_neg (by decide)]
      exact ⟨w, w1, w2, w3⟩
    · rw [if_neg q, if_pos (Int32.not_lt.mp q), wBd_e, if_pos rfl]
      exact ⟨3, rfl, rfl, Or.inr ⟨3, by omega, rfl⟩⟩
theorem hind_c {i nv nf ns v a : Nat} {g1 g2 : Mm} (h : PS i g1 g2 nv nf ns) (hv : v < nv) (ha : a < 8) : ∃ w, fX4_hindrance_b22 g1 i (nI v) (nI a) v = some (g1, w) ∧ fX11_hindrance_b46 g2 (nI v) (nI a) (g2 1 0 0 480) = some (g2, w) ∧ GW w := by
  have hv12 := h.nv12
  obtain ⟨w, w1, w2, w3⟩ := hind_b h hv ha
  unfold fX4_hindrance_b22 fX11_hindrance_b46
  by_cases c7 : a = 7
  · subst c7
    have e9 := h.e9
    have v0 := h.v0 hv
    have v2 := h.v2 hv
    obtain ⟨⟨kd, hk6, hkd⟩, -⟩ := h.2.2.2.2.1.2.2.2.2.1 v hv
    have e7 : nI 7 = (7 : Int32) := rfl
    have tk := ticksOf_ev (a := 7) (show v < 12 by omega) hk6 (by omega) hkd h.2.2.2.2.2
    have e2 : (2 : Int32) = nI 2 := rfl
    rw [if_pos e7, if_pos e7, v0, hkd, lasts_ev hk6 (by omega), wBd_e, e2, of_ev g2 (by omega), wBd_e, ← e7, tk, wBd_e, v2, e9]
    by_cases q : g2 1 0 0 (30 * v + 2) - sV 5 (8 * kd + 7) ≤ g2 1 0 0 480
    · rw [if_pos q, if_pos q]
      exact ⟨w, w1, w2, w3⟩
    · rw [if_neg q, if_neg q]
      exact ⟨nI 2, rfl, rfl, Or.inr ⟨2, by omega, rfl⟩⟩
  · have c : ¬ nI a = (7 : Int32) := fun e => c7 (by
      have e : nI a = nI 7 := e
      rwa [nI_eq (by omega) (by omega)] at e)
    rw [if_neg c, if_neg c]
    exact ⟨w, w1, w2, w3⟩
theorem hind_pr {i nv nf ns v a : Nat} {gC gR : Mm} (h : PS i gC gR nv nf ns) (hr : RS i gC gR) (hb : VB i gC nv) (hv : v < nv) (ha : a < 8) :
    ∃ w gC' gR', fX4_hindrance gC i (nI v) (nI a) = some (gC', w) ∧ fX11_hindrance gR (nI v) (nI a) = some (gR', w) ∧ SC gC gC' ∧ SR gR gR' ∧ GW w := by
  have hv12 := h.nv12
  by_cases c5 : a = 5
  · subst c5
    obtain ⟨b, gC', gR', b1, b2, b3, b4, b5⟩ := wait_pr h hr hb hv
    rw [b4]
    unfold fX4_hindrance
    have e5 : nI 5 = (5 : Int32) := rfl
    rw [wGi_ok (by omega) (by omega), if_pos e5, b1, wB2_e]
    rcases b5 with rfl | rfl
    · rw [if_pos rfl, if_pos rfl, nI_clamp (by omega)]
      obtain ⟨⟨hP, -⟩, -⟩ := TK.scr h b2 b3
      obtain ⟨w, w1, w2, w3⟩ := hind_c hP hv (a := 5) (by omega)
      rw [b3 1 (by decide)] at w2
      exact ⟨w, gC', gR', w1, w2, b2, b3, w3⟩
    · rw [if_neg (by decide), if_neg (by decide)]
      exact ⟨4, gC', gR', rfl, rfl, b2, b3, Or.inr ⟨4, by omega, rfl⟩⟩
  · have c : ¬ nI a = (5 : Int32) := fun e => c5 (by
      have e : nI a = nI 5 := e
      rwa [nI_eq (by omega) (by omega)] at e)
    obtain ⟨w, w1, w2, w3⟩ := hind_c h hv ha
    have i480 : ∀ (β : Type) (f : Option β), wGi (480 : Int32) 510 f = f := fun β f => wGi_ok (n := 480) (by omega) (by omega)
    have c480 : (480 : Int32).toNatClampNeg = 480 := nI_clamp (n := 480) (by omega)
    unfold fX4_hindrance fX11_hindrance
    rw [wGi_ok (by omega) (by omega), if_neg c, nI_clamp (show v < 2 ^ 31 by omega), i480, c480, wLe_e, if_neg c]
    exact ⟨w, gC, gR, w1, w2, SC.rf, SR.rf, w3⟩
