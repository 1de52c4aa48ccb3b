-- ===== (5): ice again =====
theorem free_ev {g : Mm} {s : Nat} (hs : s < 5) : fX11_isFree g (nI s) = some (if g 1 0 0 (470 + s) ≤ g 1 0 0 (475 + s) then 0 else 1) := by
  have e2 : (475 : Int32) + nI s = nI (475 + s) := by simp only [li_0, li_1, li_2, li_3, li_4, li_5, li_6, li_7, li_8, li_9, li_10, li_11, li_12, li_13, li_14, li_15, li_16, li_17, li_18, li_19, li_30, li_32, li_40, li_41, li_42, li_43, li_45, li_48, li_57, li_59, li_60, li_61, li_63, li_97, li_99, li_122, li_160, li_200, li_255, li_256, li_257, li_258, li_259, li_360, li_460, li_462, li_470, li_475, li_480, li_481, li_482, li_483, li_484, li_490, li_496, li_510, li_999, li_9999, li_10000, li_10008, li_10009, li_10010, li_10011, li_10012, li_10013, li_10014, li_10015, li_10016, li_100000, nI_add]
  have e3 : (470 : Int32) + nI s = nI (470 + s) := by simp only [li_0, li_1, li_2, li_3, li_4, li_5, li_6, li_7, li_8, li_9, li_10, li_11, li_12, li_13, li_14, li_15, li_16, li_17, li_18, li_19, li_30, li_32, li_40, li_41, li_42, li_43, li_45, li_48, li_57, li_59, li_60, li_61, li_63, li_97, li_99, li_122, li_160, li_200, li_255, li_256, li_257, li_258, li_259, li_360, li_460, li_462, li_470, li_475, li_480, li_481, li_482, li_483, li_484, li_490, li_496, li_510, li_999, li_9999, li_10000, li_10008, li_10009, li_10010, li_10011, li_10012, li_10013, li_10014, li_10015, li_10016, li_100000, nI_add]
  unfold fX11_isFree
  rw [e2, e3, wGi_ok (by omega) (by omega), wGi_ok (by omega) (by omega), nI_clamp (by omega), nI_clamp (by omega)]
  by_cases c : g 1 0 0 (470 + s) ≤ g 1 0 0 (475 + s)
  · rw [if_pos c, if_pos c]
  · rw [if_neg c, if_neg c]
theorem under17 {i nv nf ns v : Nat} {gC gR : Mm} (h : PS i gC gR nv nf ns) (hv : v < nv) : fX9_isUnder gC i v 6 = some (if gR 1 0 0 (30 * v + 17) = 0 then 0 else 1) ∧ ∃ n : Nat, n ≤ 40 ∧ gR 1 0 0 (30 * v + 17) = nI n := by
  obtain ⟨⟨m, hm, em, hb⟩, -⟩ := h.2.2.2.1 v hv
  obtain ⟨hb1, hb2⟩ := hb 6 (by omega)
  have e17 : 30 * v + 11 + 6 = 30 * v + 17 := by omega
  rw [e17] at hb1
  have u := under_ev (i := i) (v := v) hm (show 6 < 8 by omega) em
  refine ⟨?_, (h.2.2.2.2.1.2.2.2.2.2.1 v hv).2 6 (by omega)⟩
  refine u.trans ?_
  by_cases c : m.testBit 6 = true
  · rw [if_pos c, if_neg (hb1.mp c)]
  · rw [if_neg c, if_pos (Decidable.byContradiction fun q => c (hb1.mpr q))]
theorem again_step {i nv nf ns v : Nat} {g1 g2 : Mm} (h : PS i g1 g2 nv nf ns) (hv : v < nv) :
    ∃ gC' gR', fX4_iceAgain g1 i i v = some gC' ∧ (wBd (fX11_of g2 (nI v) (6 : Int32)) fun y64 => if y64 = (5 : Int32) then (wBd (fX11_needsIce g2 (nI v)) fun y69 => if y69 = 0 then (fX11_ticks_b156 g2 (nI v)) else (wBd (fX11_of g2 (nI v) (17 : Int32)) fun y72 => if y72 = 0 then (wBd (fX11_isFree g2 (4 : Int32)) fun y75 => if y75 = 0 then (fX11_ticks_b156 g2 (nI v)) else (wBd (fX11_begins g2 (nI v) (6 : Int32)) fun g79 => fX11_ticks_b156 g79 (nI v))) else (fX11_ticks_b156 g2 (nI v)))) else (fX11_ticks_b156 g2 (nI v))) = some (.inl (gR', nI (v + 1))) ∧ TK i nv nf ns g1 g2 gC' gR' ∧ HK g1 g2 gC' gR' i := by
  have hv12 := h.nv12
  have e9 := h.e9
  have v6 := h.v6 hv
  have w6 : g1 10 i 0 6 = g2 1 0 0 482 := h.e10_6
  have w4 : g1 10 i 0 4 = g2 1 0 0 474 := h.e10_4
  have b4 : g1 11 i 0 4 = g2 1 0 0 479 := h.e11_4
  obtain ⟨r, i1, i2, i3⟩ := ice_pr h hv
  obtain ⟨u1, n, hn, u2⟩ := under17 h hv
  have n6 : (6 : Int32) = nI 6 := rfl
  have n17 : (17 : Int32) = nI 17 := rfl
  have n4 : (4 : Int32) = nI 4 := rfl
  have stay : ∃ gC' gR', some g1 = some gC' ∧ fX11_ticks_b156 g2 (nI v) = some (.inl (gR', nI (v + 1))) ∧ TK i nv nf ns g1 g2 gC' gR' ∧ HK g1 g2 gC' gR' i := by
    unfold fX11_ticks_b156
    rw [wLe_e, nI_1]
    exact ⟨_, _, rfl, rfl, TK.rf h, HK.rf⟩
  unfold fX4_iceAgain
  rw [v6, u1, wBd_e, e9, n17, n6, of_ev g2 (by omega), wBd_e, of_ev g2 (by omega), wBd_e, wGi_ok (by omega) (by omega), nI_clamp (by omega), w6, i1, wBd_e, i2, wBd_e, n4, wGi_ok (by omega) (by omega), wGi_ok (by omega) (by omega), nI_clamp (by omega), w4, b4, free_ev (by omega), wBd_e]
  by_cases c5 : g2 1 0 0 (30 * v + 6) = 5
  · rw [if_pos c5, if_pos c5]
    by_cases cr : r = 0
    · have : ∀ (A B : Option Mm), (if (if g2 1 0 0 (30 * v + 17) = 0 then (0 : Int32) else 1) = 0 then (if r = 0 then some g1 else A) else some g1) = some g1 := fun A B => by
        by_cases c : g2 1 0 0 (30 * v + 17) = 0
        · rw [if_pos c, if_pos rfl, if_pos cr]
        · rw [if_neg c, if_neg (by decide)]
      rw [this _ none, if_pos cr]
      exact stay
    · rw [if_neg cr, if_neg cr]
      by_cases c : g2 1 0 0 (30 * v + 17) = 0
      · rw [if_pos c, if_pos rfl, if_pos c]
        have e74 : 470 + 4 = 474 := rfl
        have e79 : 475 + 4 = 479 := rfl
        rw [e74, e79]
        by_cases cf : g2 1 0 0 474 ≤ g2 1 0 0 479
        · rw [if_pos cf, if_pos cf, if_pos rfl]
          exact stay
        · rw [if_neg cf, if_neg cf, if_neg (by decide)]
          obtain ⟨⟨kd, hk6, hkd⟩, -⟩ := h.2.2.2.2.1.2.2.2.2.1 v hv
          have z : ∀ kd, kd < 6 → ¬ sV 5 (8 * kd + 6) = 0 := by decide +kernel
          obtain ⟨a, b, r1, r2, r3, r4⟩ := start_pr (a := 6) h hv (by omega) hk6 hkd (z kd hk6) (by omega)
          rw [r1, r2, wBd_e, wBd_e]
          unfold fX11_ticks_b156
          rw [wLe_e, nI_1]
          exact ⟨a, b, rfl, rfl, r3, r4⟩
      · rw [if_neg c, if_neg (by decide), if_neg c]
        exact stay
  · rw [if_neg c5, if_neg c5]
    exact stay
-- ===== (6): runways =====
theorem toI64_0 : (0 : Int32).toInt64 = 0 := rfl
theorem lt64 {x y : Int32} : x.toInt64 < y.toInt64 ↔ x < y := by
  rw [Int64.lt_iff_toInt_lt, Int32.toInt_toInt64, Int32.toInt_toInt64, Int32.lt_iff_toInt_lt]
theorem add64 (x y : Int32) : (x.toInt64 + y.toInt64).toInt = x.toInt + y.toInt := by
  rw [Int64.toInt_add, Int32.toInt_toInt64, Int32.toInt_toInt64]
  have a1 := x.toInt_lt
  have a2 := x.le_toInt
  have b1 := y.toInt_lt
  have b2 := y.le_toInt
  exact Int.bmod_eq_of_le (by omega) (by omega)
/-- whether a visit could have a runway -/
def Could (g : Mm) (v : Nat) : Prop := (g 1 0 0 (30 * v + 6) = 1 ∧ ∃ s : Nat, s < 6 ∧ fX11_standFor g (nI v) = some (nI s)) ∨ (g 1 0 0 (30 * v + 6) = 5)
theorem could_pr {i nv nf ns v : Nat} {g1 g2 : Mm} (h : PS i g1 g2 nv nf ns) (hv : v < nv) (r : Nat) : ∃ z, (z = 0 ∨ (z = 1 ∧ Could g2 v)) ∧ fX4_isReady g1 i (nI v) (nI r) = fX4_isReady_b36 g1 i (nI v) (nI r) z ∧ fX11_isReady g2 (nI v) (nI r) = if z = 0 then some (g2, 0) else fX11_isReady_b93 g2 (nI v) (nI r) := by
  have hv12 := h.nv12
  have hs6 := h.ns6
  have e9 := h.e9
  have v6 := h.v6 hv
  have v7 := h.v7 hv
  have w6 : g1 10 i 0 6 = g2 1 0 0 482 := h.e10_6
  obtain ⟨ri, i1, i2, i3⟩ := ice_pr h hv
  obtain ⟨u1, n, hn, u2⟩ := under17 h hv
  obtain ⟨s, s1, s2, s3⟩ := stand_pr h hv
  have n6 : (6 : Int32) = nI 6 := rfl
  have n7 : (7 : Int32) = nI 7 := rfl
  have n17 : (17 : Int32) = nI 17 := rfl
  have i480 : ∀ (β : Type) (f : Option β), wGi (480 : Int32) 510 f = f := fun β f => wGi_ok (n := 480) (by omega) (by omega)
  have c480 : (480 : Int32).toNatClampNeg = 480 := nI_clamp (n := 480) (by omega)
  have c0 : ¬ ((1 : Int32) = 0) := by decide
  unfold fX4_isReady fX11_isReady
  rw [wGi_ok (by omega) (by omega), nI_clamp (show v < 2 ^ 31 by omega), v6, n6, of_ev g2 (by omega), wBd_e]
  by_cases h1 : g2 1 0 0 (30 * v + 6) = 1
  · rw [if_pos h1, if_pos h1, s1, wBd_e, s2, wBd_e]
    rcases s3 with rfl | ⟨k, hk, rfl⟩
    · rw [if_pos (show (-1 : Int32) < 0 by decide), if_pos rfl]
      refine ⟨0, Or.inl rfl, rfl, ?_⟩
      have n5 : ¬ g2 1 0 0 (30 * v + 6) = 5 := by rw [h1]; decide
      unfold fX11_isReady_b24 fX11_isReady_b25 fX11_isReady_b79 fX11_isReady_b80
      rw [n6, of_ev g2 (by omega), wBd_e, if_neg n5, if_pos rfl, if_pos rfl]
    · have q1 : ¬ nI k < 0 := nI_pos (by omega)
      have q2 : ¬ nI k = -1 := fun e => (nI_m1 (by omega)).mp e
      rw [if_neg q1, if_neg q2]
      refine ⟨1, Or.inr ⟨rfl, Or.inl ⟨h1, k, by omega, s2⟩⟩, rfl, ?_⟩
      have n5 : ¬ g2 1 0 0 (30 * v + 6) = 5 := by rw [h1]; decide
      unfold fX11_isReady_b25 fX11_isReady_b79 fX11_isReady_b80
      rw [n6, of_ev g2 (by omega), wBd_e, if_neg n5, if_neg c0, if_neg c0]
  · rw [if_neg h1, if_neg h1]
    unfold fX4_isReadyToLeave fX11_isReady_b24 fX11_isReady_b25 fX11_isReady_b79 fX11_isReady_b80
    rw [v6, u1, wBd_e, e9, v7, n17, n7, n6, of_ev g2 (by omega), wBd_e, of_ev g2 (by omega), wBd_e, of_ev g2 (by omega), wBd_e, wGi_ok (by omega) (by omega), nI_clamp (by omega), w6, i1, wBd_e, i2, wBd_e, i480, c480, if_pos rfl, if_pos rfl, if_pos rfl, if_neg c0]
    have no : ∃ z, (z = 0 ∨ (z = 1 ∧ Could g2 v)) ∧ (wBd (some (0 : Int32)) fun y4 => fX4_isReady_b36 g1 i (nI v) (nI r) y4) = fX4_isReady_b36 g1 i (nI v) (nI r) z ∧ some (g2, (0 : Int32)) = if z = 0 then some (g2, 0) else fX11_isReady_b93 g2 (nI v) (nI r) := ⟨0, Or.inl rfl, rfl, (if_pos rfl).symm⟩
    by_cases h5 : g2 1 0 0 (30 * v + 6) = 5
    · rw [if_pos h5, if_pos h5]
      by_cases c4 : g2 1 0 0 480 - g2 1 0 0 (30 * v + 7) < 4
      · rw [if_pos c4, if_pos c4]; exact no
      · rw [if_neg c4, if_neg c4]
        by_cases c : g2 1 0 0 (30 * v + 17) = 0
        · rw [if_pos c, if_pos rfl, if_pos c]
          rcases i3 with rfl | rfl
          · rw [if_pos rfl, if_pos rfl, wBd_e]
            exact ⟨1, Or.inr ⟨rfl, Or.inr h5⟩, rfl, (if_neg c0).symm⟩
          · rw [if_neg c0, if_neg c0]; exact no
        · rw [if_neg c, if_neg c0, if_neg c]; exact no
    · rw [if_neg h5, if_neg h5]; exact no
