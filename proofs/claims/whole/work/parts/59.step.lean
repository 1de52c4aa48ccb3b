-- ===== (7): late ticks =====
def HI (i nv : Nat) (g1 g2 : Mm) : Prop := ∀ v, v < nv → g2 1 0 0 (30 * v + 6) = nI 4 → HN i v g1 g2 ∧ g2 21 0 0 v ≠ -1
theorem HI.k2 {i nv : Nat} {g1 g2 g1' g2' : Mm} (hn : nv ≤ 12) (h : HI i nv g1 g2) (k : HK2 g1 g2 g1' g2' i) : HI i nv g1' g2' := fun v hv e => by
  obtain ⟨⟨h1, h2⟩, h3⟩ := h v hv (k.1 v (by omega) e)
  refine ⟨⟨?_, ?_⟩, ?_⟩
  · rw [k.2.1, k.2.2]; exact h1
  · rw [k.2.2]; exact h2
  · rw [k.2.2]; exact h3
theorem runways_ev {i nv nf ns v : Nat} {g1 g2 : Mm} (h : PS i g1 g2 nv nf ns) : ∃ w : Nat, w < 9 ∧ fX4_causeOfRunways g1 i = some (nI w) ∧ fX11_causeOf g2 (nI v) = fX11_causeOf_b30 g2 (nI v) (nI w) := by
  have w5 : g1 10 i 0 5 = g2 1 0 0 481 := h.e10_5
  have w8 : g1 10 i 0 8 = g2 1 0 0 484 := h.e10_8
  have n5 : (5 : Int32) = nI 5 := rfl
  have n8 : (8 : Int32) = nI 8 := rfl
  have i481 : ∀ (β : Type) (f : Option β), wGi (481 : Int32) 510 f = f := fun β f => wGi_ok (n := 481) (by omega) (by omega)
  have c481 : (481 : Int32).toNatClampNeg = 481 := nI_clamp (n := 481) (by omega)
  have i484 : ∀ (β : Type) (f : Option β), wGi (484 : Int32) 510 f = f := fun β f => wGi_ok (n := 484) (by omega) (by omega)
  have c484 : (484 : Int32).toNatClampNeg = 484 := nI_clamp (n := 484) (by omega)
  unfold fX4_causeOfRunways fX11_causeOf fX11_causeOf_b29
  rw [n5, n8, wGi_ok (by omega) (by omega), nI_clamp (by omega), wGi_ok (by omega) (by omega), nI_clamp (by omega), w5, w8, i481, c481, i484, c484]
  by_cases c : g2 1 0 0 481 = 1
  · rw [if_pos c, if_pos c]
    by_cases d : g2 1 0 0 484 = 2
    · rw [if_pos d, if_pos d]; exact ⟨6, by omega, rfl, rfl⟩
    · rw [if_neg d, if_neg d]; exact ⟨5, by omega, rfl, rfl⟩
  · rw [if_neg c, if_neg c]; exact ⟨5, by omega, rfl, rfl⟩
theorem cause_pr {i nv nf ns v : Nat} {g1 g2 : Mm} (h : PS i g1 g2 nv nf ns) (hv : v < nv) (hH : HI i nv g1 g2) : ∃ c : Nat, c < 9 ∧ fX4_causeNow g1 i i v = some (nI c) ∧ fX11_causeOf g2 (nI v) = some (nI c) := by
  have hv12 := h.nv12
  have e9 := h.e9
  have v6 := h.v6 hv
  have v7 := h.v7 hv
  have w6 : g1 10 i 0 6 = g2 1 0 0 482 := h.e10_6
  obtain ⟨w, hw, r1, r2⟩ := runways_ev (v := v) h
  obtain ⟨-, -, ⟨n, hn, en⟩, -⟩ := h.2.2.2.2.1.2.2.2.2.1 v hv
  obtain ⟨ri, i1, i2, i3⟩ := ice_pr h hv
  obtain ⟨u1, m, hm, u2⟩ := under17 h hv
  obtain ⟨s, s1, s2, s3⟩ := stand_pr h hv
  have n6 : (6 : Int32) = nI 6 := rfl
  have n7 : (7 : Int32) = nI 7 := rfl
  have n17 : (17 : Int32) = nI 17 := rfl
  have i480 : ∀ (β : Type) (f : Option β), wGi (480 : Int32) 510 f = f := fun β f => wGi_ok (n := 480) (by omega) (by omega)
  have c480 : (480 : Int32).toNatClampNeg = 480 := nI_clamp (n := 480) (by omega)
  have c0 : ¬ ((1 : Int32) = 0) := by decide
  have eqn : ∀ k : Nat, k < 100 → (nI n = nI k ↔ n = k) := fun k hk => nI_eq (by omega) (by omega)
  rw [r2]
  unfold fX4_causeNow fX11_causeOf_b30
  rw [wLe_e, v6, n6, of_ev g2 (by omega), wBd_e, en]
  by_cases h1 : nI n = 1
  · rw [if_pos h1, if_pos h1, s1, s2, wBd_e, wBd_e]
    rcases s3 with rfl | ⟨k, hk, rfl⟩
    · rw [if_neg (show ¬ (0 : Int32) ≤ -1 by decide), if_pos rfl]
      exact ⟨1, by omega, rfl, rfl⟩
    · have hs6 := h.ns6
      rw [if_pos (nI_pos' (show k < 2 ^ 31 by omega)), if_neg (show ¬ nI k = -1 from fun e => (nI_m1 (by omega)).mp e), r1]
      exact ⟨w, hw, rfl, rfl⟩
  · rw [if_neg h1, if_neg h1]
    by_cases h2 : nI n = 2
    · rw [if_pos h2, if_pos h2]; exact ⟨0, by omega, rfl, rfl⟩
    · rw [if_neg h2, if_neg h2]
      by_cases h3 : nI n = 3
      · rw [if_pos h3, if_pos h3]; exact ⟨0, by omega, rfl, rfl⟩
      · rw [if_neg h3, if_neg h3]
        by_cases h4 : nI n = 4
        · rw [if_pos h4, if_pos h4, wGi_ok (by omega) (by omega), nI_clamp (by omega)]
          obtain ⟨⟨k1, k2⟩, k3⟩ := hH v hv (en.trans h4)
          rcases k2 with q | ⟨c, hc, q⟩
          · exact (k3 q).elim
          · rw [k1, q]; exact ⟨c, hc, rfl, rfl⟩
        · rw [if_neg h4, if_neg h4]
          by_cases h5 : nI n = 5
          · rw [if_pos h5, if_pos h5, ← n6, u1, wBd_e, n17, of_ev g2 (by omega), wBd_e, n6, wGi_ok (by omega) (by omega), nI_clamp (by omega), w6, e9, i1, i2, wBd_e, wBd_e, i480, c480, n7, of_ev g2 (by omega), wBd_e, v7, r1, wBd_e]
            by_cases c : g2 1 0 0 (30 * v + 17) = 0
            · rw [if_pos c, if_pos rfl, if_neg (show ¬ (0 : Int32) < g2 1 0 0 (30 * v + 17) by rw [c]; decide)]
              rcases i3 with rfl | rfl
              · rw [if_pos rfl]
                by_cases d : 4 ≤ g2 1 0 0 480 - g2 1 0 0 (30 * v + 7)
                · rw [if_pos d]; exact ⟨w, hw, rfl, rfl⟩
                · rw [if_neg d]; exact ⟨2, by omega, rfl, rfl⟩
              · rw [if_neg c0]; exact ⟨8, by omega, rfl, rfl⟩
            · have m0 : 0 < m := Nat.pos_of_ne_zero fun e => c (by rw [u2, e]; rfl)
              have pos : (0 : Int32) < g2 1 0 0 (30 * v + 17) := by rw [u2]; exact nI_lt (a := 0) m0 (by omega)
              rw [if_neg c, if_neg c0, if_pos pos]
              exact ⟨8, by omega, rfl, rfl⟩
          · rw [if_neg h5, if_neg h5]; exact ⟨0, by omega, rfl, rfl⟩
/-- what blaming one visit changes -/
def FrB (i nv nf : Nat) (g g' : Mm) : Prop := ∀ t i' v j, ¬ wrC i nv nf t i' v j → ¬ (t = 21 ∧ i' = i ∧ v < nv) → g' t i' v j = g t i' v j
def BL (i nv nf ns k : Nat) (g1 g2 a b : Mm) : Prop := PS i a b nv nf ns ∧ FrB i nv nf g1 a ∧ FrR g2 b ∧ HK g1 g2 a b i ∧ b 1 0 0 480 = g2 1 0 0 480 ∧ (∀ v' c', v' ≠ k → a 21 i v' c' = g1 21 i v' c') ∧ (∀ c', a 21 i k c' = g1 21 i k c' ∨ a 21 i k c' = g1 21 i k c' + 1)
/-- how many late ticks of a cause, at most -/
def CB (i nv t : Nat) (g : Mm) : Prop := ∀ v, v < nv → ∀ c, c < 9 → ∃ n : Nat, n ≤ t ∧ g 21 i v c = nI n
theorem CB.fr {i nv nf t i' nv' : Nat} {g g' : Mm} (h : CB i nv t g) (hC : FrC i' nv' nf g g') : CB i nv t g' := fun v hv c hc => by
  obtain ⟨n, hn, e⟩ := h v hv c hc
  exact ⟨n, hn, (hC 21 i v c (by unfold wrC; omega)).trans e⟩
theorem blame_step {i nv nf ns k : Nat} {g1 g2 : Mm} (h : PS i g1 g2 nv nf ns) (hk : k < nv) (hH : HI i nv g1 g2) :
    ∃ a b, fX4_step_B180 g1 i (nI k) = some (.inl (a, nI (k + 1))) ∧ fX11_ticks_B205 g2 (nI k) = some (.inl (b, nI (k + 1))) ∧ BL i nv nf ns k g1 g2 a b := by
  have hv12 := h.nv12
  have hf16 := h.nf16
  have e9 := h.e9
  have v6 := h.v6 hk
  have v2 := h.v2 hk
  obtain ⟨c, hc, r1, r2⟩ := cause_pr h hk hH
  have n6 : (6 : Int32) = nI 6 := rfl
  have n2 : (2 : Int32) = nI 2 := rfl
  have i480 : ∀ (β : Type) (f : Option β), wGi (480 : Int32) 510 f = f := fun β f => wGi_ok (n := 480) (by omega) (by omega)
  have c480 : (480 : Int32).toNatClampNeg = 480 := nI_clamp (n := 480) (by omega)
  have i30 : ((30 : Int32) * nI k + 19) + nI c = nI (30 * k + 19 + c) := by simp only [li_0, li_1, li_2, li_3, li_4, li_5, li_6, li_7, li_8, li_9, li_10, li_11, li_12, li_13, li_14, li_15, li_16, li_17, li_18, li_19, li_30, li_32, li_40, li_41, li_42, li_43, li_45, li_48, li_57, li_59, li_60, li_61, li_63, li_97, li_99, li_122, li_160, li_200, li_255, li_256, li_257, li_258, li_259, li_360, li_460, li_462, li_470, li_475, li_480, li_481, li_482, li_483, li_484, li_490, li_496, li_510, li_999, li_9999, li_10000, li_10008, li_10009, li_10010, li_10011, li_10012, li_10013, li_10014, li_10015, li_10016, li_100000, nI_mul, nI_add]
  have stay : ∃ a b, (some (.inl (g1, nI (k + 1))) : Option ((Mm × Int32) ⊕ Mm)) = some (.inl (a, nI (k + 1))) ∧ fX11_ticks_b263 g2 (nI k) = some (.inl (b, nI (k + 1))) ∧ BL i nv nf ns k g1 g2 a b := by
    unfold fX11_ticks_b263
    rw [wLe_e, nI_1]
    exact ⟨_, _, rfl, rfl, h, fun _ _ _ _ _ _ => rfl, FrR.rf, HK.rf, rfl, fun _ _ _ => rfl, fun _ => Or.inl rfl⟩
  unfold fX4_step_B180 fX11_ticks_B205 fX4_blame
  rw [h.1.2.1, h.2.1.1, if_neg (nI_ge hk (by omega)), if_neg (nI_ge hk (by omega)), wGi_ok (by omega) (by omega), nI_clamp (show k < 2 ^ 31 by omega), v6, n6, of_ev g2 (by omega), wBd_e]
  by_cases c5 : 5 < g2 1 0 0 (30 * k + 6)
  · rw [if_pos c5, if_pos c5, wBd_e, wLe_e, nI_1]
    exact stay
  · rw [if_neg c5, if_neg c5, v2, e9, i480, c480, n2, of_ev g2 (by omega), wBd_e]
    by_cases ct : g2 1 0 0 480 < g2 1 0 0 (30 * k + 2)
    · rw [if_neg (Int32.not_le.mpr ct), if_pos ct, wBd_e, wLe_e, nI_1]
      exact stay
    · rw [if_pos (Int32.not_lt.mp ct), if_neg ct, r1, wBd_e, if_neg (nI_pos (by omega)), wGi_ok (by omega) (by omega), wGi_ok (by omega) (by omega), nI_clamp (show c < 2 ^ 31 by omega), wLe_e, wBd_e, wLe_e, nI_1, r2, wBd_e, i30, wGi_ok (by omega) (by omega), wGi_ok (by omega) (by omega), nI_clamp (show 30 * k + 19 + c < 2 ^ 31 by omega), wLe_e]
      unfold fX11_ticks_b263
      rw [wLe_e, nI_1, h.c21 hk hc]
      refine ⟨_, _, rfl, rfl, h.set (ix_c21 hk hc) (h.2.2.2.2.1.free (by unfold piI; rintro (q | q | q | q | q | ⟨v', q1, q2⟩ | ⟨f, q1, q2⟩) <;> omega)), fun t i' v j q q' => st_ne (by omega), FrR.rf.st (Or.inl rfl), HK.rf.st (Or.inl (by decide)) (by omega), st_ne (by omega), fun v' c' q => st_ne (by omega), fun c' => ?_⟩
      by_cases e : c' = c
      · subst e
        rw [st_eq, h.c21 hk hc]
        exact Or.inr rfl
      · exact Or.inl (st_ne (by omega))
-- ===== a tick =====
def FrT (i nv nf : Nat) (g g' : Mm) : Prop := ∀ t i' v j, ¬ wrC i nv nf t i' v j → ¬ ((t = 9 ∧ i' = i ∧ j = 0) ∨ (t = 21 ∧ i' = i ∧ v < nv)) → g' t i' v j = g t i' v j
def FN (i nv nf ns t : Nat) (g1 g2 a b : Mm) : Prop := PS i a b nv nf ns ∧ FrT i nv nf g1 a ∧ FrR g2 b ∧ b 1 0 0 480 = nI (t + 1) ∧ CB i nv (t + 1) a
theorem FN.pre {i nv nf ns t : Nat} {g1 g2 g1' g2' a b : Mm} (h : TK i nv nf ns g1 g2 g1' g2') (k : FN i nv nf ns t g1' g2' a b) : FN i nv nf ns t g1 g2 a b := ⟨k.1, fun t i' v j q q' => (k.2.1 t i' v j q q').trans (h.2.1 t i' v j q), h.2.2.tr k.2.2.1, k.2.2.2⟩
theorem TK.same {i nv nf ns : Nat} {g1 g2 a b : Mm} (h : PS i g1 g2 nv nf ns) (k : TK i nv nf ns g1 g2 a b) : b 1 0 0 480 = g2 1 0 0 480 ∧ b 1 0 0 481 = g2 1 0 0 481 ∧ b 1 0 0 484 = g2 1 0 0 484 := by
  refine ⟨?_, ?_, ?_⟩
  · exact k.1.e9.symm.trans ((k.2.1 9 i 0 0 (by unfold wrC; omega)).trans h.e9)
  · exact (show a 10 i 0 5 = b 1 0 0 481 from k.1.e10_5).symm.trans ((k.2.1 10 i 0 5 (by unfold wrC; omega)).trans h.e10_5)
  · exact (show a 10 i 0 8 = b 1 0 0 484 from k.1.e10_8).symm.trans ((k.2.1 10 i 0 8 (by unfold wrC; omega)).trans h.e10_8)
section TICK
variable {i nv nf ns t : Nat} {g1 g2 : Mm}
theorem st7 (h : PS i g1 g2 nv nf ns) (hH : HI i nv g1 g2) (hc : CB i nv t g1) (ht : g2 1 0 0 480 = nI t) (ht' : t + 1 ≤ 10000) : ∃ a b, fX4_step_L180 g1 i (nI 0) = some a ∧ fX11_ticks_L205 g2 (nI 0) = some b ∧ FN i nv nf ns t g1 g2 a b := by
  have hv12 := h.nv12
  refine wLp_two (f1 := fun q : Mm × Int32 => fX4_step_B180 q.1 i q.2) (f2 := fun q : Mm × Int32 => fX11_ticks_B205 q.1 q.2) (fun a b => FN i nv nf ns t g1 g2 a b)
    (fun k x1 x2 => ∃ a b, x1 = (a, nI k) ∧ x2 = (b, nI k) ∧ PS i a b nv nf ns ∧ FrB i nv nf g1 a ∧ FrR g2 b ∧ HI i nv a b ∧ b 1 0 0 480 = nI t ∧ (∀ v, v < nv → ∀ c, c < 9 → ∃ n : Nat, n ≤ (if v < k then t + 1 else t) ∧ a 21 i v c = nI n)) nv ?_ ?_ (k := 0) (Nat.zero_le _) ⟨g1, g2, rfl, rfl, h, fun _ _ _ _ _ _ => rfl, FrR.rf, hH, ht, fun v hv c hc' => by rw [if_neg (by omega)]; exact hc v hv c hc'⟩ (by omega) (by omega)
  · rintro k x1 x2 hk ⟨a, b, e1, e2, j1, j2, j3, j4, j5, j6⟩
    subst e1; subst e2
    obtain ⟨a', b', r1, r2, k1, k2, k3, k4, k5, k6, k7⟩ := blame_step j1 hk j4
    refine Or.inl ⟨_, _, r1, r2, a', b', rfl, rfl, k1, fun t i' v j q q' => (k2 t i' v j q q').trans (j2 t i' v j q q'), j3.tr k3, j4.k2 hv12 k4.to2, k5.trans j5, fun v hv c hc' => ?_⟩
    obtain ⟨n, hn, en⟩ := j6 v hv c hc'
    by_cases e : v = k
    · subst e
      rw [if_neg (by omega)] at hn
      rw [if_pos (by omega)]
      rcases k7 c with q | q
      · exact ⟨n, by omega, q.trans en⟩
      · exact ⟨n + 1, by omega, by rw [q, en, nI_1]⟩
    · rw [k6 v c e]
      by_cases l : v < k
      · rw [if_pos l] at hn; rw [if_pos (by omega)]; exact ⟨n, hn, en⟩
      · rw [if_neg l] at hn; rw [if_neg (by omega)]; exact ⟨n, hn, en⟩
  · rintro x1 x2 ⟨a, b, e1, e2, j1, j2, j3, j4, j5, j6⟩
    subst e1; subst e2
    have i480 : ∀ (β : Type) (f : Option β), wGi (480 : Int32) 510 f = f := fun β f => wGi_ok (n := 480) (by omega) (by omega)
    have c480 : (480 : Int32).toNatClampNeg = 480 := nI_clamp (n := 480) (by omega)
    try dsimp only
    unfold fX4_step_B180 fX11_ticks_B205
    rw [j1.1.2.1, j1.2.1.1, if_pos (nI_le (Nat.le_refl _) (by omega)), if_pos (nI_le (Nat.le_refl _) (by omega)), wLe_e, wEx_e, i480, i480, c480, wLe_e, wEx_e, j1.e9, j5, nI_1]
    have s := j1.set (x := nI (t + 1)) (ix_e9 (nv := nv) (nf := nf) (ns := ns)) (j1.2.2.2.2.1.tick ht')
    refine ⟨_, _, rfl, rfl, s, fun t' i' v j q q' => (st_ne (by omega)).trans (j2 t' i' v j q (by omega)), j3.st (Or.inl rfl), st_eq, fun v hv c hc' => ?_⟩
    obtain ⟨n, hn, en⟩ := j6 v hv c hc'
    rw [if_pos hv] at hn
    exact ⟨n, hn, (st_ne (by omega)).trans en⟩
theorem st6 (hi : i < 2) (h : PS i g1 g2 nv nf ns) (hr : RS i g1 g2) (hb : VB i g1 nv) (hH : HI i nv g1 g2) (hc : CB i nv t g1) (ht : g2 1 0 0 480 = nI t) (ht' : t + 1 ≤ 10000) :
    ∃ a b, (wGi (5 : Int32) 9 (if (g1 10 i 0 ((5 : Int32)).toNatClampNeg) = (1 : Int32) then (fX4_step_b154 g1 i (1 : Int32)) else (wGi (8 : Int32) 9 (fX4_step_b154 g1 i (g1 10 i 0 ((8 : Int32)).toNatClampNeg))))) = some a ∧ fX11_ticks_L164 g2 (nI 0) = some b ∧ FN i nv nf ns t g1 g2 a b := by
  have hv12 := h.nv12
  have w5 : g1 10 i 0 5 = g2 1 0 0 481 := h.e10_5
  have w8 : g1 10 i 0 8 = g2 1 0 0 484 := h.e10_8
  have n5 : (5 : Int32) = nI 5 := rfl
  have n8 : (8 : Int32) = nI 8 := rfl
  have i481 : ∀ (β : Type) (f : Option β), wGi (481 : Int32) 510 f = f := fun β f => wGi_ok (n := 481) (by omega) (by omega)
  have c481 : (481 : Int32).toNatClampNeg = 481 := nI_clamp (n := 481) (by omega)
  have i484 : ∀ (β : Type) (f : Option β), wGi (484 : Int32) 510 f = f := fun β f => wGi_ok (n := 484) (by omega) (by omega)
  have c484 : (484 : Int32).toNatClampNeg = 484 := nI_clamp (n := 484) (by omega)
  -- how many runways
  obtain ⟨n, hn1, hn2, en⟩ : ∃ n : Nat, 1 ≤ n ∧ n ≤ 2 ∧ (if g2 1 0 0 481 = 1 then 1 else g2 1 0 0 484) = nI n := by
    by_cases c : g2 1 0 0 481 = 1
    · rw [if_pos c]; exact ⟨1, by omega, by omega, rfl⟩
    · rw [if_neg c]
      rcases h.2.2.2.2.1.2.2.1 with q | q
      · exact ⟨1, by omega, by omega, q⟩
      · exact ⟨2, by omega, by omega, q⟩
  have e1 : (wGi (5 : Int32) 9 (if (g1 10 i 0 ((5 : Int32)).toNatClampNeg) = (1 : Int32) then (fX4_step_b154 g1 i (1 : Int32)) else (wGi (8 : Int32) 9 (fX4_step_b154 g1 i (g1 10 i 0 ((8 : Int32)).toNatClampNeg))))) = fX4_step_L157 g1 i (nI n) (nI 0) := by
    rw [n5, n8, wGi_ok (by omega) (by omega), nI_clamp (by omega), wGi_ok (by omega) (by omega), nI_clamp (by omega), w5, w8, ← en]
    by_cases c : g2 1 0 0 481 = 1
    · rw [if_pos c, if_pos c]; rfl
    · rw [if_neg c, if_neg c]; rfl
  have e2 : ∀ a b, TK i nv nf ns g1 g2 a b → ∀ k, fX11_ticks_B164 b (nI k) = fX11_ticks_b189 b (nI k) (nI k) (nI n) := fun a b hT k => by
    obtain ⟨-, s1, s2⟩ := hT.same h
    unfold fX11_ticks_B164
    rw [i481, c481, i484, c484, s1, s2, ← en]
    by_cases c : g2 1 0 0 481 = 1
    · rw [if_pos c, if_pos c]
    · rw [if_neg c, if_neg c]
  rw [e1]
  refine two_for (F1 := fun g x => fX4_step_B157 g i (nI n) x) (F2 := fun g x => fX11_ticks_B164 g x) (fun a b => FN i nv nf ns t g1 g2 a b) (fun _ a b => HI i nv a b) n (by omega)
    (fun k a b hk hT hJ => by
      obtain ⟨g3, z, a', b', r1, r2, r3, r4, r5⟩ := uses_pr hi hT.1 (hr.fr hT.2.1 hT.2.2) (hb.fr hT.2.1) (show k < 2 by omega)
      refine ⟨a', b', ?_, ?_, r4, hJ.k2 hv12 r5⟩
      · try dsimp only
        unfold fX4_step_B157
        rw [if_neg (nI_ge hk (by omega)), r1, wB2_e, r2, wBd_e, wLe_e, nI_1]
      · try dsimp only
        rw [e2 a b hT]
        unfold fX11_ticks_b189
        rw [if_neg (nI_ge hk (by omega)), r3, wBd_e, wLe_e, nI_1])
    (fun a b hT hJ => by
      obtain ⟨a', b', r1, r2, r3⟩ := st7 hT.1 hJ (hc.fr hT.2.1) ((hT.same h).1.trans ht) ht'
      refine ⟨a', b', ?_, ?_, r3.pre hT⟩
      · try dsimp only
        unfold fX4_step_B157
        rw [if_pos (nI_le (Nat.le_refl _) (by omega)), wLe_e, show fX4_step_L180 a i 0 = some a' from r1, wEx_e]
      · try dsimp only
        rw [e2 a b hT]
        unfold fX11_ticks_b189
        rw [if_pos (nI_le (Nat.le_refl _) (by omega)), wLe_e, show fX11_ticks_L205 b 0 = some b' from r2, wEx_e]) h hH
theorem st5 (hi : i < 2) (h : PS i g1 g2 nv nf ns) (hr : RS i g1 g2) (hb : VB i g1 nv) (hH : HI i nv g1 g2) (hc : CB i nv t g1) (ht : g2 1 0 0 480 = nI t) (ht' : t + 1 ≤ 10000) :
    ∃ a b, fX4_step_L109 g1 i (nI 0) = some a ∧ fX11_ticks_L104 g2 (nI 0) = some b ∧ FN i nv nf ns t g1 g2 a b := by
  have hv12 := h.nv12
  refine two_for (F1 := fun g x => fX4_step_B109 g i x) (F2 := fun g x => fX11_ticks_B104 g x) (fun a b => FN i nv nf ns t g1 g2 a b) (fun _ a b => HI i nv a b) nv (by omega)
    (fun k a b hk hT hJ => by
      obtain ⟨a', b', r1, r2, r3, r4⟩ := again_step hT.1 hk
      refine ⟨a', b', ?_, ?_, r3, hJ.k2 hv12 r4.to2⟩
      · try dsimp only
        unfold fX4_step_B109
        rw [hT.1.1.2.1, if_neg (nI_ge hk (by omega)), wGi_ok (by omega) (by omega), nI_clamp (by omega), r1, wBd_e, wLe_e, nI_1]
      · try dsimp only
        unfold fX11_ticks_B104
        rw [hT.1.2.1.1, if_neg (nI_ge hk (by omega))]
        exact r2)
    (fun a b hT hJ => by
      obtain ⟨a', b', r1, r2, r3⟩ := st6 hi hT.1 (hr.fr hT.2.1 hT.2.2) (hb.fr hT.2.1) hJ (hc.fr hT.2.1) ((hT.same h).1.trans ht) ht'
      refine ⟨a', b', ?_, ?_, r3.pre hT⟩
      · try dsimp only
        unfold fX4_step_B109
        rw [hT.1.1.2.1, if_pos (nI_le (Nat.le_refl _) (by omega)), r1, wEx_e]
      · try dsimp only
        unfold fX11_ticks_B104
        rw [hT.1.2.1.1, if_pos (nI_le (Nat.le_refl _) (by omega)), wLe_e, show fX11_ticks_L164 b 0 = some b' from r2, wEx_e]) h hH
theorem st4 (hi : i < 2) (h : PS i g1 g2 nv nf ns) (hr : RS i g1 g2) (hb : VB i g1 nv) (hc : CB i nv t g1) (ht : g2 1 0 0 480 = nI t) (ht' : t + 1 ≤ 10000) :
    ∃ a b, fX4_step_L75 g1 i (nI 0) = some a ∧ fX11_ticks_L72 g2 (nI 0) = some b ∧ FN i nv nf ns t g1 g2 a b := by
  have hv12 := h.nv12
  have n6 : (6 : Int32) = nI 6 := rfl
  refine two_for (F1 := fun g x => fX4_step_B75 g i x) (F2 := fun g x => fX11_ticks_B72 g x) (fun a b => FN i nv nf ns t g1 g2 a b) (fun k a b => ∀ v, v < k → b 1 0 0 (30 * v + 6) = nI 4 → HN i v a b ∧ b 21 0 0 v ≠ -1) nv (by omega)
    (fun k a b hk hT hJ => by
      have v6 := hT.1.v6 hk
      try dsimp only
      unfold fX4_step_B75 fX11_ticks_B72 fX4_step_b101 fX11_ticks_b96
      rw [hT.1.1.2.1, hT.1.2.1.1, if_neg (nI_ge hk (by omega)), if_neg (nI_ge hk (by omega)), wGi_ok (by omega) (by omega), nI_clamp (show k < 2 ^ 31 by omega), v6, n6, of_ev b (by omega), wBd_e]
      by_cases c4 : b 1 0 0 (30 * k + 6) = 4
      · obtain ⟨a', b', r1, r2, r3, r4, r5, r6⟩ := serve_pr hT.1 (hr.fr hT.2.1 hT.2.2) (hb.fr hT.2.1) hk c4
        rw [if_pos c4, if_pos c4, r1, r2, wBd_e, wBd_e, wLe_e, wLe_e, nI_1]
        refine ⟨a', b', rfl, rfl, r3, fun v hv e => ?_⟩
        by_cases q : v = k
        · subst q; exact ⟨r5, r6⟩
        · rw [r4.1 v (by omega)] at e
          obtain ⟨⟨k1, k2⟩, k3⟩ := hJ v (by omega) e
          obtain ⟨q1, q2⟩ := r4.2 v q
          unfold HN
          rw [q1, q2]
          exact ⟨⟨k1, k2⟩, k3⟩
      · rw [if_neg c4, if_neg c4, wLe_e, wLe_e, nI_1]
        refine ⟨a, b, rfl, rfl, TK.rf hT.1, fun v hv e => ?_⟩
        by_cases q : v = k
        · subst q; exact (c4 e).elim
        · exact hJ v (by omega) e)
    (fun a b hT hJ => by
      obtain ⟨a', b', r1, r2, r3⟩ := st5 hi hT.1 (hr.fr hT.2.1 hT.2.2) (hb.fr hT.2.1) hJ (hc.fr hT.2.1) ((hT.same h).1.trans ht) ht'
      refine ⟨a', b', ?_, ?_, r3.pre hT⟩
      · try dsimp only
        unfold fX4_step_B75
        rw [hT.1.1.2.1, if_pos (nI_le (Nat.le_refl _) (by omega)), wLe_e, show fX4_step_L109 a i 0 = some a' from r1, wEx_e]
      · try dsimp only
        unfold fX11_ticks_B72
        rw [hT.1.2.1.1, if_pos (nI_le (Nat.le_refl _) (by omega)), wLe_e, show fX11_ticks_L104 b 0 = some b' from r2, wEx_e]) h (fun v hv => absurd hv (by omega))
theorem st3 (hi : i < 2) (h : PS i g1 g2 nv nf ns) (hr : RS i g1 g2) (hb : VB i g1 nv) (hc : CB i nv t g1) (ht : g2 1 0 0 480 = nI t) (ht' : t + 1 ≤ 10000) :
    ∃ a b, fX4_step_L49 g1 i (nI 0) = some a ∧ fX11_ticks_L44 g2 (nI 0) = some b ∧ FN i nv nf ns t g1 g2 a b := by
  have hf16 := h.nf16
  refine two_for (F1 := fun g x => fX4_step_B49 g i x) (F2 := fun g x => fX11_ticks_B44 g x) (fun a b => FN i nv nf ns t g1 g2 a b) (fun _ _ _ => True) nf (by omega)
    (fun k a b hk hT hJ => by
      obtain ⟨a', b', r1, r2, r3⟩ := carry_pr hT.1 hk
      have e : (360 : Int32) + (6 : Int32) * nI k = nI (360 + 6 * k) := by simp only [li_0, li_1, li_2, li_3, li_4, li_5, li_6, li_7, li_8, li_9, li_10, li_11, li_12, li_13, li_14, li_15, li_16, li_17, li_18, li_19, li_30, li_32, li_40, li_41, li_42, li_43, li_45, li_48, li_57, li_59, li_60, li_61, li_63, li_97, li_99, li_122, li_160, li_200, li_255, li_256, li_257, li_258, li_259, li_360, li_460, li_462, li_470, li_475, li_480, li_481, li_482, li_483, li_484, li_490, li_496, li_510, li_999, li_9999, li_10000, li_10008, li_10009, li_10010, li_10011, li_10012, li_10013, li_10014, li_10015, li_10016, li_100000, nI_mul, nI_add]
      refine ⟨a', b', ?_, ?_, r3, trivial⟩
      · try dsimp only
        unfold fX4_step_B49
        rw [hT.1.1.2.2, if_neg (nI_ge hk (by omega)), wGi_ok (by omega) (by omega), nI_clamp (by omega), r1, wBd_e, wLe_e, nI_1]
      · try dsimp only
        unfold fX11_ticks_B44
        rw [hT.1.2.1.2.1, if_neg (nI_ge hk (by omega)), e, r2, wBd_e, wLe_e, nI_1])
    (fun a b hT hJ => by
      obtain ⟨a', b', r1, r2, r3⟩ := st4 hi hT.1 (hr.fr hT.2.1 hT.2.2) (hb.fr hT.2.1) (hc.fr hT.2.1) ((hT.same h).1.trans ht) ht'
      refine ⟨a', b', ?_, ?_, r3.pre hT⟩
      · try dsimp only
        unfold fX4_step_B49
        rw [hT.1.1.2.2, if_pos (nI_le (Nat.le_refl _) (by omega)), wLe_e, show fX4_step_L75 a i 0 = some a' from r1, wEx_e]
      · try dsimp only
        unfold fX11_ticks_B44
        rw [hT.1.2.1.2.1, if_pos (nI_le (Nat.le_refl _) (by omega)), wLe_e, show fX11_ticks_L72 b 0 = some b' from r2, wEx_e]) h trivial
theorem st2 (hi : i < 2) (h : PS i g1 g2 nv nf ns) (hr : RS i g1 g2) (hb : VB i g1 nv) (hc : CB i nv t g1) (ht : g2 1 0 0 480 = nI t) (ht' : t + 1 ≤ 10000) :
    ∃ a b, fX4_step_L28 g1 i (nI 0) = some a ∧ fX11_ticks_L23 g2 (nI 0) = some b ∧ FN i nv nf ns t g1 g2 a b := by
  have hv12 := h.nv12
  refine two_for (F1 := fun g x => fX4_step_B28 g i x) (F2 := fun g x => fX11_ticks_B23 g x) (fun a b => FN i nv nf ns t g1 g2 a b) (fun _ _ _ => True) nv (by omega)
    (fun k a b hk hT hJ => by
      obtain ⟨a', b', r1, r2, r3⟩ := work_pr hi hT.1 hk
      refine ⟨a', b', ?_, ?_, r3, trivial⟩
      · try dsimp only
        unfold fX4_step_B28
        rw [hT.1.1.2.1, if_neg (nI_ge hk (by omega)), r1, wBd_e, wLe_e, nI_1]
      · try dsimp only
        unfold fX11_ticks_B23
        rw [hT.1.2.1.1, if_neg (nI_ge hk (by omega)), r2, wBd_e, wLe_e, nI_1])
    (fun a b hT hJ => by
      obtain ⟨a', b', r1, r2, r3⟩ := st3 hi hT.1 (hr.fr hT.2.1 hT.2.2) (hb.fr hT.2.1) (hc.fr hT.2.1) ((hT.same h).1.trans ht) ht'
      refine ⟨a', b', ?_, ?_, r3.pre hT⟩
      · try dsimp only
        unfold fX4_step_B28
        rw [hT.1.1.2.1, if_pos (nI_le (Nat.le_refl _) (by omega)), wLe_e, show fX4_step_L49 a i 0 = some a' from r1, wEx_e]
      · try dsimp only
        unfold fX11_ticks_B23
        rw [hT.1.2.1.1, if_pos (nI_le (Nat.le_refl _) (by omega)), wLe_e, show fX11_ticks_L44 b 0 = some b' from r2, wEx_e]) h trivial
/-- a tick, of the component's port i and of the reference -/
theorem step_pr (hi : i < 2) (h : PS i g1 g2 nv nf ns) (hr : RS i g1 g2) (hb : VB i g1 nv) (hc : CB i nv t g1) (ht : g2 1 0 0 480 = nI t) (ht' : t + 1 ≤ 10000) :
    ∃ a b, fX4_step g1 i = some a ∧ fX11_ticks g2 = some b ∧ FN i nv nf ns t g1 g2 a b := by
  have hv12 := h.nv12
  refine two_for (F1 := fun g x => fX4_step_B2 g i x) (F2 := fun g x => fX11_ticks_B2 g x) (fun a b => FN i nv nf ns t g1 g2 a b) (fun _ _ _ => True) nv (by omega)
    (fun k a b hk hT hJ => by
      obtain ⟨a', b', r1, r2, r3⟩ := move_pr hi hT.1 hk
      refine ⟨a', b', ?_, ?_, r3, trivial⟩
      · try dsimp only
        unfold fX4_step_B2
        rw [hT.1.1.2.1, if_neg (nI_ge hk (by omega)), wGi_ok (by omega) (by omega), nI_clamp (by omega), r1, wBd_e, wLe_e, nI_1]
      · try dsimp only
        unfold fX11_ticks_B2
        rw [hT.1.2.1.1, if_neg (nI_ge hk (by omega)), r2, wBd_e, wLe_e, nI_1])
    (fun a b hT hJ => by
      obtain ⟨a', b', r1, r2, r3⟩ := st2 hi hT.1 (hr.fr hT.2.1 hT.2.2) (hb.fr hT.2.1) (hc.fr hT.2.1) ((hT.same h).1.trans ht) ht'
      refine ⟨a', b', ?_, ?_, r3.pre hT⟩
      · try dsimp only
        unfold fX4_step_B2
        rw [hT.1.1.2.1, if_pos (nI_le (Nat.le_refl _) (by omega)), wLe_e, show fX4_step_L28 a i 0 = some a' from r1, wEx_e]
      · try dsimp only
        unfold fX11_ticks_B2
        rw [hT.1.2.1.1, if_pos (nI_le (Nat.le_refl _) (by omega)), wLe_e, show fX11_ticks_L23 b 0 = some b' from r2, wEx_e]) h trivial
end TICK
