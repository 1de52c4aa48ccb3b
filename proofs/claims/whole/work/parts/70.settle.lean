-- ===== visits by a sheet =====
theorem sc_visits {gC gR : Mm} (h : Rel gC gR) (a b c d : Int32) : ∃ gC1 gR1 r, fX10_visits gC a b c d = some (gC1, r) ∧ fX11_visits gR a b c d = some (gR1, r) ∧ Rel gC1 gR1 := by
  have h0 := h
  obtain ⟨nv, nf, ns, h⟩ := h
  have stay := fun r : Int32 => stays (r := r) h0
  have bad : fX10_visits_b34 gC a b c d = some (gC, -2) := by
    unfold fX10_visits_b34 fX10_visits_b35
    exact if_pos rfl
  have inx : ∀ x lo hi : Int32, ∃ y, fX11_in gR x lo hi = some y := fun x lo hi => by
    unfold fX11_in
    repeat' split
    all_goals exact ⟨_, rfl⟩
  unfold fX10_visits fX11_visits
  rw [bad]
  rcases sheet_no gR a with ⟨s, hs, rfl, q1, q2, q3, q4⟩ | ⟨q1, q4⟩
  · rw [if_neg q1, if_neg q3, q4, wBd_e, if_neg c10]
    rcases posneg b with hb | ⟨so, hso, rfl⟩
    · rw [if_pos hb, show fX11_in gR b 0 2 = some 0 from in_neg (lo := 0) hb (by omega), wBd_e, if_pos rfl]; exact stay _
    · rw [if_neg (nI_pos hso), show fX11_in gR (nI so) 0 2 = _ from in_ev (lo := 0) (hi := 2) hso (by omega) (by omega), wBd_e]
      by_cases b3 : 3 ≤ so
      · rw [if_pos (show (3 : Int32) ≤ nI so from nI_le (a := 3) b3 hso), if_neg (show ¬ (0 ≤ so ∧ so ≤ 2) by omega), if_pos rfl]; exact stay _
      · rw [if_neg (show ¬ (3 : Int32) ≤ nI so from nI_ge (b := 3) (by omega) (by omega)), if_pos (show 0 ≤ so ∧ so ≤ 2 by omega), if_neg c10]
        rcases posneg d with hd | ⟨n, hn, rfl⟩
        · rw [if_pos hd, show fX11_in gR d 0 10 = some 0 from in_neg (lo := 0) hd (by omega), wBd_e, if_pos rfl]; exact stay _
        · rw [if_neg (nI_pos hn), show fX11_in gR (nI n) 0 10 = _ from in_ev (lo := 0) (hi := 10) hn (by omega) (by omega), wBd_e]
          by_cases d10 : 10 < n
          · rw [if_pos (show (10 : Int32) < nI n from nI_lt (a := 10) d10 hn), if_neg (show ¬ (0 ≤ n ∧ n ≤ 10) by omega), if_pos rfl]; exact stay _
          · rw [if_neg (show ¬ (10 : Int32) < nI n from nI_nlt (a := 10) (by omega) (by omega)), if_pos (show 0 ≤ n ∧ n ≤ 10 by omega), if_neg c10]
            obtain ⟨k1, -, -⟩ := h.sh s hs
            unfold fX10_visits_b35 fX7_isMissing
            rw [if_neg c10, wGi_ok (by omega) (by omega), wGi_ok (by omega) (by omega), wGi_ok (by omega) (by omega), nI_clamp (by omega), k1]
            by_cases m : gR 10 0 0 s = -1
            · rw [if_pos m, wBd_e, if_neg c10, if_pos m]; exact stay _
            · rw [if_neg m, wBd_e, if_pos rfl, if_neg m]
              by_cases e : gR 10 0 0 s = nI so
              · rw [if_pos e, if_pos e]
                unfold fX10_visitsOf
                rw [wLe_e, wLe_e, wLe_e, wLe_e]
                have key := wLp_two (f1 := fun q : Mm × Int32 × Int32 => fX10_visitsOf_B6 q.1 s c (nI n) q.2.1 q.2.2) (f2 := fun q : Mm × Int32 × Int32 => fX11_visits_B64 q.1 (nI s) (nI so) c (nI n) q.2.1 q.2.2) (fun t1 t2 => ∃ gC1 gR1 r, t1 = (gC1, r) ∧ t2 = (gR1, r) ∧ Rel gC1 gR1)
                  (fun k s1 s2 => ∃ g1 g2 x, s1 = (g1, x, nI k) ∧ s2 = (g2, x, nI k) ∧ Rel g1 g2 ∧ (k = 0 ∨ ∃ f : Nat, c = nI f ∧ f + 4 * k ≤ 40)) n
                  (fun k s1 s2 hk ⟨g1, g2, x, a1, a2, a3, a4⟩ => by
                    subst a1; subst a2
                    have out : ∀ r : Int32, ∃ t1 t2, (some (.inr (g1, r)) : Option ((Mm × Int32 × Int32) ⊕ (Mm × Int32))) = some (.inr t1) ∧ (some (.inr (g2, r)) : Option ((Mm × Int32 × Int32) ⊕ (Mm × Int32))) = some (.inr t2) ∧ ∃ gC1 gR1 r, t1 = (gC1, r) ∧ t2 = (gR1, r) ∧ Rel gC1 gR1 := fun r => ⟨_, _, rfl, rfl, g1, g2, r, rfl, rfl, a3⟩
                    dsimp only
                    unfold fX10_visitsOf_B6 fX11_visits_B64
                    rw [if_neg (nI_ge hk (by omega)), if_neg (nI_ge hk (by omega))]
                    simp only [wLe_e]
                    rcases posneg c with hc | ⟨f, hf, rfl⟩
                    · have k0 : k = 0 := by
                        rcases a4 with q | ⟨f, rfl, q⟩
                        · exact q
                        · exact (nI_pos (by omega) hc).elim
                      subst k0
                      have neg : lg_cmp (c.toInt64 + (nI 0).toInt64 * 4) 0 < 0 := by
                        rw [lg_cmp_lt, show (nI 0).toInt64 * 4 = (0 : Int32).toInt64 from rfl, Int64.lt_iff_toInt_lt, add64]
                        have hc := Int32.lt_iff_toInt_lt.mp hc
                        have e0 : (0 : Int32).toInt = 0 := rfl
                        have e1 : (0 : Int64).toInt = 0 := rfl
                        omega
                      rw [if_pos neg, if_pos hc, wEx_e, wEx_e]
                      exact Or.inr (out _)
                    · have h4 : (4 : Int64) = lN 4 := rfl
                      have h04 : (0 : Int64) = lN 0 := rfl
                      have h44 : (4 : Int32) = nI 4 := rfl
                      have fk : f + 4 * k < 2 ^ 31 := by
                        rcases a4 with rfl | ⟨f', e', q⟩
                        · omega
                        · rw [nI_eq hf (by omega)] at e'
                          omega
                      have y8 : (nI f).toInt64 + (nI k).toInt64 * 4 = lN (f + 4 * k) := by
                        rw [h4, nI_l hf, nI_l (show k < 2 ^ 31 by omega), lN_mul, lN_add, Nat.mul_comm k 4]
                      have y21 : nI f + (4 : Int32) * nI k = nI (f + 4 * k) := by rw [h44, nI_mul, nI_add]
                      obtain ⟨nv', nf', ns', h'⟩ := id a3
                      obtain ⟨l1, ⟨z, l2, l3, l4⟩, l5⟩ := h'.sh s hs
                      have n0 : ¬ lg_cmp (lN (f + 4 * k)) 0 < 0 := by
                        rw [lg_cmp_lt, h04, lN_lt fk (by omega)]
                        omega
                      rw [y8, y21, if_neg n0, if_neg (nI_pos hf), if_neg (nI_nlt (show f ≤ f + 4 * k by omega) fk), wGi_ok hs (by omega), nI_clamp (show s < 2 ^ 31 by omega), l3, l4, nI_l (show z < 2 ^ 31 by omega)]
                      by_cases fits : f + 4 * k + 4 ≤ z
                      · have p1 : lg_cmp (lN (f + 4 * k) + 4) (lN z) ≤ 0 := by
                          rw [lg_cmp_le, h4, lN_add, lN_le (by omega) (by omega)]
                          exact fits
                        have p2 : nI (f + 4 * k) ≤ nI z - 4 := by
                          rw [h44, nI_sub (by omega)]
                          exact nI_le (by omega) (by omega)
                        have e40 : (40 : Int32) * nI s + nI (f + 4 * k) = nI (40 * s + (f + 4 * k)) := by simp only [li_0, li_1, li_2, li_3, li_4, li_5, li_6, li_7, li_8, li_9, li_10, li_11, li_12, li_13, li_14, li_15, li_16, li_17, li_18, li_19, li_30, li_32, li_40, li_41, li_42, li_43, li_45, li_48, li_57, li_59, li_60, li_61, li_63, li_97, li_99, li_122, li_160, li_200, li_255, li_256, li_257, li_258, li_259, li_360, li_460, li_462, li_470, li_475, li_480, li_481, li_482, li_483, li_484, li_490, li_496, li_510, li_999, li_9999, li_10000, li_10008, li_10009, li_10010, li_10011, li_10012, li_10013, li_10014, li_10015, li_10016, li_100000, nI_mul, nI_add]
                        have ad : ∀ p j : Nat, nI p + nI j = nI (p + j) := fun p j => nI_add _ _
                        have as : ∀ j, 40 * s + (f + 4 * k) + j = 40 * s + (f + 4 * k + j) := fun j => by omega
                        rw [if_pos p1, if_pos p2, lN_i, e40, show nI (f + 4 * k) + 1 = nI (f + 4 * k + 1) from ad _ 1, show nI (f + 4 * k) + 2 = nI (f + 4 * k + 2) from ad _ 2, show nI (f + 4 * k) + 3 = nI (f + 4 * k + 3) from ad _ 3, show nI (40 * s + (f + 4 * k)) + 1 = nI (40 * s + (f + 4 * k) + 1) from ad _ 1, show nI (40 * s + (f + 4 * k)) + 2 = nI (40 * s + (f + 4 * k) + 2) from ad _ 2, show nI (40 * s + (f + 4 * k)) + 3 = nI (40 * s + (f + 4 * k) + 3) from ad _ 3]
                        simp (disch := omega) only [wGi_ok, nI_clamp]
                        rw [l5 (f + 4 * k) (by omega), l5 (f + 4 * k + 1) (by omega), l5 (f + 4 * k + 2) (by omega), l5 (f + 4 * k + 3) (by omega), as 1, as 2, as 3]
                        obtain ⟨g3, g4, r, r1, r2, r3⟩ := sc_visit a3 (g2 12 0 0 (40 * s + (f + 4 * k))) (g2 12 0 0 (40 * s + (f + 4 * k + 1))) (g2 12 0 0 (40 * s + (f + 4 * k + 2))) (g2 12 0 0 (40 * s + (f + 4 * k + 3)))
                        rw [r1, r2, wB2_e, wB2_e]
                        unfold fX10_visitsOf_b102 fX11_visits_b162
                        left
                        by_cases rn : r < 0
                        · simp only [if_pos rn, wLe_e, nI_1, Int32.add_zero]
                          exact ⟨_, _, rfl, rfl, g3, g4, x, rfl, rfl, r3, Or.inr ⟨f, rfl, by omega⟩⟩
                        · simp only [if_neg rn, wLe_e, nI_1]
                          exact ⟨_, _, rfl, rfl, g3, g4, _, rfl, rfl, r3, Or.inr ⟨f, rfl, by omega⟩⟩
                      · have p1 : ¬ lg_cmp (lN (f + 4 * k) + 4) (lN z) ≤ 0 := by
                          rw [lg_cmp_le, h4, lN_add, Int64.le_iff_toInt_le, lN_toInt (show z < 2 ^ 31 by omega)]
                          have : (lN (f + 4 * k + 4)).toInt = ((f + 4 * k + 4 : Nat) : Int) := lg_ofNat_toInt (by omega)
                          rw [this]
                          omega
                        have p2 : ¬ nI (f + 4 * k) ≤ nI z - 4 := by
                          rw [h44, Int32.le_iff_toInt_le, nI_subI (by omega) (by omega), nI_toInt fk]
                          omega
                        rw [if_neg p1, if_neg p2, wEx_e, wEx_e]
                        exact Or.inr (out _))
                  (fun s1 s2 ⟨g1, g2, x, a1, a2, a3, a4⟩ => by
                    subst a1; subst a2
                    dsimp only
                    unfold fX10_visitsOf_B6 fX11_visits_B64
                    rw [if_pos (nI_le (Nat.le_refl _) (by omega)), if_pos (nI_le (Nat.le_refl _) (by omega)), wEx_e, wEx_e]
                    exact ⟨_, _, rfl, rfl, g1, g2, x, rfl, rfl, a3⟩)
                  (k := 0) (Nat.zero_le _) (s1 := (gC, 0, 0)) (s2 := (gR, 0, 0)) ⟨gC, gR, 0, rfl, rfl, h0, Or.inl rfl⟩ (u1 := 1000) (u2 := 1000) (by omega) (by omega)
                obtain ⟨t1, t2, r1, r2, gC1, gR1, r, b1, b2, b3⟩ := key
                subst b1; subst b2
                refine ⟨gC1, gR1, r, ?_, r2, b3⟩
                rw [show fX10_visitsOf_L6 gC s c (nI n) 0 0 = some (gC1, r) from r1, wB2_e]
              · rw [if_neg e, if_neg e]; exact stay _
  · rw [q4, wBd_e, if_pos rfl]
    rcases q1 with q | ⟨q1, q2, q3⟩
    · rw [if_pos q]; exact stay _
    · rw [if_neg q1, if_pos q3]; exact stay _
-- ===== the plan becomes the wishes =====
/-- how many of the first k bits -/
def pcn (m : Nat) : Nat → Nat
  | 0 => 0
  | k + 1 => pcn m k + if m.testBit k = true then 1 else 0
set_option maxRecDepth 100000 in
theorem pc64 : ∀ a, a < 64 → ∀ b, b < 64 → fX103_bitCount (nI (64 * a + b)) = some (nI (pcn (64 * a + b) 12)) := by decide +kernel
theorem pc_all {m : Nat} (hm : m < 4096) : fX103_bitCount (nI m) = some (nI (pcn m 12)) := by
  have := pc64 (m / 64) (by omega) (m % 64) (by omega)
  rwa [show 64 * (m / 64) + m % 64 = m by omega] at this
theorem pcn_le (m k : Nat) : pcn m k ≤ k := by
  induction k with
  | zero => exact Nat.le_refl _
  | succ k ih =>
    unfold pcn
    split <;> omega
theorem pcn_hi {m k j : Nat} (hm : m < 2 ^ k) : pcn m (k + j) = pcn m k := by
  induction j with
  | zero => rfl
  | succ j ih =>
    have : m.testBit (k + j) = false := Nat.testBit_lt_two_pow (Nat.lt_of_lt_of_le hm (Nat.pow_le_pow_right (by omega) (by omega)))
    show pcn m (k + j) + (if m.testBit (k + j) = true then 1 else 0) = _
    rw [this, ih]
    rfl
theorem bit_ev {m v : Nat} (hm : m < 4096) (hv : v < 12) : ((((nI m) >>> ((nI v) &&& 31)) &&& (1 : Int32)) = 1) = (m.testBit v = true) := propext (bit12 m hm v hv)
/-- whether all of a set are still ahead; the reference counts them on the way -/
theorem aheadC {i nv nf ns m : Nat} {gC gR : Mm} (h : PS 0 gC gR nv nf ns) (hm : m < 4096) : ∃ z, (z = 0 ∨ z = 1) ∧ fX10_areAhead gC (nI m) = some z ∧ (z = 1 ↔ ∀ v, v < nv → m.testBit v = true → fX11_isAhead gR (nI v) = some 1) := by
  have hv12 := h.nv12
  have e31 : (31 : Int32) = nI 31 := rfl
  obtain ⟨z, p1, p2, p3⟩ := wLp_one (f := fun q : Int32 => fX10_areAhead_B2 gC (nI m) q) (fun z => (z = 0 ∨ z = 1) ∧ (z = 1 ↔ ∀ v, v < nv → m.testBit v = true → fX11_isAhead gR (nI v) = some 1)) (fun k s => s = nI k ∧ ∀ v, v < k → m.testBit v = true → fX11_isAhead gR (nI v) = some 1) nv
    (fun k s hk ⟨a1, a2⟩ => by
      subst a1
      have bt := bit12 m hm k (by omega)
      unfold fX10_areAhead_B2 fX10_areAhead_b39
      rw [h.1.2.1, if_neg (nI_ge hk (by omega)), e31]
      by_cases c : m.testBit k = true
      · obtain ⟨y, y1, y2, y3⟩ := ahead_pr h hk
        rw [if_pos (show (nI m >>> (nI k &&& nI 31)) &&& (1 : Int32) = 1 from bt.mpr c), wGi_ok (by omega) (by omega), nI_clamp (by omega), y2, wBd_e]
        rcases y1 with rfl | rfl
        · rw [if_pos rfl, wEx_e]
          refine Or.inr ⟨_, rfl, Or.inl rfl, ⟨fun e => absurd e (by decide), fun q => ?_⟩⟩
          have := q k hk c
          rw [y3] at this
          exact absurd this (by decide)
        · rw [if_neg c10, wLe_e, nI_1]
          refine Or.inl ⟨_, rfl, rfl, fun v hv hb => ?_⟩
          by_cases e : v = k
          · subst e; exact y3
          · exact a2 v (by omega) hb
      · rw [if_neg (show ¬ (nI m >>> (nI k &&& nI 31)) &&& (1 : Int32) = 1 from fun q => c (bt.mp q)), wLe_e, nI_1]
        refine Or.inl ⟨_, rfl, rfl, fun v hv hb => ?_⟩
        by_cases e : v = k
        · subst e; exact (c hb).elim
        · exact a2 v (by omega) hb)
    (fun s ⟨a1, a2⟩ => by
      subst a1
      unfold fX10_areAhead_B2
      rw [h.1.2.1, if_pos (nI_le (Nat.le_refl _) (by omega)), wEx_e]
      exact ⟨_, rfl, Or.inr rfl, ⟨fun _ => a2, fun _ => rfl⟩⟩)
    (k := 0) (Nat.zero_le _) (s := 0) ⟨rfl, fun v hv => absurd hv (by omega)⟩ (u := 1000) (by omega)
  exact ⟨z, p2, p1, p3⟩
theorem sc_settle {gC gR : Mm} (h : Rel gC gR) : ∃ gC1 gR1 r, fX10_settle gC = some (gC1, r) ∧ fX11_settle gR = some (gR1, r) ∧ Rel gC1 gR1 := by
  obtain ⟨nv, nf, ns, h⟩ := h
  have hP := h.1
  have hv12 := hP.nv12
  have stay := fun r : Int32 => stays (r := r) (⟨nv, nf, ns, h⟩ : Rel gC gR)
  have e31 : (31 : Int32) = nI 31 := rfl
  obtain ⟨m, m1, m2, m3, m4⟩ := h.2.2.2.2.2.2.1
  have hm : m < 4096 := Nat.lt_of_lt_of_le m1 (pow12 hv12)
  obtain ⟨z, z1, z2, z3⟩ := aheadC (i := 0) hP hm
  unfold fX10_settle fX11_settle
  rw [m2, z2, wBd_e, wLe_e, wLe_e, wLe_e]
  -- the wishes are written
  have wr : ∀ x : Int32, x = nI (pcn m nv) → ∃ gC1 gR1 r, fX10_settle_L19 gC 0 = some (gC1, r) ∧ fX11_settle_L46 gR x 0 = some (gR1, r) ∧ Rel gC1 gR1 := fun x hx => by
    have key := wLp_two (f1 := fun q : Mm × Int32 => fX10_settle_B19 q.1 q.2) (f2 := fun q : Mm × Int32 => fX11_settle_B46 q.1 x q.2) (fun t1 t2 => ∃ gC1 gR1 r, t1 = (gC1, r) ∧ t2 = (gR1, r) ∧ Rel gC1 gR1)
      (fun k s1 s2 => ∃ g1 g2, s1 = (g1, nI k) ∧ s2 = (g2, nI k) ∧ R3 g1 g2 nv nf ns ∧ g1 23 0 0 0 = nI m) nv
      (fun k s1 s2 hk ⟨g1, g2, a1, a2, a3, a4⟩ => by
        subst a1; subst a2
        left
        have hP' := a3.1
        have bt := bit12 m hm k (by omega)
        obtain ⟨m', n1, n2, n3, n4⟩ := a3.2.2.2.2.2.2.1
        have mm : m' = m := by
          have hm' : m' < 4096 := Nat.lt_of_lt_of_le n1 (pow12 hv12)
          rw [a4, nI_eq (by omega) (by omega)] at n2
          exact n2.symm
        subst mm
        dsimp only
        unfold fX10_settle_B19 fX11_settle_B46 fX10_settle_b61 fX11_settle_b83
        rw [hP'.1.2.1, hP'.2.1.1, if_neg (nI_ge hk (by omega)), if_neg (nI_ge hk (by omega)), holds_ev hm a4 (by omega), wBd_e, n3, e31]
        by_cases c : m'.testBit k = true
        · obtain ⟨w1, w2⟩ := n4 k hk c
          have e34 : (30 : Int32) * nI k + 4 = nI (30 * k + 4) := by simp only [li_0, li_1, li_2, li_3, li_4, li_5, li_6, li_7, li_8, li_9, li_10, li_11, li_12, li_13, li_14, li_15, li_16, li_17, li_18, li_19, li_30, li_32, li_40, li_41, li_42, li_43, li_45, li_48, li_57, li_59, li_60, li_61, li_63, li_97, li_99, li_122, li_160, li_200, li_255, li_256, li_257, li_258, li_259, li_360, li_460, li_462, li_470, li_475, li_480, li_481, li_482, li_483, li_484, li_490, li_496, li_510, li_999, li_9999, li_10000, li_10008, li_10009, li_10010, li_10011, li_10012, li_10013, li_10014, li_10015, li_10016, li_100000, nI_mul, nI_add]
          have wo : fX2_wishOf g1 (nI k) = some (g2 5 0 0 k) := by
            rw [← w1]
            unfold fX2_wishOf
            by_cases f : nI k = g1 23 0 0 1
            · rw [if_pos f, if_pos f]
            · rw [if_neg f, if_neg f]
          rw [if_pos c, if_neg c10, wGi_ok (by omega) (by omega), nI_clamp (by omega), wo, wBd_e, wLe_e, wLe_e, nI_1, if_pos (show (nI m' >>> (nI k &&& nI 31)) &&& (1 : Int32) = 1 from bt.mpr c), wGi_ok (by omega) (by omega), e34, wGi_ok (by omega) (by omega), nI_clamp (by omega), wLe_e, wLe_e]
          exact ⟨_, _, rfl, rfl, _, _, rfl, rfl, a3.set (ix_v5 (nf := nf) (ns := ns) hk) (hP'.2.2.2.2.1.wish hk w2) (by decide) (by decide) (by omega), (st_ne (by omega)).trans a4⟩
        · rw [if_neg c, if_pos rfl, wLe_e, nI_1, if_neg (show ¬ (nI m' >>> (nI k &&& nI 31)) &&& (1 : Int32) = 1 from fun q => c (bt.mp q)), wLe_e]
          exact ⟨_, _, rfl, rfl, g1, g2, rfl, rfl, a3, a4⟩)
      (fun s1 s2 ⟨g1, g2, a1, a2, a3, a4⟩ => by
        subst a1; subst a2
        have pc : pcn m 12 = pcn m nv := by
          have := pcn_hi (m := m) (k := nv) (j := 12 - nv) m1
          rwa [show nv + (12 - nv) = 12 by omega] at this
        dsimp only
        unfold fX10_settle_B19 fX11_settle_B46
        rw [a3.1.1.2.1, a3.1.2.1.1, if_pos (nI_le (Nat.le_refl _) (by omega)), if_pos (nI_le (Nat.le_refl _) (by omega)), a4, pc_all hm, wBd_e, wEx_e, wEx_e, pc, hx]
        exact ⟨_, _, rfl, rfl, g1, g2, _, rfl, rfl, nv, nf, ns, a3⟩)
      (k := 0) (Nat.zero_le _) (s1 := (gC, 0)) (s2 := (gR, 0)) ⟨gC, gR, rfl, rfl, h, m2⟩ (u1 := 1000) (u2 := 1000) (by omega) (by omega)
    obtain ⟨t1, t2, r1, r2, gC1, gR1, r, b1, b2, b3⟩ := key
    subst b1; subst b2
    exact ⟨gC1, gR1, r, r1, r2, b3⟩
  -- the reference looks first whether all are ahead
  obtain ⟨t, p1, p2⟩ := wLp_one (f := fun q : Mm × Int32 × Int32 => fX11_settle_B4 q.1 q.2.1 q.2.2) (fun t => (z = 0 ∧ t = (gR, -3)) ∨ (z = 1 ∧ fX11_settle_L46 gR (nI (pcn m nv)) 0 = some t)) (fun k s => s = (gR, nI (pcn m k), nI k) ∧ ∀ v, v < k → m.testBit v = true → fX11_isAhead gR (nI v) = some 1) nv
    (fun k s hk ⟨a1, a2⟩ => by
      subst a1
      have bt := bit12 m hm k (by omega)
      dsimp only
      unfold fX11_settle_B4 fX11_settle_b38
      rw [hP.2.1.1, if_neg (nI_ge hk (by omega)), m3, e31]
      by_cases c : m.testBit k = true
      · obtain ⟨y, y1, y2, y3⟩ := ahead_pr hP hk
        rw [if_pos (show (nI m >>> (nI k &&& nI 31)) &&& (1 : Int32) = 1 from bt.mpr c), y3, wBd_e]
        rcases y1 with rfl | rfl
        · rw [if_pos rfl, wEx_e]
          refine Or.inr ⟨_, rfl, Or.inl ⟨?_, rfl⟩⟩
          rcases z1 with q | q
          · exact q
          · have := z3.mp q k hk c
            rw [y3] at this
            exact absurd this (by decide)
        · rw [if_neg c10, wLe_e, wLe_e, nI_1, nI_1]
          refine Or.inl ⟨_, rfl, ?_, fun v hv hb => ?_⟩
          · show _ = (gR, nI (pcn m k + if m.testBit k = true then 1 else 0), nI (k + 1))
            rw [if_pos c]
          · by_cases e : v = k
            · subst e; exact y3
            · exact a2 v (by omega) hb
      · rw [if_neg (show ¬ (nI m >>> (nI k &&& nI 31)) &&& (1 : Int32) = 1 from fun q => c (bt.mp q)), wLe_e, nI_1]
        refine Or.inl ⟨_, rfl, ?_, fun v hv hb => ?_⟩
        · show _ = (gR, nI (pcn m k + if m.testBit k = true then 1 else 0), nI (k + 1))
          rw [if_neg c]
          rfl
        · by_cases e : v = k
          · subst e; exact (c hb).elim
          · exact a2 v (by omega) hb)
    (fun s ⟨a1, a2⟩ => by
      subst a1
      have zz : z = 1 := z3.mpr a2
      obtain ⟨gC1, gR1, r, -, r2, -⟩ := wr _ rfl
      dsimp only
      unfold fX11_settle_B4
      rw [hP.2.1.1, if_pos (nI_le (Nat.le_refl _) (by omega)), wLe_e, r2, wEx_e]
      exact ⟨_, rfl, Or.inr ⟨zz, rfl⟩⟩)
    (k := 0) (Nat.zero_le _) (s := (gR, 0, 0)) ⟨rfl, fun v hv => absurd hv (by omega)⟩ (u := 1000) (by omega)
  have p1 : fX11_settle_L4 gR 0 0 = some t := p1
  rw [p1]
  rcases p2 with ⟨q, rfl⟩ | ⟨q, e⟩
  · rw [if_pos q]; exact stay _
  · rw [if_neg (by rw [q]; decide)]
    obtain ⟨gC1, gR1, r, r1, r2, r3⟩ := wr _ rfl
    rw [e] at r2
    injection r2 with r2
    subst r2
    exact ⟨gC1, gR1, r, r1, rfl, r3⟩
