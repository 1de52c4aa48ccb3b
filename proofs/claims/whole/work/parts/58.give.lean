-- ===== (6): a runway is given =====
theorem give_pr {i nv nf ns r b : Nat} {g1 g2 : Mm} (hi : i < 2) (h : PS i g1 g2 nv nf ns) (hb : b < nv) (hr : r < 2) (hc : Could g2 b) :
    ∃ gC' gR', fX4_giveRunway g1 i (nI r) (nI b) = some gC' ∧ (wBd (fX11_of g2 (nI b) (6 : Int32)) fun y12 => if y12 = (1 : Int32) then (wBd (fX11_standFor g2 (nI b)) fun y30 => wGi ((496 : Int32) + y30) 510 (wLe (st g2 1 0 0 ((496 : Int32) + y30).toNatClampNeg (nI b)) fun g32 => wGi (((30 : Int32) * (nI b)) + (8 : Int32)) 510 (wLe (st g32 1 0 0 (((30 : Int32) * (nI b)) + (8 : Int32)).toNatClampNeg y30) fun g35 => wBd (fX11_becomes g35 (nI b) (2 : Int32)) fun g39 => fX11_uses_b134 g39 (nI r) (nI b)))) else (wBd (fX11_becomes g2 (nI b) (6 : Int32)) fun g16 => fX11_uses_b134 g16 (nI r) (nI b))) = some gR' ∧ TK i nv nf ns g1 g2 gC' gR' ∧ HK2 g1 g2 gC' gR' i := by
  have hv12 := h.nv12
  have hs6 := h.ns6
  have e9 := h.e9
  have v6 := h.v6 hb
  have n6 : (6 : Int32) = nI 6 := rfl
  have n2 : (2 : Int32) = nI 2 := rfl
  have n8 : (8 : Int32) = nI 8 := rfl
  have c0 : ¬ ((1 : Int32) = 0) := by decide
  have hP := h.2.2.2.2.1
  obtain ⟨q1, q2, q3⟩ := hP.2.2.2.2.2.2.1 b hb
  unfold fX4_giveRunway fX4_giveRunway_b54
  rw [hv_ev h.1.2.1 (by omega) (by omega), if_pos hb, wBd_e, if_neg c0, wGi_ok (by omega) (by omega), nI_clamp (show b < 2 ^ 31 by omega), v6, n6, of_ev g2 (by omega), wBd_e]
  by_cases h1 : g2 1 0 0 (30 * b + 6) = 1
  · rw [if_pos h1, if_pos h1]
    obtain ⟨s, s1, s2, s3⟩ := stand_pr h hb
    obtain ⟨k, hk, e⟩ : ∃ k : Nat, k < ns ∧ s = nI k := by
      rcases s3 with q | q
      · exfalso
        rcases hc with ⟨-, k, hk, e⟩ | e
        · rw [s2, q] at e
          injection e with e
          exact (nI_m1 (n := k) (by omega)).mp e.symm
        · rw [h1] at e
          exact absurd e (by decide)
      · exact q
    subst e
    have i496 : (496 : Int32) + nI k = nI (496 + k) := by simp only [li_0, li_1, li_2, li_3, li_4, li_5, li_6, li_7, li_8, li_9, li_10, li_11, li_12, li_13, li_14, li_15, li_16, li_17, li_18, li_19, li_30, li_32, li_40, li_41, li_42, li_43, li_45, li_48, li_57, li_59, li_60, li_61, li_63, li_97, li_99, li_122, li_160, li_200, li_255, li_256, li_257, li_258, li_259, li_360, li_460, li_462, li_470, li_475, li_480, li_481, li_482, li_483, li_484, li_490, li_496, li_510, li_999, li_9999, li_10000, li_10008, li_10009, li_10010, li_10011, li_10012, li_10013, li_10014, li_10015, li_10016, li_100000, nI_add]
    have i30 : (30 : Int32) * nI b + nI 8 = nI (30 * b + 8) := by simp only [li_0, li_1, li_2, li_3, li_4, li_5, li_6, li_7, li_8, li_9, li_10, li_11, li_12, li_13, li_14, li_15, li_16, li_17, li_18, li_19, li_30, li_32, li_40, li_41, li_42, li_43, li_45, li_48, li_57, li_59, li_60, li_61, li_63, li_97, li_99, li_122, li_160, li_200, li_255, li_256, li_257, li_258, li_259, li_360, li_460, li_462, li_470, li_475, li_480, li_481, li_482, li_483, li_484, li_490, li_496, li_510, li_999, li_9999, li_10000, li_10008, li_10009, li_10010, li_10011, li_10012, li_10013, li_10014, li_10015, li_10016, li_100000, nI_mul, nI_add]
    have k1 := h.set (x := nI k) (ix_v8 (nf := nf) (ns := ns) hb) (hP.stands hb hk)
    have k2 := k1.set (x := nI b) (ix_e13 (nv := nv) (nf := nf) hk) (k1.2.2.2.2.1.owner hk (show b < 12 by omega))
    have hs1 : st g1 19 i b 8 (nI k) 9 i 0 1 = nI ns := k1.1.1
    have cm : st (st g2 1 0 0 (496 + k) (nI b)) 1 0 0 (30 * b + 8) (nI k) = st (st g2 1 0 0 (30 * b + 8) (nI k)) 1 0 0 (496 + k) (nI b) := st_comm (by omega)
    have hT2 : TK i nv nf ns g1 g2 (st (st g1 19 i b 8 (nI k)) 13 i 0 k (nI b)) (st (st g2 1 0 0 (30 * b + 8) (nI k)) 1 0 0 (496 + k) (nI b)) := ⟨k2, (FrC.rf.st (by unfold wrC; omega)).st (by unfold wrC; omega), (FrR.rf.st (Or.inl rfl)).st (Or.inl rfl)⟩
    have hH2 : HK g1 g2 (st (st g1 19 i b 8 (nI k)) 13 i 0 k (nI b)) (st (st g2 1 0 0 (30 * b + 8) (nI k)) 1 0 0 (496 + k) (nI b)) i := (HK.rf.st (Or.inr (by decide)) (by omega)).st (Or.inl (by decide)) (by omega)
    have o : ∀ m, m ≠ 30 * b + 8 → m ≠ 496 + k → st (st g2 1 0 0 (30 * b + 8) (nI k)) 1 0 0 (496 + k) (nI b) 1 0 0 m = g2 1 0 0 m := fun m m1 m2 => (st_ne (by omega)).trans (st_ne (by omega))
    have h1' : g2 1 0 0 (30 * b + 6) = nI 1 := h1
    obtain ⟨g3, g4, a1, a2, a3, a4, -⟩ := leave_pr (n := 2) hi k2 hb (by omega) (by omega) (k2.2.2.2.2.1.state hb (by omega) (fun _ _ => ⟨k, hk, by rw [st_ne (by omega), st_eq]⟩) (fun _ => by rw [o _ (by omega) (by omega)]; exact q2 1 (by omega) h1') (fun z => by
      rw [o _ (by omega) (by omega)] at z
      have := q3 z
      rw [h1', nI_eq (by omega) (by omega)] at this
      omega))
    obtain ⟨g5, g6, b1, b2, b3, b4⟩ := ends_pr a3.1 hb hr
    have t9 : st (st g1 19 i b 8 (nI k)) 13 i 0 k (nI b) 9 i 0 0 = st (st g2 1 0 0 (30 * b + 8) (nI k)) 1 0 0 (496 + k) (nI b) 1 0 0 480 := k2.e9
    rw [s1, wBd_e, wLe_e, st_eq, hst_ev hs1 (by omega) (by omega), if_pos hk, wBd_e, if_neg c0, wGi_ok (by omega) (by omega), nI_clamp (show k < 2 ^ 31 by omega), wLe_e, t9, n2, a1, wBd_e, b1, s2, wBd_e, i496, wGi_ok (by omega) (by omega), nI_clamp (show 496 + k < 2 ^ 31 by omega), wLe_e, n8, i30, wGi_ok (by omega) (by omega), nI_clamp (show 30 * b + 8 < 2 ^ 31 by omega), wLe_e, cm, a2, wBd_e, b2]
    exact ⟨_, _, rfl, rfl, (hT2.tr a3).tr b3, (hH2.to2.tr a4).tr b4.to2⟩
  · have h5 : g2 1 0 0 (30 * b + 6) = nI 5 := by
      rcases hc with ⟨e, -⟩ | e
      · exact (h1 e).elim
      · exact e
    rw [if_neg h1, if_neg h1]
    obtain ⟨g3, g4, a1, a2, a3, a4, -⟩ := leave_pr (n := 6) hi h hb (by omega) (by omega) (hP.state hb (by omega) (by omega) (by omega) (fun z => by
      have := q3 z
      rw [h5, nI_eq (by omega) (by omega)] at this
      omega))
    obtain ⟨g5, g6, b1, b2, b3, b4⟩ := ends_pr a3.1 hb hr
    rw [e9, a1, wBd_e, b1, a2, wBd_e, b2]
    exact ⟨_, _, rfl, rfl, a3.tr b3, a4.tr b4.to2⟩
theorem Could.sr {g g' : Mm} {v : Nat} (h : Could g v) (e1 : g' 1 = g 1) (e0 : g' 0 = g 0) (e14 : g' 14 = g 14) : Could g' v := by
  have es : fX11_standFor g' (nI v) = fX11_standFor g (nI v) := by
    unfold fX11_standFor fX11_standFor_b28 fX11_standFor_L33 fX11_standFor_B33 fX11_standFor_b86 fX11_standFor_b87 fX11_standFor_b123 fX11_standFor_b128 fX11_standFor_b129 fX11_of
    rw [e1, e0, e14]
  unfold Could
  rw [e1, es]
  exact h
theorem uses_pr {i nv nf ns r : Nat} {gC gR : Mm} (hi : i < 2) (h : PS i gC gR nv nf ns) (hr : RS i gC gR) (hb : VB i gC nv) (hr2 : r < 2) :
    ∃ g1 z gC' gR', fX4_bestFor gC i (nI r) = some (g1, z) ∧ fX4_giveRunway g1 i (nI r) z = some gC' ∧ fX11_uses gR (nI r) = some gR' ∧ TK i nv nf ns gC gR gC' gR' ∧ HK2 gC gR gC' gR' i := by
  have hv12 := h.nv12
  have b1 := h.2.1.1
  have e14 := h.e14 hr2
  have e9 := h.e9
  have gm1 : ∀ g, fX4_giveRunway g i (nI r) (-1) = some g := fun g => rfl
  unfold fX4_bestFor fX11_uses
  rw [wGi_ok (by omega) (by omega), nI_clamp (by omega), e14, e9]
  by_cases ht : gR 1 0 0 (460 + r) ≤ gR 1 0 0 480
  · rw [if_pos ht]
    have key := wLp_two (f1 := fun q : Mm × Int32 × Int32 × Int32 => fX4_bestFor_B22 q.1 i (nI r) q.2.1 q.2.2.1 q.2.2.2) (f2 := fun q : Mm × Int32 × Int32 × Int32 => fX11_uses_B7 q.1 (nI r) q.2.1 q.2.2.1 q.2.2.2)
      (fun t1 t2 => ∃ gC', fX4_giveRunway t1.1 i (nI r) t1.2 = some gC' ∧ TK i nv nf ns gC gR gC' t2 ∧ HK2 gC gR gC' t2 i)
      (fun k s1 s2 => ∃ g1 g2 best most, s1 = (g1, best, most, nI k) ∧ s2 = (g2, best, most, nI k) ∧ SC gC g1 ∧ SR gR g2 ∧ (best = -1 ∨ ∃ b, b < nv ∧ best = nI b ∧ Could gR b)) nv
      (fun k s1 s2 hk ⟨g1, g2, best, most, a1, a2, a3, a4, a5⟩ => by
        subst a1; subst a2
        left
        obtain ⟨hT, hH⟩ := TK.scr h a3 a4
        have hr1 := hr.fr hT.2.1 hT.2.2
        have hb1 := hb.fr hT.2.1
        have t1 : g2 1 0 0 (460 + r) ≤ g2 1 0 0 480 := by rw [a4 1 (by decide)]; exact ht
        obtain ⟨z, g3, g4, r1, r2, r3, r4, r5⟩ := ready_pr hT.1 hr1 hb1 hk hr2 t1
        have n1 : g1 9 i 0 2 = nI nv := hT.1.1.2.1
        have n2 : g2 0 0 0 1 = nI nv := hT.1.2.1.1
        dsimp only
        unfold fX4_bestFor_B22 fX11_uses_B7
        rw [n1, n2, if_neg (nI_ge hk (by omega)), if_neg (nI_ge hk (by omega)), r1, wB2_e, r2, wB2_e]
        unfold fX4_bestFor_b77 fX4_bestFor_b83 fX11_uses_b56 fX11_uses_b62
        by_cases z0 : z = 0
        · rw [if_pos z0, if_pos z0, wLe_e, wLe_e, nI_1]
          exact ⟨_, _, rfl, rfl, g3, g4, best, most, rfl, rfl, a3.tr r3, a4.tr r4, a5⟩
        · have hcd : Could gR k := by
            rcases r5 with q | q
            · exact (z0 q).elim
            · exact q.2.sr (a4 1 (by decide)).symm (a4 0 (by decide)).symm (a4 14 (by decide)).symm
          rw [if_neg z0, if_neg z0]
          obtain ⟨hT3, -⟩ := TK.scr hT.1 r3 r4
          have e15 := hT3.1.e15 hr2
          obtain ⟨y, n, gC1, gC2, gR2, c1, c2, c3, c4, c5, c6, c7, c8⟩ := ask_pr (q := 0) hT3.1 (hr1.fr hT3.2.1 hT3.2.2) (hb1.fr hT3.2.1) hk (by omega) (g4 1 0 0 (462 + r))
          obtain ⟨-, q3, q4⟩ := idx2 (β := (Mm × Int32 × Int32 × Int32) ⊕ Mm) hr2 none
          have q2 := fun f : Option ((Mm × Int32 × Int32 × Int32) ⊕ Mm) => (idx2 hr2 f).1.2
          have e0 : (0 : Int32) = nI 0 := rfl
          have hx : SC gC gC2 := (a3.tr r3).tr (c6.tr c7)
          have hy : SR gR gR2 := (a4.tr r4).tr c8
          rw [wGi_ok (by omega) (by omega), nI_clamp (by omega), e15, c2, wBd_e, c3, wGr_ok c1, q2, q4]
          rw [show fX6_says gC1 n 0 i = some (gC2, y) from c4, wB2_e, show fX11_worth g4 0 (nI k) (g4 1 0 0 (462 + r)) = some (gR2, y) from c5, wB2_e, wLe_e, wLe_e, wLe_e, wLe_e, nI_1]
          rcases a5 with rfl | ⟨b, hb', rfl, hcb⟩
          · rw [if_pos (show (-1 : Int32) < 0 by decide), if_pos rfl]
            exact ⟨_, _, rfl, rfl, gC2, gR2, nI k, y, rfl, rfl, hx, hy, Or.inr ⟨k, hk, rfl, hcd⟩⟩
          · rw [if_neg (nI_pos (show b < 2 ^ 31 by omega)), if_neg (show ¬ nI b = -1 from fun e => (nI_m1 (by omega)).mp e)]
            by_cases c : y ≤ most
            · rw [if_pos c, if_pos c]
              exact ⟨_, _, rfl, rfl, gC2, gR2, nI b, most, rfl, rfl, hx, hy, Or.inr ⟨b, hb', rfl, hcb⟩⟩
            · rw [if_neg c, if_neg c]
              exact ⟨_, _, rfl, rfl, gC2, gR2, nI k, y, rfl, rfl, hx, hy, Or.inr ⟨k, hk, rfl, hcd⟩⟩)
      (fun s1 s2 ⟨g1, g2, best, most, a1, a2, a3, a4, a5⟩ => by
        subst a1; subst a2
        obtain ⟨hT, hH⟩ := TK.scr h a3 a4
        have n1 : g1 9 i 0 2 = nI nv := hT.1.1.2.1
        have n2 : g2 0 0 0 1 = nI nv := hT.1.2.1.1
        dsimp only
        unfold fX4_bestFor_B22 fX11_uses_B7
        rw [n1, n2, if_pos (nI_le (Nat.le_refl _) (by omega)), if_pos (nI_le (Nat.le_refl _) (by omega)), wEx_e]
        rcases a5 with rfl | ⟨b, hb', rfl, hcb⟩
        · rw [if_pos rfl, wEx_e]
          exact ⟨_, _, rfl, rfl, g1, gm1 g1, hT, hH.to2⟩
        · rw [if_neg (show ¬ nI b = -1 from fun e => (nI_m1 (by omega)).mp e)]
          obtain ⟨g5, g6, d1, d2, d3, d4⟩ := give_pr hi hT.1 hb' hr2 (hcb.sr (a4 1 (by decide)) (a4 0 (by decide)) (a4 14 (by decide)))
          rw [d2, wEx_e]
          exact ⟨_, _, rfl, rfl, g5, d1, hT.tr d3, hH.to2.tr d4⟩)
      (k := 0) (Nat.zero_le _) (s1 := (gC, -1, 0, 0)) (s2 := (gR, -1, 0, 0)) ⟨gC, gR, -1, 0, rfl, rfl, SC.rf, SR.rf, Or.inl rfl⟩ (u1 := 1000) (u2 := 1000) (by omega) (by omega)
    obtain ⟨⟨g1, z⟩, t2, p1, p2, gC', p3, p4, p5⟩ := key
    exact ⟨g1, z, gC', t2, p1, p3, p2, p4, p5⟩
  · rw [if_neg ht]
    have ht : gR 1 0 0 480 < gR 1 0 0 (460 + r) := Int32.not_le.mp ht
    obtain ⟨t, p1, p2⟩ := wLp_one (f := fun q : Mm × Int32 × Int32 × Int32 => fX11_uses_B7 q.1 (nI r) q.2.1 q.2.2.1 q.2.2.2) (fun t => SR gR t) (fun k s => ∃ g2, s = (g2, -1, 0, nI k) ∧ SR gR g2) nv
      (fun k s hk ⟨g2, a1, a2⟩ => by
        subst a1
        left
        obtain ⟨hT, hH⟩ := TK.scr h SC.rf a2
        obtain ⟨g3, r1, r2⟩ := notReady_pr hT.1 (hr.fr hT.2.1 hT.2.2) hb hk hr2 (by rw [a2 1 (by decide)]; exact ht)
        have n2 : g2 0 0 0 1 = nI nv := hT.1.2.1.1
        dsimp only
        unfold fX11_uses_B7 fX11_uses_b62
        rw [n2, if_neg (nI_ge hk (by omega)), r1, wB2_e, if_pos rfl, wLe_e, nI_1]
        exact ⟨_, rfl, g3, rfl, a2.tr r2⟩)
      (fun s ⟨g2, a1, a2⟩ => by
        subst a1
        have n2 : g2 0 0 0 1 = nI nv := by rw [a2 0 (by decide)]; exact b1
        dsimp only
        unfold fX11_uses_B7
        rw [n2, if_pos (nI_le (Nat.le_refl _) (by omega)), if_pos rfl, wEx_e]
        exact ⟨_, rfl, a2⟩)
      (k := 0) (Nat.zero_le _) (s := (gR, -1, 0, 0)) ⟨gR, rfl, SR.rf⟩ (u := 1000) (by omega)
    obtain ⟨hT, hH⟩ := TK.scr h SC.rf p2
    exact ⟨gC, -1, gC, t, rfl, gm1 gC, p1, hT, hH.to2⟩
