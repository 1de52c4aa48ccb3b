-- ===== the host's sheets =====
theorem R3.she {gC gR gC' gR' : Mm} {nv nf ns : Nat} (h : R3 gC gR nv nf ns) (hC : ∀ t, t ≠ 29 → t ≠ 30 → gC' t = gC t) (hR : ∀ t, t ≠ 10 → t ≠ 11 → t ≠ 12 → gR' t = gR t) (sh : SHE gC' gR') : R3 gC' gR' nv nf ns := by
  have r0 := hR 0 (by decide) (by decide) (by decide)
  refine h.ot (fun t i v j q _ => by rw [hC t (by omega) (by omega)]) (fun t q => hR t (by omega) (by omega) (by omega)) (fun j _ _ => by rw [r0]) ?_ ?_ ?_ ?_ sh
  · exact h.2.2.2.1.off (by rw [hC 1 (by decide) (by decide)]; exact ⟨rfl, rfl⟩) (by rw [hC 9 (by decide) (by decide)]) (fun t => by rw [hC 6 (by decide) (by decide)]) (fun t => by rw [hC 7 (by decide) (by decide)]) (by rw [r0]; exact ⟨rfl, rfl⟩) (hR 7 (by decide) (by decide) (by decide)) (hR 8 (by decide) (by decide) (by decide))
  · exact h.2.2.2.2.1.off (by rw [hC 1 (by decide) (by decide)]) (by rw [hC 4 (by decide) (by decide)]) (by rw [r0]) (hR 6 (by decide) (by decide) (by decide))
  · exact h.2.2.2.2.2.1.off (by rw [hC 24 (by decide) (by decide)]) (by rw [hC 25 (by decide) (by decide)]) (by rw [hC 26 (by decide) (by decide)]) (by rw [hC 27 (by decide) (by decide)]) (by rw [r0]) (hR 2 (by decide) (by decide) (by decide)) (hR 3 (by decide) (by decide) (by decide)) (hR 4 (by decide) (by decide) (by decide))
  · exact h.2.2.2.2.2.2.1.off (by rw [hC 23 (by decide) (by decide)]) (by rw [r0]) (hR 5 (by decide) (by decide) (by decide))
theorem R3.sh {gC gR : Mm} {nv nf ns : Nat} (h : R3 gC gR nv nf ns) : SHE gC gR := h.2.2.2.2.2.2.2.1
/-- a sheet's number -/
theorem sheet_no (g : Mm) (a : Int32) : (∃ s, s < 4 ∧ a = nI s ∧ ¬ a < 0 ∧ a < 4 ∧ ¬ 4 ≤ a ∧ fX11_in g a 0 3 = some 1) ∨ ((a < 0 ∨ (¬ a < 0 ∧ ¬ a < 4 ∧ 4 ≤ a)) ∧ fX11_in g a 0 3 = some 0) := by
  rcases posneg a with ha | ⟨n, hn, rfl⟩
  · exact Or.inr ⟨Or.inl ha, in_neg (lo := 0) ha (by omega)⟩
  · rw [show fX11_in g (nI n) 0 3 = _ from in_ev (lo := 0) (hi := 3) hn (by omega) (by omega)]
    by_cases c : n < 4
    · exact Or.inl ⟨n, c, rfl, nI_pos hn, nI_lt (b := 4) c (by omega), nI_ge (b := 4) c (by omega), by rw [if_pos (by omega)]⟩
    · exact Or.inr ⟨Or.inr ⟨nI_pos hn, nI_nlt (b := 4) (by omega) hn, nI_le (a := 4) (by omega) hn⟩, by rw [if_neg (by omega)]⟩
theorem renewC_ev (g : Mm) (s : Nat) (a z : Int32) : ∃ g', fX7_renew_b16 (st g 29 s 0 0 a) s a z z = some g' ∧ (∀ t i v j, ¬ (i = s ∧ (t = 29 ∨ t = 30)) → g' t i v j = g t i v j) ∧ g' 29 s 0 0 = a ∧ g' 29 s 0 1 = z ∧ ∀ k, k < 40 → g' 30 s 0 k = 0 := by
  unfold fX7_renew_b16
  rw [wLe_e, wLe_e]
  refine wLp_one (f := fun q : Mm × Int32 => fX7_renew_B21 q.1 s a z q.2) (fun g' => (∀ t i v j, ¬ (i = s ∧ (t = 29 ∨ t = 30)) → g' t i v j = g t i v j) ∧ g' 29 s 0 0 = a ∧ g' 29 s 0 1 = z ∧ ∀ k, k < 40 → g' 30 s 0 k = 0) (fun n x => ∃ g1, x = (g1, nI n) ∧ (∀ t i v j, ¬ (i = s ∧ (t = 29 ∨ t = 30)) → g1 t i v j = g t i v j) ∧ g1 29 s 0 0 = a ∧ g1 29 s 0 1 = z ∧ ∀ k, k < n → g1 30 s 0 k = 0) 40 ?_ ?_ (k := 0) (Nat.zero_le _) ⟨_, rfl, fun t i v j q => by rw [st_ne (by omega), st_ne (by omega)], by rw [st_ne (by omega), st_eq], st_eq, fun k hk => absurd hk (by omega)⟩ (by omega)
  · rintro n x hn ⟨g1, e, a1, a2, a3, a4⟩
    subst e
    left
    dsimp only
    unfold fX7_renew_B21
    rw [if_neg (show ¬ (40 : Int32) ≤ nI n from nI_ge (b := 40) hn (by omega)), wGi_ok (by omega) (by omega), nI_clamp (by omega), wLe_e, wLe_e, nI_1]
    refine ⟨_, rfl, _, rfl, fun t i v j q => (st_ne (by omega)).trans (a1 t i v j q), (st_ne (by omega)).trans a2, (st_ne (by omega)).trans a3, fun k hk => ?_⟩
    by_cases e : k = n
    · subst e; exact st_eq
    · rw [st_ne (by omega)]; exact a4 k (by omega)
  · rintro x ⟨g1, e, a1⟩
    subst e
    exact ⟨g1, rfl, a1⟩
theorem renewR_ev (g : Mm) (s : Nat) (hs : s < 4) (a b z : Int32) : ∃ g', fX11_sheet_b66 (st g 10 0 0 s a) (nI s) a b (nI s) z = some (g', 1) ∧ (∀ t, t ≠ 10 → t ≠ 11 → t ≠ 12 → g' t = g t) ∧ g' 10 0 0 s = a ∧ g' 11 0 0 s = z ∧ (∀ s', s' ≠ s → g' 10 0 0 s' = g 10 0 0 s' ∧ g' 11 0 0 s' = g 11 0 0 s') ∧ (∀ k, k < 40 → g' 12 0 0 (40 * s + k) = 0) ∧ ∀ m, m < 40 * s ∨ 40 * s + 40 ≤ m → g' 12 0 0 m = g 12 0 0 m := by
  unfold fX11_sheet_b66
  rw [wGi_ok (by omega) (by omega), nI_clamp (by omega), wLe_e, wLe_e]
  obtain ⟨⟨g', r⟩, p1, p2, p3⟩ := wLp_one (f := fun q : Mm × Int32 => fX11_sheet_B70 q.1 (nI s) a b q.2) (fun x => x.2 = 1 ∧ ((∀ t, t ≠ 10 → t ≠ 11 → t ≠ 12 → x.1 t = g t) ∧ x.1 10 0 0 s = a ∧ x.1 11 0 0 s = z ∧ (∀ s', s' ≠ s → x.1 10 0 0 s' = g 10 0 0 s' ∧ x.1 11 0 0 s' = g 11 0 0 s') ∧ (∀ k, k < 40 → x.1 12 0 0 (40 * s + k) = 0) ∧ ∀ m, m < 40 * s ∨ 40 * s + 40 ≤ m → x.1 12 0 0 m = g 12 0 0 m))
    (fun n x => ∃ g1, x = (g1, nI n) ∧ (∀ t, t ≠ 10 → t ≠ 11 → t ≠ 12 → g1 t = g t) ∧ g1 10 0 0 s = a ∧ g1 11 0 0 s = z ∧ (∀ s', s' ≠ s → g1 10 0 0 s' = g 10 0 0 s' ∧ g1 11 0 0 s' = g 11 0 0 s') ∧ (∀ k, k < n → g1 12 0 0 (40 * s + k) = 0) ∧ ∀ m, m < 40 * s ∨ 40 * s + 40 ≤ m → g1 12 0 0 m = g 12 0 0 m) 40
    (fun n x hn ⟨g1, e, a1, a2, a3, a4, a5, a6⟩ => by
      subst e
      left
      have e40 : (40 : Int32) * nI s + nI n = nI (40 * s + n) := by simp only [li_0, li_1, li_2, li_3, li_4, li_5, li_6, li_7, li_8, li_9, li_10, li_11, li_12, li_13, li_14, li_15, li_16, li_17, li_18, li_19, li_30, li_32, li_40, li_41, li_42, li_43, li_45, li_48, li_57, li_59, li_60, li_61, li_63, li_97, li_99, li_122, li_160, li_200, li_255, li_256, li_257, li_258, li_259, li_360, li_460, li_462, li_470, li_475, li_480, li_481, li_482, li_483, li_484, li_490, li_496, li_510, li_999, li_9999, li_10000, li_10008, li_10009, li_10010, li_10011, li_10012, li_10013, li_10014, li_10015, li_10016, li_100000, nI_mul, nI_add]
      dsimp only
      unfold fX11_sheet_B70
      rw [if_neg (show ¬ (40 : Int32) ≤ nI n from nI_ge (b := 40) hn (by omega)), e40, wGi_ok (by omega) (by omega), nI_clamp (by omega), wLe_e, wLe_e, nI_1]
      refine ⟨_, rfl, _, rfl, fun t q0 q1 q2 => (st_kind q2).trans (a1 t q0 q1 q2), (st_ne (by omega)).trans a2, (st_ne (by omega)).trans a3, fun s' q => ⟨(st_ne (by omega)).trans (a4 s' q).1, (st_ne (by omega)).trans (a4 s' q).2⟩, fun k hk => ?_, fun m q => (st_ne (by omega)).trans (a6 m q)⟩
      by_cases e : k = n
      · subst e; exact st_eq
      · rw [st_ne (by omega)]; exact a5 k (by omega))
    (fun x ⟨g1, e, a1⟩ => by
      subst e
      exact ⟨_, rfl, rfl, a1⟩)
    (k := 0) (Nat.zero_le _) (s := (st (st g 10 0 0 s a) 11 0 0 s z, 0)) ⟨_, rfl, fun t q0 q1 q2 => by rw [st_kind q1, st_kind q0], by rw [st_ne (by omega), st_eq], st_eq, fun s' q => ⟨by rw [st_ne (by omega), st_ne (by omega)], by rw [st_ne (by omega), st_ne (by omega)]⟩, fun k hk => absurd hk (by omega), fun m q => by rw [st_ne (by omega), st_ne (by omega)]⟩ (u := 1000) (by omega)
  have p2 : r = 1 := p2
  subst p2
  exact ⟨g', p1, p3⟩
theorem sc_sheet {gC gR : Mm} (h : Rel gC gR) (a b c : Int32) : ∃ gC1 gR1 r, fX10_sheet gC a b c = some (gC1, r) ∧ fX11_sheet gR a b c = some (gR1, r) ∧ Rel gC1 gR1 := by
  obtain ⟨nv, nf, ns, h⟩ := h
  have stay := fun r : Int32 => stays (r := r) (⟨nv, nf, ns, h⟩ : Rel gC gR)
  unfold fX10_sheet fX11_sheet
  rcases sheet_no gR a with ⟨s, hs, rfl, q1, q2, q3, q4⟩ | ⟨q1, q4⟩
  · rw [if_neg q1, if_neg q3, q4, wBd_e, if_neg c10]
    -- the sheet is made anew
    have new : ∀ z : Nat, z ≤ 40 → (b = -1 ∧ z = 0 ∨ b ≠ -1 ∧ c = nI z) → ∃ gC1 gR1 r, fX10_sheet_b43 gC (nI s) b c = some (gC1, r) ∧ fX11_sheet_b44 gR (nI s) b c = some (gR1, r) ∧ Rel gC1 gR1 := fun z hz hbz => by
      obtain ⟨g1, p1, p2, p3, p4, p5⟩ := renewC_ev gC s b (nI z)
      obtain ⟨g2, r1, r2, r3, r4, r5, r6, r7⟩ := renewR_ev gR s hs b c (nI z)
      have e1 : fX7_renew gC s b c = some g1 := by
        unfold fX7_renew
        rw [wLe_e]
        rcases hbz with ⟨rfl, rfl⟩ | ⟨nb, rfl⟩
        · rw [if_pos rfl]; exact p1
        · rw [if_neg nb]; exact p1
      have e2 : fX11_sheet_b44 gR (nI s) b c = some (g2, 1) := by
        unfold fX11_sheet_b44
        rw [wGi_ok (by omega) (by omega), nI_clamp (by omega), wLe_e]
        rcases hbz with ⟨rfl, rfl⟩ | ⟨nb, rfl⟩
        · rw [if_pos rfl]; exact r1
        · rw [if_neg nb]; exact r1
      unfold fX10_sheet_b43
      rw [wGi_ok (by omega) (by omega), nI_clamp (by omega), e1, wBd_e, e2]
      refine ⟨g1, g2, 1, rfl, rfl, nv, nf, ns, h.she (fun t q0 q1 => by funext i v j; exact p2 t i v j (by omega)) r2 fun s' hs' => ?_⟩
      by_cases e : s' = s
      · subst e
        exact ⟨p3.trans r3.symm, ⟨z, hz, p4, r4⟩, fun j hj => (p5 j hj).trans (r6 j hj).symm⟩
      · obtain ⟨k1, ⟨n, k2, k3, k4⟩, k5⟩ := h.sh s' hs'
        obtain ⟨x1, x2⟩ := r5 s' e
        exact ⟨(p2 29 s' 0 0 (by omega)).trans (k1.trans x1.symm), ⟨n, k2, (p2 29 s' 0 1 (by omega)).trans k3, x2.trans k4⟩, fun j hj => (p2 30 s' 0 j (by omega)).trans ((k5 j hj).trans (r7 _ (by omega)).symm)⟩
    have inb : fX11_in gR b (-1) 2 = some (if b < -1 then 0 else if 2 < b then 0 else 1) := by
      unfold fX11_in
      by_cases x : b < -1
      · rw [if_pos x, if_pos x]
      · rw [if_neg x, if_neg x]
        by_cases y : (2 : Int32) < b
        · rw [if_pos y, if_pos y]
        · rw [if_neg y, if_neg y]
    rw [inb, wBd_e]
    by_cases b1 : b < -1
    · rw [if_pos b1, if_pos b1, if_pos rfl]; exact stay _
    · rw [if_neg b1, if_neg b1]
      by_cases b2 : 2 < b
      · have b3 : ¬ b < 3 := by
          have := Int32.lt_iff_toInt_lt.mp b2
          rw [Int32.lt_iff_toInt_lt]
          have e2 : (2 : Int32).toInt = 2 := rfl
          have e3 : (3 : Int32).toInt = 3 := rfl
          omega
        rw [if_neg b3, if_pos b2, if_pos rfl]; exact stay _
      · have b3 : b < 3 := by
          rw [Int32.lt_iff_toInt_lt] at b2 ⊢
          have e2 : (2 : Int32).toInt = 2 := rfl
          have e3 : (3 : Int32).toInt = 3 := rfl
          omega
        rw [if_pos b3, if_neg b2, if_neg c10]
        unfold fX11_sheet_b32
        by_cases bm : b = -1
        · rw [if_pos bm, if_pos bm, if_pos bm]
          exact new 0 (by omega) (Or.inl ⟨bm, rfl⟩)
        · rw [if_neg bm, if_neg bm, if_neg bm]
          rcases posneg c with hc | ⟨n, hn, rfl⟩
          · rw [if_pos (show c ≤ (40 : Int32) from neg_le (n := 40) hc (by omega)), if_pos (show c ≤ (40 : Int32) from neg_le (n := 40) hc (by omega)), if_neg (Int32.not_le.mpr hc), if_neg (Int32.not_le.mpr hc)]
            exact stay _
          · by_cases c4 : n ≤ 40
            · rw [if_pos (show nI n ≤ (40 : Int32) from nI_le (b := 40) c4 (by omega)), if_pos (show nI n ≤ (40 : Int32) from nI_le (b := 40) c4 (by omega)), if_pos (nI_pos' hn), if_pos (nI_pos' hn)]
              exact new n c4 (Or.inr ⟨bm, rfl⟩)
            · rw [if_neg (show ¬ nI n ≤ (40 : Int32) from nI_ge (a := 40) (by omega) hn), if_neg (show ¬ nI n ≤ (40 : Int32) from nI_ge (a := 40) (by omega) hn)]
              exact stay _
  · rw [q4, wBd_e, if_pos rfl]
    rcases q1 with q | ⟨q1, q2, q3⟩
    · rw [if_pos q]; exact stay _
    · rw [if_neg q1, if_pos q3]; exact stay _
theorem sc_cell {gC gR : Mm} (h : Rel gC gR) (a b c : Int32) : ∃ gC1 gR1 r, fX10_cell gC a b c = some (gC1, r) ∧ fX11_cell gR a b c = some (gR1, r) ∧ Rel gC1 gR1 := by
  obtain ⟨nv, nf, ns, h⟩ := h
  have stay := fun r : Int32 => stays (r := r) (⟨nv, nf, ns, h⟩ : Rel gC gR)
  unfold fX10_cell fX11_cell fX7_isMissing
  rcases sheet_no gR a with ⟨s, hs, rfl, q1, q2, q3, q4⟩ | ⟨q1, q4⟩
  · obtain ⟨k1, ⟨n, k2, k3, k4⟩, k5⟩ := h.sh s hs
    rw [if_neg q1, if_pos q2, q4, wBd_e, if_neg c10, wGi_ok (by omega) (by omega), wGi_ok (by omega) (by omega), wGi_ok (by omega) (by omega), nI_clamp (by omega), k1]
    by_cases m : gR 10 0 0 s = -1
    · rw [if_pos m, wBd_e, if_neg c10, if_pos m]; exact stay _
    · rw [if_neg m, wBd_e, if_pos rfl, if_neg m, k4]
      unfold fX7_has
      rw [k3]
      rcases in_cnt gR (show n < 2 ^ 31 by omega) b with ⟨i, hi, rfl, e⟩ | ⟨q, e⟩
      · have e40 : (40 : Int32) * nI s + nI i = nI (40 * s + i) := by simp only [li_0, li_1, li_2, li_3, li_4, li_5, li_6, li_7, li_8, li_9, li_10, li_11, li_12, li_13, li_14, li_15, li_16, li_17, li_18, li_19, li_30, li_32, li_40, li_41, li_42, li_43, li_45, li_48, li_57, li_59, li_60, li_61, li_63, li_97, li_99, li_122, li_160, li_200, li_255, li_256, li_257, li_258, li_259, li_360, li_460, li_462, li_470, li_475, li_480, li_481, li_482, li_483, li_484, li_490, li_496, li_510, li_999, li_9999, li_10000, li_10008, li_10009, li_10010, li_10011, li_10012, li_10013, li_10014, li_10015, li_10016, li_100000, nI_mul, nI_add]
        rw [if_neg (nI_pos (by omega)), if_neg (nI_ge hi (by omega)), wBd_e, if_neg c10, e, wBd_e, if_neg c10, wGi_ok (by omega) (by omega), wGi_ok (by omega) (by omega), e40, wGi_ok (by omega) (by omega), wGi_ok (by omega) (by omega), wGi_ok (by omega) (by omega), nI_clamp (show 40 * s + i < 2 ^ 31 by omega)]
        -- the number is written
        have wr : ∀ x : Int32, ∃ gC1 gR1 r, (wBd (wLe (st gC 30 s 0 i x) fun g => some g) fun g12 => some (g12, (1 : Int32))) = some (gC1, r) ∧ (wLe (st gR 12 0 0 (40 * s + i) x) fun g => some (g, (1 : Int32))) = some (gR1, r) ∧ Rel gC1 gR1 := fun x => by
          rw [wLe_e, wLe_e, wBd_e]
          refine ⟨_, _, 1, rfl, rfl, nv, nf, ns, h.she (fun t q0 q1 => st_kind q1) (fun t q0 q1 q2 => st_kind q2) fun s' hs' => ?_⟩
          obtain ⟨k1, ⟨n, k2, k3, k4⟩, k5⟩ := h.sh s' hs'
          refine ⟨?_, ⟨n, k2, ?_, ?_⟩, fun j hj => ?_⟩
          · rw [st_ne (by omega), st_ne (by omega)]; exact k1
          · rw [st_ne (by omega)]; exact k3
          · rw [st_ne (by omega)]; exact k4
          · by_cases z : s' = s ∧ j = i
            · obtain ⟨rfl, rfl⟩ := z
              rw [st_eq, st_eq]
            · rw [st_ne (by omega), st_ne (by omega)]; exact k5 j hj
        unfold fX7_put
        rw [k1, wGi_ok (by omega) (by omega), wGi_ok (by omega) (by omega), wGi_ok (by omega) (by omega), nI_clamp (show i < 2 ^ 31 by omega)]
        by_cases z0 : gR 10 0 0 s = 0
        · rw [if_pos z0, if_pos z0]; exact wr _
        · rw [if_neg z0, if_neg z0]
          by_cases z1 : gR 10 0 0 s = 1
          · rw [if_pos z1, if_pos z1]; exact wr _
          · rw [if_neg z1, if_neg z1]; exact wr _
      · rw [e, wBd_e, if_pos rfl]
        rcases q with q | ⟨v, x1, x2, rfl⟩
        · rw [if_pos q, wBd_e, if_pos rfl]; exact stay _
        · rw [if_neg (nI_pos x2), if_pos (nI_le x1 x2), wBd_e, if_pos rfl]; exact stay _
  · rw [q4, wBd_e, if_pos rfl]
    rcases q1 with q | ⟨q1, q2, q3⟩
    · rw [if_pos q]; exact stay _
    · rw [if_neg q1, if_neg q2]; exact stay _
-- ===== copying rows =====
theorem copy_loop {g : Mm} {a1 a2 a3 a4 : Int32} {a b n : Nat} (ha : a + n ≤ 160) (hb : b + n ≤ 160) (hn : n ≤ 40) : ∃ g', fX11_copy_L147 g a1 a2 a3 a4 (nI n) (nI a) (nI b) 0 = some (g', nI n) ∧ (∀ t, t ≠ 12 → g' t = g t) ∧ ∀ m, g' 12 0 0 m = if b ≤ m ∧ m < b + n then g 12 0 0 (a + (m - b)) else g 12 0 0 m := by
  by_cases ba : b ≤ a
  · obtain ⟨⟨g', r⟩, p1, p2, p3⟩ := wLp_one (f := fun q : Mm × Int32 => fX11_copy_B147 q.1 a1 a2 a3 a4 (nI n) (nI a) (nI b) q.2) (fun x => x.2 = nI n ∧ (∀ t, t ≠ 12 → x.1 t = g t) ∧ ∀ m, x.1 12 0 0 m = if b ≤ m ∧ m < b + n then g 12 0 0 (a + (m - b)) else g 12 0 0 m)
      (fun k x => ∃ g1, x = (g1, nI k) ∧ (∀ t, t ≠ 12 → g1 t = g t) ∧ ∀ m, g1 12 0 0 m = if b ≤ m ∧ m < b + k then g 12 0 0 (a + (m - b)) else g 12 0 0 m) n
      (fun k x hk ⟨g1, e, x1, x2⟩ => by
        subst e
        left
        dsimp only
        unfold fX11_copy_B147 fX11_copy_b173
        rw [if_neg (nI_ge hk (by omega)), if_pos (nI_le ba (by omega)), nI_add, nI_add, wGi_ok (by omega) (by omega), wGi_ok (by omega) (by omega), nI_clamp (by omega), nI_clamp (by omega), wLe_e, wLe_e, nI_1]
        refine ⟨_, rfl, _, rfl, fun t q => (st_kind q).trans (x1 t q), fun m => ?_⟩
        by_cases e : m = b + k
        · subst e
          rw [st_eq, x2, if_neg (by omega), if_pos (by omega)]
          congr 1
          omega
        · rw [st_ne (by omega), x2]
          by_cases c : b ≤ m ∧ m < b + k
          · rw [if_pos c, if_pos (by omega)]
          · rw [if_neg c, if_neg (by omega)])
      (fun x ⟨g1, e, x1, x2⟩ => by
        subst e
        dsimp only
        unfold fX11_copy_B147
        rw [if_pos (nI_le (Nat.le_refl _) (by omega)), wEx_e]
        exact ⟨_, rfl, rfl, x1, x2⟩)
      (k := 0) (Nat.zero_le _) (s := (g, 0)) ⟨g, rfl, fun _ _ => rfl, fun m => by rw [if_neg (by omega)]⟩ (u := 1000) (by omega)
    have p2 : r = nI n := p2
    subst p2
    exact ⟨g', p1, p3⟩
  · obtain ⟨⟨g', r⟩, p1, p2, p3⟩ := wLp_one (f := fun q : Mm × Int32 => fX11_copy_B147 q.1 a1 a2 a3 a4 (nI n) (nI a) (nI b) q.2) (fun x => x.2 = nI n ∧ (∀ t, t ≠ 12 → x.1 t = g t) ∧ ∀ m, x.1 12 0 0 m = if b ≤ m ∧ m < b + n then g 12 0 0 (a + (m - b)) else g 12 0 0 m)
      (fun k x => ∃ g1, x = (g1, nI k) ∧ (∀ t, t ≠ 12 → g1 t = g t) ∧ ∀ m, g1 12 0 0 m = if b + (n - k) ≤ m ∧ m < b + n then g 12 0 0 (a + (m - b)) else g 12 0 0 m) n
      (fun k x hk ⟨g1, e, x1, x2⟩ => by
        subst e
        left
        have nk : nI n - 1 - nI k = nI (n - 1 - k) := by rw [show nI n - 1 = nI (n - 1) from nI_sub (b := 1) (by omega), nI_sub (by omega)]
        dsimp only
        unfold fX11_copy_B147 fX11_copy_b173
        rw [if_neg (nI_ge hk (by omega)), if_neg (nI_ge (show a < b by omega) (by omega)), nk, nI_add, nI_add, wGi_ok (by omega) (by omega), wGi_ok (by omega) (by omega), nI_clamp (by omega), nI_clamp (by omega), wLe_e, wLe_e, nI_1]
        refine ⟨_, rfl, _, rfl, fun t q => (st_kind q).trans (x1 t q), fun m => ?_⟩
        by_cases e : m = b + (n - 1 - k)
        · subst e
          rw [st_eq, x2, if_neg (by omega), if_pos (by omega)]
          congr 1
          omega
        · rw [st_ne (by omega), x2]
          by_cases c : b + (n - k) ≤ m ∧ m < b + n
          · rw [if_pos c, if_pos (by omega)]
          · rw [if_neg c, if_neg (by omega)])
      (fun x ⟨g1, e, x1, x2⟩ => by
        subst e
        dsimp only
        unfold fX11_copy_B147
        rw [if_pos (nI_le (Nat.le_refl _) (by omega)), wEx_e]
        refine ⟨_, rfl, rfl, x1, fun m => ?_⟩
        have w := x2 m
        rw [Nat.sub_self, Nat.add_zero] at w
        exact w)
      (k := 0) (Nat.zero_le _) (s := (g, 0)) ⟨g, rfl, fun _ _ => rfl, fun m => by rw [if_neg (by omega)]⟩ (u := 1000) (by omega)
    have p2 : r = nI n := p2
    subst p2
    exact ⟨g', p1, p3⟩
theorem spans_ev {g : Mm} {s z i n : Nat} (hz : z ≤ 40) (e : g 29 s 0 1 = nI z) (hi : i < 2 ^ 31) (hn : n < 2 ^ 31) : fX7_spans g s (nI i) (nI n) = some (if i + n ≤ z then 1 else 0) := by
  unfold fX7_spans
  rw [if_neg (nI_pos hi), if_neg (nI_pos hn), e]
  by_cases c : z < n
  · rw [if_pos (nI_lt c hn), if_neg (by omega)]
  · rw [if_neg (nI_nlt (by omega) (by omega)), nI_sub (by omega)]
    by_cases d : z - n < i
    · rw [if_pos (nI_lt d hi), if_neg (by omega)]
    · rw [if_neg (nI_nlt (by omega) (by omega)), if_pos (by omega)]
theorem sc_copy {gC gR : Mm} (h : Rel gC gR) (a i c j n : Int32) : ∃ gC1 gR1 r, fX10_copy gC a i c j n = some (gC1, r) ∧ fX11_copy gR a i c j n = some (gR1, r) ∧ Rel gC1 gR1 := by
  obtain ⟨nv, nf, ns, h⟩ := h
  have stay := fun r : Int32 => stays (r := r) (⟨nv, nf, ns, h⟩ : Rel gC gR)
  unfold fX10_copy fX11_copy fX7_isMissing
  rcases sheet_no gR a with ⟨s, hs, rfl, q1, q2, q3, q4⟩ | ⟨q1, q4⟩
  · obtain ⟨k1, ⟨z, k2, k3, k4⟩, k5⟩ := h.sh s hs
    rw [if_neg q1, if_neg q3, q4, wBd_e, if_neg c10]
    rcases sheet_no gR c with ⟨o, ho, rfl, p1, p2, p3, p4⟩ | ⟨p1, p4⟩
    · obtain ⟨l1, ⟨y, l2, l3, l4⟩, l5⟩ := h.sh o ho
      rw [if_neg p1, if_pos p2, p4, wBd_e, if_neg c10]
      simp only [wGi_ok (show s < 4 from hs) (show 4 < 2 ^ 31 by omega), wGi_ok (show o < 4 from ho) (show 4 < 2 ^ 31 by omega), nI_clamp (show s < 2 ^ 31 by omega), nI_clamp (show o < 2 ^ 31 by omega), k1, l1, k4, l4]
      by_cases m : gR 10 0 0 s = -1
      · rw [if_pos m, wBd_e, if_neg c10, if_pos m]; exact stay _
      · rw [if_neg m, wBd_e, if_pos rfl, if_neg m]
        by_cases m' : gR 10 0 0 o = -1
        · rw [if_pos m', wBd_e, if_neg c10, if_pos m']; exact stay _
        · rw [if_neg m', wBd_e, if_pos rfl, if_neg m']
          by_cases so : gR 10 0 0 s = gR 10 0 0 o
          · rw [if_pos so, if_pos so]
            have sp0 : ∀ s x, x < 0 → ∀ w, fX7_spans gC s x w = some 0 := fun s x hx w => if_pos hx
            have sp1 : ∀ s x w, w < 0 → fX7_spans gC s x w = some 0 := fun s x w hw => by
              unfold fX7_spans
              by_cases hx : x < 0
              · rw [if_pos hx]
              · rw [if_neg hx, if_pos hw]
            rcases posneg n with hn | ⟨n, hn, rfl⟩
            · rw [sp1 s i n hn, wBd_e, if_pos rfl, if_pos hn]; exact stay _
            · rw [if_neg (nI_pos hn)]
              rcases posneg i with hi | ⟨i, hi, rfl⟩
              · rw [sp0 s i hi, wBd_e, if_pos rfl, if_pos hi]; exact stay _
              · rw [if_neg (nI_pos hi), spans_ev k2 k3 hi hn, wBd_e]
                rcases posneg j with hj | ⟨j, hj, rfl⟩
                · rw [sp0 o j hj, wBd_e, if_pos rfl, if_pos hj]
                  by_cases cc : i + n ≤ z
                  · rw [if_pos cc, if_neg c10]; exact stay _
                  · rw [if_neg cc, if_pos rfl]; exact stay _
                · rw [if_neg (nI_pos hj), spans_ev l2 l3 hj hn, wBd_e]
                  by_cases x1 : z < i
                  · rw [if_neg (show ¬ i + n ≤ z by omega), if_pos rfl, if_pos (nI_lt x1 hi)]; exact stay _
                  · rw [if_neg (nI_nlt (show i ≤ z by omega) (by omega))]
                    by_cases x2 : y < j
                    · rw [if_pos (nI_lt x2 hj), if_neg (show ¬ j + n ≤ y by omega)]
                      by_cases cc : i + n ≤ z
                      · rw [if_pos cc, if_neg c10, if_pos rfl]; exact stay _
                      · rw [if_neg cc, if_pos rfl]; exact stay _
                    · rw [if_neg (nI_nlt (show j ≤ y by omega) (by omega)), nI_sub (show i ≤ z by omega), nI_sub (show j ≤ y by omega)]
                      by_cases x3 : z - i < n
                      · rw [if_neg (show ¬ i + n ≤ z by omega), if_pos rfl, if_pos (nI_lt x3 hn)]; exact stay _
                      · rw [if_pos (show i + n ≤ z by omega), if_neg c10, if_neg (nI_nlt (show n ≤ z - i by omega) (by omega))]
                        by_cases x4 : n ≤ y - j
                        · have e40 : (40 : Int32) * nI s + nI i = nI (40 * s + i) := by simp only [li_0, li_1, li_2, li_3, li_4, li_5, li_6, li_7, li_8, li_9, li_10, li_11, li_12, li_13, li_14, li_15, li_16, li_17, li_18, li_19, li_30, li_32, li_40, li_41, li_42, li_43, li_45, li_48, li_57, li_59, li_60, li_61, li_63, li_97, li_99, li_122, li_160, li_200, li_255, li_256, li_257, li_258, li_259, li_360, li_460, li_462, li_470, li_475, li_480, li_481, li_482, li_483, li_484, li_490, li_496, li_510, li_999, li_9999, li_10000, li_10008, li_10009, li_10010, li_10011, li_10012, li_10013, li_10014, li_10015, li_10016, li_100000, nI_mul, nI_add]
                          have f40 : (40 : Int32) * nI o + nI j = nI (40 * o + j) := by simp only [li_0, li_1, li_2, li_3, li_4, li_5, li_6, li_7, li_8, li_9, li_10, li_11, li_12, li_13, li_14, li_15, li_16, li_17, li_18, li_19, li_30, li_32, li_40, li_41, li_42, li_43, li_45, li_48, li_57, li_59, li_60, li_61, li_63, li_97, li_99, li_122, li_160, li_200, li_255, li_256, li_257, li_258, li_259, li_360, li_460, li_462, li_470, li_475, li_480, li_481, li_482, li_483, li_484, li_490, li_496, li_510, li_999, li_9999, li_10000, li_10008, li_10009, li_10010, li_10011, li_10012, li_10013, li_10014, li_10015, li_10016, li_100000, nI_mul, nI_add]
                          obtain ⟨g2, r1, r2, r3⟩ := copy_loop (g := gR) (a1 := nI s) (a2 := nI i) (a3 := nI o) (a4 := nI j) (a := 40 * s + i) (b := 40 * o + j) (n := n) (by omega) (by omega) (by omega)
                          have wk : wCk (nI i) (nI j) (nI n) 40 40 := ⟨nI_pos hi, nI_pos hj, nI_pos hn, by rw [nI_clamp hi, nI_clamp hn]; omega, by rw [nI_clamp hj, nI_clamp hn]; omega⟩
                          rw [if_pos (show j + n ≤ y by omega), if_neg c10, wGd_ok wk, wLe_e, if_pos (nI_le x4 (by omega)), e40, f40, wLe_e, wLe_e, wLe_e, r1]
                          refine ⟨_, g2, nI n, rfl, rfl, nv, nf, ns, h.she (fun t q0 q1 => by funext i' v' j'; exact wCp_off (by omega)) (fun t _ _ q => r2 t q) fun s' hs' => ?_⟩
                          obtain ⟨b1, ⟨y', b2, b3, b4⟩, b5⟩ := h.sh s' hs'
                          refine ⟨?_, ⟨y', b2, ?_, ?_⟩, fun j' hj' => ?_⟩
                          · rw [wCp_off (by omega), r2 10 (by decide)]; exact b1
                          · rw [wCp_off (by omega)]; exact b3
                          · rw [r2 11 (by decide)]; exact b4
                          · rw [r3]
                            by_cases so' : s' = o
                            · subst so'
                              unfold wCp
                              rw [if_pos ⟨rfl, rfl, rfl⟩, nI_clamp hi, nI_clamp hj, nI_clamp hn]
                              unfold va_cpy
                              by_cases cc : j ≤ j' ∧ j' < j + n
                              · rw [if_pos cc, if_pos (by omega), k5 _ (by omega)]
                                congr 1
                                omega
                              · rw [if_neg cc, if_neg (by omega)]; exact b5 j' hj'
                            · rw [wCp_off (by omega), if_neg (by omega)]; exact b5 j' hj'
                        · rw [if_neg (show ¬ j + n ≤ y by omega), if_pos rfl, if_neg (nI_ge (show y - j < n by omega) hn)]; exact stay _
          · rw [if_neg so, if_neg so]; exact stay _
    · rw [p4, wBd_e, if_pos rfl]
      rcases p1 with q | ⟨p1, p2, p3⟩
      · rw [if_pos q]; exact stay _
      · rw [if_neg p1, if_neg p2]; exact stay _
  · rw [q4, wBd_e, if_pos rfl]
    rcases q1 with q | ⟨q1, q2, q3⟩
    · rw [if_pos q]; exact stay _
    · rw [if_neg q1, if_pos q3]; exact stay _
