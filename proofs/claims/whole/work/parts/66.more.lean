-- ===== a visit, a feed, the rule =====
theorem sc_visit {gC gR : Mm} (h : Rel gC gR) (a b c d : Int32) : ∃ gC1 gR1 r, fX10_visit gC a b c d = some (gC1, r) ∧ fX11_visit gR a b c d = some (gR1, r) ∧ Rel gC1 gR1 := by
  obtain ⟨nv, nf, ns, h⟩ := h
  have hP := h.1
  have hv12 := hP.nv12
  obtain ⟨t, ht, et', hc⟩ := h.ct
  have et : gR 1 0 0 480 = nI t := hP.e9.symm.trans et'
  have stay := fun r : Int32 => stays (r := r) (⟨nv, nf, ns, h⟩ : Rel gC gR)
  have bad : fX10_visit_b55 gC a b c d = some (gC, -2) := rfl
  unfold fX10_visit fX11_visit
  rcases kind_ev (g := gC) a gR with ⟨k, hk, rfl, e1, e2⟩ | ⟨e1, e2⟩
  · rw [e1, e2, wBd_e, wBd_e, if_neg c10, if_neg c10, i480f, c480f, et', et]
    rcases posneg b with hb | ⟨e, he, rfl⟩
    · rw [if_pos (neg_lt hb (by omega)), in_neg hb (by omega), wBd_e, if_pos rfl]
      exact stay _
    · rw [show fX11_in gR (nI e) (nI t) 9999 = _ from in_ev (lo := t) (hi := 9999) he (by omega) (by omega), wBd_e]
      by_cases b1 : e < t
      · rw [if_pos (nI_lt b1 (by omega)), if_neg (show ¬ (t ≤ e ∧ e ≤ 9999) by omega), if_pos rfl]; exact stay _
      · rw [if_neg (nI_nlt (by omega) he)]
        by_cases b2 : 9999 < e
        · rw [if_pos (show (9999 : Int32) < nI e from nI_lt (a := 9999) b2 he), if_neg (show ¬ (t ≤ e ∧ e ≤ 9999) by omega), if_pos rfl]; exact stay _
        · rw [if_neg (show ¬ (9999 : Int32) < nI e from nI_nlt (a := 9999) (by omega) (by omega)), if_pos (show t ≤ e ∧ e ≤ 9999 by omega), if_neg c10, nI_1]
          rcases posneg c with hcn | ⟨f, hf, rfl⟩
          · rw [if_pos (neg_le hcn he), in_neg hcn (by omega), wBd_e, if_pos rfl]; exact stay _
          · rw [show fX11_in gR (nI f) (nI (e + 1)) 9999 = _ from in_ev (lo := e + 1) (hi := 9999) hf (by omega) (by omega), wBd_e]
            by_cases c1 : f ≤ e
            · rw [if_pos (nI_le c1 he), if_neg (show ¬ (e + 1 ≤ f ∧ f ≤ 9999) by omega), if_pos rfl]; exact stay _
            · rw [if_neg (nI_ge (by omega) hf)]
              by_cases c2 : 9999 < f
              · rw [if_pos (show (9999 : Int32) < nI f from nI_lt (a := 9999) c2 hf), if_neg (show ¬ (e + 1 ≤ f ∧ f ≤ 9999) by omega), if_pos rfl]; exact stay _
              · rw [if_neg (show ¬ (9999 : Int32) < nI f from nI_nlt (a := 9999) (by omega) (by omega)), if_pos (show e + 1 ≤ f ∧ f ≤ 9999 by omega), if_neg c10]
                rcases posneg d with hd | ⟨m, hm, rfl⟩
                · rw [if_pos (show d < (1 : Int32) from neg_lt (n := 1) hd (by omega)), show fX11_in gR d 1 999 = some 0 from in_neg (lo := 1) hd (by omega), wBd_e, if_pos rfl]; exact stay _
                · rw [show fX11_in gR (nI m) 1 999 = _ from in_ev (lo := 1) (hi := 999) hm (by omega) (by omega), wBd_e]
                  by_cases d1 : m < 1
                  · rw [if_pos (show nI m < (1 : Int32) from nI_lt (b := 1) d1 (by omega)), if_neg (show ¬ (1 ≤ m ∧ m ≤ 999) by omega), if_pos rfl]; exact stay _
                  · rw [if_neg (show ¬ nI m < (1 : Int32) from nI_nlt (b := 1) (by omega) hm)]
                    by_cases d2 : 999 < m
                    · rw [if_pos (show (999 : Int32) < nI m from nI_lt (a := 999) d2 hm), if_neg (show ¬ (1 ≤ m ∧ m ≤ 999) by omega), if_pos rfl]; exact stay _
                    · rw [if_neg (show ¬ (999 : Int32) < nI m from nI_nlt (a := 999) (by omega) (by omega)), if_pos (show 1 ≤ m ∧ m ≤ 999 by omega), if_neg c10, hP.2.1.1]
                      unfold fX10_visit_b56 fX4_addVisit
                      rw [if_neg c10, hP.1.2.1]
                      by_cases n12 : nv = 12
                      · subst n12
                        rw [if_neg (by decide), wB2_e, if_pos (by decide)]; exact stay _
                      · have hn : nv < 12 := by omega
                        have e30 : (30 : Int32) * nI nv = nI (30 * nv) := by simp only [li_0, li_1, li_2, li_3, li_4, li_5, li_6, li_7, li_8, li_9, li_10, li_11, li_12, li_13, li_14, li_15, li_16, li_17, li_18, li_19, li_30, li_32, li_40, li_41, li_42, li_43, li_45, li_48, li_57, li_59, li_60, li_61, li_63, li_97, li_99, li_122, li_160, li_200, li_255, li_256, li_257, li_258, li_259, li_360, li_460, li_462, li_470, li_475, li_480, li_481, li_482, li_483, li_484, li_490, li_496, li_510, li_999, li_9999, li_10000, li_10008, li_10009, li_10010, li_10011, li_10012, li_10013, li_10014, li_10015, li_10016, li_100000, nI_mul]
                        obtain ⟨gR', q1, q2, q3, q4, q5, q6, q7⟩ := visitR_ev (k := k) (e := nI e) (d := nI f) (c := nI m) hn hP.2.1.1 et
                        rw [if_pos (show nI nv < (12 : Int32) from nI_lt (b := 12) hn (by omega)), if_neg (show ¬ nI nv = (12 : Int32) from fun z => by rw [show (12 : Int32) = nI 12 from rfl, nI_eq (by omega) (by omega)] at z; omega), wGi_ok (by omega) (by omega), nI_clamp (by omega), wLe_e, e30, wLe_e, q1]
                        unfold fX9_begin
                        have n92 := hP.1.2.1
                        obtain ⟨f1, f2, f3, f4⟩ := h.2.2.1.1 nv (Nat.le_refl _) hn
                        simp (disch := omega) only [wLe_e, wBd_e, wB2_e, enter_ev, et', st_ne, n92, nI_1]
                        refine ⟨_, gR', nI nv, rfl, rfl, nv + 1, nf, ns, ?_⟩
                        have hp := hP.visit (t := t) (k := k) (e := nI e) (d := nI f) (c := nI m) (gC' := st (st (st (st (st (st (st (st (st (st gC 19 0 nv 0 (nI k)) 19 0 nv 1 (nI e)) 19 0 nv 2 (nI f)) 19 0 nv 3 (nI m)) 19 0 nv 5 (-1)) 19 0 nv 8 (-1)) 19 0 nv 12 (-1)) 19 0 nv 6 0) 19 0 nv 7 (nI t)) 9 0 0 2 (nI (nv + 1))) (gR' := gR') h.2.2.1 hn hk et (fun t i v j x1 x2 => by simp (disch := omega) only [st_ne]) st_eq (by
                          refine ⟨?_, ?_, ?_, ?_, ?_, ?_, ?_, ?_, ?_, ?_, ?_, ?_⟩ <;> first | (simp (disch := omega) only [st_ne, st_eq]; done) | (simp (disch := omega) only [st_ne]; assumption)) q2 ⟨q4, q3 2 (by decide), q3 3 (by decide)⟩ q5 q6 q7
                        refine h.mv hp (by omega) (Nat.le_refl _) (fun t i v j x => by simp (disch := omega) only [st_ne]) (by simp (disch := omega) only [st_ne]) ?_ ?_ ⟨t, ht, ?_, ?_⟩ (fun t x0 x1 _ _ _ => q2 t x0 x1) (fun j x => q3 j (by omega))
                        · intro v hv
                          by_cases z : v = nv
                          · subst z
                            exact ⟨f, by omega, by simp (disch := omega) only [st_ne, st_eq]⟩
                          · obtain ⟨y, hy, ey⟩ := h.2.1 v (by omega)
                            exact ⟨y, hy, by simp (disch := omega) only [st_ne]; exact ey⟩
                        · refine ⟨fun v x1 x2 => ?_, fun f x1 x2 => by simp (disch := omega) only [st_ne]; exact h.2.2.1.2 f x1 x2⟩
                          obtain ⟨k1, k2, k3, k4⟩ := h.2.2.1.1 v (by omega) x2
                          refine ⟨?_, ?_, ?_, fun c hc => ?_⟩
                          · simp (disch := omega) only [st_ne]; exact k1
                          · simp (disch := omega) only [st_ne]; exact k2
                          · simp (disch := omega) only [st_ne]; exact k3
                          · simp (disch := omega) only [st_ne]; exact k4 c hc
                        · simp (disch := omega) only [st_ne]; exact et'
                        · intro v hv c hc'
                          by_cases z : v = nv
                          · subst z
                            exact ⟨0, by omega, by simp (disch := omega) only [st_ne]; exact f4 c hc'⟩
                          · obtain ⟨y, hy, ey⟩ := hc v (by omega) c hc'
                            exact ⟨y, hy, by simp (disch := omega) only [st_ne]; exact ey⟩
  · rw [e1, e2, wBd_e, wBd_e, if_pos rfl, if_pos rfl]
    exact stay _
theorem PS.feed {gC gR : Mm} {nv nf ns n0 n1 : Nat} {b c : Int32} (h : PS 0 gC gR nv nf ns) (hf0 : gC 22 0 nf 4 = 0) (hn : nf < 16) (h0 : n0 < nv) (h1 : n1 < nv) :
    PS 0 (st (st (st (st (st (st gC 22 0 nf 0 (nI n0)) 22 0 nf 1 (nI n1)) 22 0 nf 2 b) 22 0 nf 3 c) 22 0 nf 5 (-1)) 9 0 0 3 (nI (nf + 1))) (st (st (st (st (st (st (st gR 1 0 0 (360 + 6 * nf) (nI n0)) 1 0 0 (360 + 6 * nf + 1) (nI n1)) 1 0 0 (360 + 6 * nf + 2) b) 1 0 0 (360 + 6 * nf + 3) c) 1 0 0 (360 + 6 * nf + 4) 0) 1 0 0 (360 + 6 * nf + 5) (-1)) 0 0 0 2 (nI (nf + 1))) nv (nf + 1) ns := by
  have hv12 := h.nv12
  have hs6 := h.ns6
  generalize hgC : st (st (st (st (st (st gC 22 0 nf 0 (nI n0)) 22 0 nf 1 (nI n1)) 22 0 nf 2 b) 22 0 nf 3 c) 22 0 nf 5 (-1)) 9 0 0 3 (nI (nf + 1)) = gC'
  generalize hgR : st (st (st (st (st (st (st gR 1 0 0 (360 + 6 * nf) (nI n0)) 1 0 0 (360 + 6 * nf + 1) (nI n1)) 1 0 0 (360 + 6 * nf + 2) b) 1 0 0 (360 + 6 * nf + 3) c) 1 0 0 (360 + 6 * nf + 4) 0) 1 0 0 (360 + 6 * nf + 5) (-1)) 0 0 0 2 (nI (nf + 1)) = gR'
  have cC : ∀ t i v j, ¬ (t = 22 ∧ i = 0 ∧ v = nf) → ¬ (t = 9 ∧ i = 0 ∧ v = 0 ∧ j = 3) → gC' t i v j = gC t i v j := fun t i v j x1 x2 => by rw [← hgC]; simp (disch := omega) only [st_ne]
  have cp : ∀ m, m < 360 + 6 * nf ∨ 360 + 6 * nf + 6 ≤ m → gR' 1 0 0 m = gR 1 0 0 m := fun m x => by rw [← hgR]; simp (disch := omega) only [st_ne]
  have cR : ∀ t, t ≠ 0 → t ≠ 1 → gR' t = gR t := fun t x0 x1 => by rw [← hgR]; simp only [st_kind x0, st_kind x1]
  have cR0 : ∀ j, j ≠ 2 → gR' 0 0 0 j = gR 0 0 0 j := fun j x => by rw [← hgR]; simp (disch := omega) only [st_ne]
  have r2 : gR' 0 0 0 2 = nI (nf + 1) := by rw [← hgR, st_eq]
  have rows : ∀ j, j < 6 → gC' 22 0 nf j = gR' 1 0 0 (360 + 6 * nf + j) := fun j hj => by
    rw [← hgC, ← hgR]
    rcases (show j = 0 ∨ j = 1 ∨ j = 2 ∨ j = 3 ∨ j = 4 ∨ j = 5 by omega) with rfl | rfl | rfl | rfl | rfl | rfl <;> first | (simp (disch := omega) only [st_ne, st_eq, Nat.add_zero]; done) | (simp (disch := omega) only [st_ne, st_eq]; exact hf0)
  have p0 : gR' 1 0 0 (360 + 6 * nf) = nI n0 := by rw [← hgR]; simp (disch := omega) only [st_ne, st_eq]
  have p1 : gR' 1 0 0 (360 + 6 * nf + 1) = nI n1 := by rw [← hgR]; simp (disch := omega) only [st_ne, st_eq]
  have c9 : gC' 9 0 0 3 = nI (nf + 1) := by rw [← hgC, st_eq]
  clear hgC hgR
  obtain ⟨⟨a1, a2, a3⟩, ⟨b1, b2, b3⟩, hE, hU, hP, hK⟩ := h
  refine ⟨⟨(cC 9 0 0 1 (by omega) (by omega)).trans a1, (cC 9 0 0 2 (by omega) (by omega)).trans a2, c9⟩, ⟨(cR0 1 (by decide)).trans b1, r2, (cR0 3 (by decide)).trans b3⟩, ?_, ?_, ?_, ?_⟩
  · intro t v j n q
    by_cases cv : t = 22 ∧ v = nf
    · obtain ⟨rfl, rfl⟩ := cv
      have q : j < 6 ∧ n = 360 + 6 * v + j := by unfold ixR at q; omega
      obtain ⟨q1, rfl⟩ := q
      exact rows j q1
    · have q' : ixR nv nf ns t v j n := by
        unfold ixR at q ⊢
        rcases q with q | q | q | q | q | q | q | q | q | q | q | q | q
        · exact Or.inl q
        · exact Or.inr (Or.inl q)
        · exact Or.inr (Or.inr (Or.inl q))
        · exact Or.inr (Or.inr (Or.inr (Or.inl q)))
        · exact Or.inr (Or.inr (Or.inr (Or.inr (Or.inl q))))
        · exact Or.inr (Or.inr (Or.inr (Or.inr (Or.inr (Or.inl q)))))
        · exact Or.inr (Or.inr (Or.inr (Or.inr (Or.inr (Or.inr (Or.inl q))))))
        · exact Or.inr (Or.inr (Or.inr (Or.inr (Or.inr (Or.inr (Or.inr (Or.inl q)))))))
        · exact Or.inr (Or.inr (Or.inr (Or.inr (Or.inr (Or.inr (Or.inr (Or.inr (Or.inl q))))))))
        · exact Or.inr (Or.inr (Or.inr (Or.inr (Or.inr (Or.inr (Or.inr (Or.inr (Or.inr (Or.inl q)))))))))
        · exact Or.inr (Or.inr (Or.inr (Or.inr (Or.inr (Or.inr (Or.inr (Or.inr (Or.inr (Or.inr (Or.inl q))))))))))
        · exact Or.inr (Or.inr (Or.inr (Or.inr (Or.inr (Or.inr (Or.inr (Or.inr (Or.inr (Or.inr (Or.inr (Or.inl q)))))))))))
        · exact Or.inr (Or.inr (Or.inr (Or.inr (Or.inr (Or.inr (Or.inr (Or.inr (Or.inr (Or.inr (Or.inr (Or.inr ⟨by omega, by omega, by omega, by omega⟩)))))))))))
      rw [cp n (by unfold ixR at q'; omega), cC t 0 v j (by omega) (by unfold ixR at q'; omega)]
      exact hE t v j n q'
  · exact hU.congr (fun v j _ _ => cC 19 0 v j (by omega) (by omega)) (fun v a _ _ => cC 20 0 v a (by omega) (by omega)) (fun v m hv h1 h2 => cp m (by omega))
  · obtain ⟨h1', h2, h3, h4, h5, h6, h7, h8, h9⟩ := hP
    refine ⟨⟨hv12, by omega, hs6⟩, ?_, ?_, ?_, ?_, ?_, ?_, ?_, ?_⟩
    · rw [cp _ (by omega)]; exact h2
    · rw [cp _ (by omega)]; exact h3
    · intro r hr; rw [cp _ (by omega)]; exact h4 r hr
    · intro v hv
      rw [cp (30 * v) (by omega), cp (30 * v + 4) (by omega), cp (30 * v + 6) (by omega), cp (30 * v + 8) (by omega)]
      exact h5 v hv
    · intro v hv
      rw [cp (30 * v + 10) (by omega)]
      refine ⟨(h6 v hv).1, fun a ha => ?_⟩
      rw [cp (30 * v + 11 + a) (by omega)]
      exact (h6 v hv).2 a ha
    · intro v hv
      rw [cp (30 * v + 6) (by omega), cp (30 * v + 8) (by omega), cp (30 * v + 9) (by omega), cp (30 * v + 18) (by omega)]
      exact h7 v hv
    · intro f hf
      by_cases e : f = nf
      · subst e
        exact ⟨⟨n0, h0, p0⟩, ⟨n1, h1, p1⟩⟩
      · rw [cp _ (by omega), cp _ (by omega)]
        exact h8 f (by omega)
    · intro s hs
      rw [cp _ (by omega)]; exact h9 s hs
  · unfold KR at *
    rw [cR 13 (by decide) (by decide), cR 14 (by decide) (by decide), cR 15 (by decide) (by decide), cR 16 (by decide) (by decide), cR 17 (by decide) (by decide)]
    exact hK
theorem sc_feed {gC gR : Mm} (h : Rel gC gR) (a b c d : Int32) : ∃ gC1 gR1 r, fX10_feed gC a b c d = some (gC1, r) ∧ fX11_feed gR a b c d = some (gR1, r) ∧ Rel gC1 gR1 := by
  obtain ⟨nv, nf, ns, h⟩ := h
  have hP := h.1
  have hv12 := hP.nv12
  have hf16 := hP.nf16
  have stay := fun r : Int32 => stays (r := r) (⟨nv, nf, ns, h⟩ : Rel gC gR)
  have n6 : (6 : Int32) = nI 6 := rfl
  unfold fX10_feed fX11_feed
  rcases isv hP a with ⟨v, hv, rfl, e1, e2⟩ | ⟨e1, e2⟩
  · rw [e1, e2, wBd_e, wBd_e, if_neg c10, if_neg c10]
    rcases isv hP b with ⟨w, hw, rfl, e3, e4⟩ | ⟨e3, e4⟩
    · rw [e3, e4, wBd_e, wBd_e, if_neg c10, if_neg c10]
      by_cases vw : nI v = nI w
      · rw [if_pos vw, if_pos vw]; exact stay _
      · rw [if_neg vw, if_neg vw]
        rcases posneg c with hc | ⟨x, hx, rfl⟩
        · rw [if_pos (show c < (1 : Int32) from neg_lt (n := 1) hc (by omega)), show fX11_in gR c 1 99 = some 0 from in_neg (lo := 1) hc (by omega), wBd_e, if_pos rfl]; exact stay _
        · rw [show fX11_in gR (nI x) 1 99 = _ from in_ev (lo := 1) (hi := 99) hx (by omega) (by omega), wBd_e]
          by_cases c1 : x < 1
          · rw [if_pos (show nI x < (1 : Int32) from nI_lt (b := 1) c1 (by omega)), if_neg (show ¬ (1 ≤ x ∧ x ≤ 99) by omega), if_pos rfl]; exact stay _
          · rw [if_neg (show ¬ nI x < (1 : Int32) from nI_nlt (b := 1) (by omega) hx)]
            by_cases c2 : 99 < x
            · rw [if_pos (show (99 : Int32) < nI x from nI_lt (a := 99) c2 hx), if_neg (show ¬ (1 ≤ x ∧ x ≤ 99) by omega), if_pos rfl]; exact stay _
            · rw [if_neg (show ¬ (99 : Int32) < nI x from nI_nlt (a := 99) (by omega) (by omega)), if_pos (show 1 ≤ x ∧ x ≤ 99 by omega), if_neg c10]
              rcases posneg d with hd | ⟨y, hy, rfl⟩
              · rw [if_pos (show d < (1 : Int32) from neg_lt (n := 1) hd (by omega)), show fX11_in gR d 1 99 = some 0 from in_neg (lo := 1) hd (by omega), wBd_e, if_pos rfl]; exact stay _
              · rw [show fX11_in gR (nI y) 1 99 = _ from in_ev (lo := 1) (hi := 99) hy (by omega) (by omega), wBd_e]
                by_cases d1 : y < 1
                · rw [if_pos (show nI y < (1 : Int32) from nI_lt (b := 1) d1 (by omega)), if_neg (show ¬ (1 ≤ y ∧ y ≤ 99) by omega), if_pos rfl]; exact stay _
                · rw [if_neg (show ¬ nI y < (1 : Int32) from nI_nlt (b := 1) (by omega) hy)]
                  by_cases d2 : y ≤ 99
                  · have v6 := hP.v6 hv
                    have w6 := hP.v6 hw
                    rw [if_pos (show nI y ≤ (99 : Int32) from nI_le (b := 99) d2 (by omega)), if_pos (show 1 ≤ y ∧ y ≤ 99 by omega), if_neg c10, wGi_ok (by omega) (by omega), nI_clamp (show v < 2 ^ 31 by omega), wGi_ok (by omega) (by omega), nI_clamp (show w < 2 ^ 31 by omega), v6, w6]
                    rw [show fX11_of gR (nI v) 6 = some (gR 1 0 0 (30 * v + 6)) from of_ev gR (c := 6) (by omega), wBd_e, show fX11_of gR (nI w) 6 = some (gR 1 0 0 (30 * w + 6)) from of_ev gR (c := 6) (by omega), wBd_e]
                    by_cases s1 : gR 1 0 0 (30 * v + 6) = 0
                    · rw [if_pos s1, if_pos s1]
                      by_cases s2 : gR 1 0 0 (30 * w + 6) = 0
                      · rw [if_pos s2, if_pos s2, hP.2.1.2.1]
                        unfold fX4_addFeed
                        rw [hP.1.2.2]
                        by_cases n16 : nf = 16
                        · subst n16
                          rw [if_neg (by decide), wB2_e, if_pos (by decide)]; exact stay _
                        · have hn : nf < 16 := by omega
                          have e36 : (360 : Int32) + (6 : Int32) * nI nf = nI (360 + 6 * nf) := by simp only [li_0, li_1, li_2, li_3, li_4, li_5, li_6, li_7, li_8, li_9, li_10, li_11, li_12, li_13, li_14, li_15, li_16, li_17, li_18, li_19, li_30, li_32, li_40, li_41, li_42, li_43, li_45, li_48, li_57, li_59, li_60, li_61, li_63, li_97, li_99, li_122, li_160, li_200, li_255, li_256, li_257, li_258, li_259, li_360, li_460, li_462, li_470, li_475, li_480, li_481, li_482, li_483, li_484, li_490, li_496, li_510, li_999, li_9999, li_10000, li_10008, li_10009, li_10010, li_10011, li_10012, li_10013, li_10014, li_10015, li_10016, li_100000, nI_mul, nI_add]
                          have ad : ∀ j : Nat, nI (360 + 6 * nf) + nI j = nI (360 + 6 * nf + j) := fun j => nI_add _ _
                          have n93 := hP.1.2.2
                          have b2 := hP.2.1.2.1
                          have f0 := h.2.2.1.2 nf (Nat.le_refl _) hn
                          rw [if_pos (show nI nf < (16 : Int32) from nI_lt (b := 16) hn (by omega)), if_neg (show ¬ nI nf = (16 : Int32) from fun z => by rw [show (16 : Int32) = nI 16 from rfl, nI_eq (by omega) (by omega)] at z; omega), wGi_ok (by omega) (by omega), nI_clamp (show nf < 2 ^ 31 by omega), e36, wLe_e, wGi_ok (by omega) (by omega), nI_clamp (show 360 + 6 * nf < 2 ^ 31 by omega), show nI (360 + 6 * nf) + 1 = nI (360 + 6 * nf + 1) from ad 1, show nI (360 + 6 * nf) + 2 = nI (360 + 6 * nf + 2) from ad 2, show nI (360 + 6 * nf) + 3 = nI (360 + 6 * nf + 3) from ad 3, show nI (360 + 6 * nf) + 4 = nI (360 + 6 * nf + 4) from ad 4, show nI (360 + 6 * nf) + 5 = nI (360 + 6 * nf + 5) from ad 5]
                          unfold fX1_begin
                          simp (disch := omega) only [wLe_e, wBd_e, wB2_e, wGi_ok, nI_clamp, st_ne, n93, b2, nI_1, st_eq]
                          refine ⟨_, _, nI nf, rfl, congrArg (fun z => some (_, z)) (nI_s1 nf), nv, nf + 1, ns, ?_⟩
                          refine h.mv (hP.feed f0 hn hv hw) (Nat.le_refl _) (Nat.le_refl _) (fun t i v j x => by simp (disch := omega) only [st_ne]) (by simp (disch := omega) only [st_ne]) ?_ ?_ (h.ct.off (by simp (disch := omega) only [st_ne]) fun v c => by simp (disch := omega) only [st_ne]) (fun t x0 x1 _ _ _ => by simp only [st_kind x0, st_kind x1]) (fun j x => by simp (disch := omega) only [st_ne])
                          · intro v hv
                            obtain ⟨y, hy, ey⟩ := h.2.1 v hv
                            exact ⟨y, hy, by simp (disch := omega) only [st_ne]; exact ey⟩
                          · refine ⟨fun v x1 x2 => ?_, fun f x1 x2 => by simp (disch := omega) only [st_ne]; exact h.2.2.1.2 f (by omega) x2⟩
                            obtain ⟨k1, k2, k3, k4⟩ := h.2.2.1.1 v x1 x2
                            refine ⟨?_, ?_, ?_, fun c hc => ?_⟩
                            · simp (disch := omega) only [st_ne]; exact k1
                            · simp (disch := omega) only [st_ne]; exact k2
                            · simp (disch := omega) only [st_ne]; exact k3
                            · simp (disch := omega) only [st_ne]; exact k4 c hc
                      · rw [if_neg s2, if_neg s2]; exact stay _
                    · rw [if_neg s1, if_neg s1]; exact stay _
                  · rw [if_neg (show ¬ nI y ≤ (99 : Int32) from nI_ge (a := 99) (by omega) hy), if_neg (show ¬ (1 ≤ y ∧ y ≤ 99) by omega), if_pos rfl]; exact stay _
    · rw [e3, e4, wBd_e, wBd_e, if_pos rfl, if_pos rfl]; exact stay _
  · rw [e1, e2, wBd_e, wBd_e, if_pos rfl, if_pos rfl]; exact stay _
