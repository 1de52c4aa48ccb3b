-- ===== calls that write a little =====
theorem R3.mv {gC gR gC' gR' : Mm} {nv nf ns nv' nf' ns' : Nat} (h : R3 gC gR nv nf ns) (hp : PS 0 gC' gR' nv' nf' ns') (n1 : nv ≤ nv') (n2 : ns ≤ ns') (hC : ∀ t i' v j, (t ≤ 7 ∨ 23 ≤ t) → gC' t i' v j = gC t i' v j) (h94 : gC' 9 0 0 4 = gC 9 0 0 4) (hvb : VB 0 gC' nv') (hfr : FR gC' nv' nf') (hct : CT gC' nv')
    (hR : ∀ t, t ≠ 0 → t ≠ 1 → t ≠ 20 → t ≠ 21 → t ≠ 22 → gR' t = gR t) (hR0 : ∀ j, j = 4 ∨ j = 8 ∨ j = 11 ∨ j = 12 ∨ j = 13 → gR' 0 0 0 j = gR 0 0 0 j) : R3 gC' gR' nv' nf' ns' := by
  obtain ⟨h1, h2, h3, h4, h5, h6, h7, h8, h9, h10⟩ := h
  refine ⟨hp, hvb, hfr, ?_, ?_, ?_, ?_, ?_, ?_, hct⟩
  · obtain ⟨nt, t, a1, a2, a3, a4, a5, a6, a7, a8⟩ := h4
    exact ⟨nt, t, a1, a2, (hC 1 0 0 1 (by omega)).trans a3, (hR0 12 (by omega)).trans a4, (hC 1 0 0 2 (by omega)).trans a5, (hR0 13 (by omega)).trans a6, h94.trans a7, fun t' ht' => (a8 t' ht').off (funext fun j => hC 6 t' 0 j (by omega)) (funext fun j => hC 7 t' 0 j (by omega)) (hR 7 (by decide) (by decide) (by decide) (by decide) (by decide)) (hR 8 (by decide) (by decide) (by decide) (by decide) (by decide))⟩
  · obtain ⟨k, a1, a2, a3, a4⟩ := h5
    refine ⟨k, a1, (hC 1 0 0 0 (by omega)).trans a2, (hR0 11 (by omega)).trans a3, fun j hj => ?_⟩
    obtain ⟨b, b1, b2, b3⟩ := a4 j hj
    exact ⟨b, b1, (hC 4 0 0 j (by omega)).trans b2, by rw [hR 6 (by decide) (by decide) (by decide) (by decide) (by decide)]; exact b3⟩
  · obtain ⟨ne, a1, a2, a3, a4⟩ := h6
    refine ⟨ne, a1, (hC 24 0 0 0 (by omega)).trans a2, (hR0 4 (by omega)).trans a3, fun e he => ?_⟩
    obtain ⟨b1, b2, b3⟩ := a4 e he
    rw [hR 2 (by decide) (by decide) (by decide) (by decide) (by decide), hR 3 (by decide) (by decide) (by decide) (by decide) (by decide), hR 4 (by decide) (by decide) (by decide) (by decide) (by decide)]
    exact ⟨(hC 25 0 0 e (by omega)).trans b1, (hC 26 0 0 e (by omega)).trans b2, (hC 27 0 0 e (by omega)).trans b3⟩
  · obtain ⟨m, a1, a2, a3, a4⟩ := h7
    have c : ∀ j, gC' 23 0 0 j = gC 23 0 0 j := fun j => hC 23 0 0 j (by omega)
    refine ⟨m, Nat.lt_of_lt_of_le a1 (Nat.pow_le_pow_right (by omega) n1), (c 0).trans a2, (hR0 8 (by omega)).trans a3, ?_⟩
    rw [c 1, c 2, c 3, hR 5 (by decide) (by decide) (by decide) (by decide) (by decide)]
    intro v hv hb
    by_cases q : v < nv
    · obtain ⟨b1, b2⟩ := a4 v q hb
      refine ⟨b1, ?_⟩
      rcases b2 with b2 | ⟨s, hs, b2⟩
      · exact Or.inl b2
      · exact Or.inr ⟨s, by omega, b2⟩
    · have := Nat.testBit_lt_two_pow (x := m) (i := v) (Nat.lt_of_lt_of_le a1 (Nat.pow_le_pow_right (by omega) (by omega)))
      rw [this] at hb
      exact Bool.noConfusion hb
  · intro s hs
    have c : ∀ j, gC' 29 s 0 j = gC 29 s 0 j := fun j => hC 29 s 0 j (by omega)
    obtain ⟨b1, b2, b3⟩ := h8 s hs
    rw [c 0, c 1, hR 10 (by decide) (by decide) (by decide) (by decide) (by decide), hR 11 (by decide) (by decide) (by decide) (by decide) (by decide), hR 12 (by decide) (by decide) (by decide) (by decide) (by decide)]
    exact ⟨b1, b2, fun j hj => (hC 30 s 0 j (by omega)).trans (b3 j hj)⟩
  · intro k hk
    rw [hR 18 (by decide) (by decide) (by decide) (by decide) (by decide)]
    exact h9 k hk
theorem PI.grow {p : Nat → Int32} {nv nf ns : Nat} (h : PI p nv nf ns) (hs : ns + 1 ≤ 6) : PI p nv nf (ns + 1) := by
  obtain ⟨h1, h2, h3, h4, h5, h6, h7, h8, h9⟩ := h
  refine ⟨⟨h1.1, h1.2.1, hs⟩, h2, h3, h4, fun v hv => ?_, h6, fun v hv => ?_, h8, fun s hs' => ?_⟩
  · obtain ⟨k1, k2, k3, k4⟩ := h5 v hv
    refine ⟨k1, ?_, k3, ?_⟩
    · rcases k2 with q | ⟨n, hn, q⟩
      · exact Or.inl q
      · exact Or.inr ⟨n, by omega, q⟩
    · rcases k4 with q | ⟨n, hn, q⟩
      · exact Or.inl q
      · exact Or.inr ⟨n, by omega, q⟩
  · obtain ⟨k1, k2, k3⟩ := h7 v hv
    refine ⟨fun n a b c => ?_, k2, k3⟩
    obtain ⟨s, hs, q⟩ := k1 n a b c
    exact ⟨s, by omega, q⟩
  · rcases h9 s hs' with q | ⟨n, ⟨hn, hn'⟩, q⟩
    · exact Or.inl q
    · exact Or.inr ⟨n, ⟨by omega, hn'⟩, q⟩
theorem PS.stand {gC gR : Mm} {nv nf ns : Nat} {x : Int32} (h : PS 0 gC gR nv nf ns) (hs : ns < 6) : PS 0 (st (st (st gC 12 0 0 ns x) 13 0 0 ns (-1)) 9 0 0 1 (nI (ns + 1))) (st (st gR 1 0 0 (490 + ns) x) 0 0 0 3 (nI (ns + 1))) nv nf (ns + 1) := by
  have hv12 := h.nv12
  have hf16 := h.nf16
  have s0 := h.2.2.2.2.1.2.2.2.2.2.2.2.2 ns hs
  have s0 : gR 1 0 0 (496 + ns) = -1 := by
    rcases s0 with q | ⟨n, ⟨q, _⟩, _⟩
    · exact q
    · omega
  have hp1 : st (st gR 1 0 0 (490 + ns) x) 0 0 0 3 (nI (ns + 1)) 1 0 0 = upd (gR 1 0 0) (490 + ns) x := by
    rw [st_kind (by decide), st_p]
  obtain ⟨⟨a1, a2, a3⟩, ⟨b1, b2, b3⟩, hE, hU, hP, hK⟩ := h
  refine ⟨⟨st_eq, ?_, ?_⟩, ⟨?_, ?_, st_eq⟩, ?_, ?_, ?_, hK⟩
  · rw [st_ne (by omega), st_ne (by omega), st_ne (by omega)]; exact a2
  · rw [st_ne (by omega), st_ne (by omega), st_ne (by omega)]; exact a3
  · rw [st_ne (by omega), st_ne (by omega)]; exact b1
  · rw [st_ne (by omega), st_ne (by omega)]; exact b2
  · rw [hp1]
    intro t v j n q
    by_cases c12 : t = 12 ∧ v = 0 ∧ j = ns
    · obtain ⟨rfl, rfl, rfl⟩ := c12
      have e : n = 490 + j := by unfold ixR at q; omega
      subst e
      rw [upd_e, st_ne (by omega), st_ne (by omega), st_eq]
    · by_cases c13 : t = 13 ∧ v = 0 ∧ j = ns
      · obtain ⟨rfl, rfl, rfl⟩ := c13
        have e : n = 496 + j := by unfold ixR at q; omega
        subst e
        rw [upd_n (by omega), s0, st_ne (by omega), st_eq]
      · have q' : ixR nv nf ns t v j n := by
          unfold ixR at q ⊢
          rcases q with q | q | q | q | q | q | q | q | q | q | q | q | q
          · exact Or.inl q
          · exact Or.inr (Or.inl q)
          · exact Or.inr (Or.inr (Or.inl q))
          · exact Or.inr (Or.inr (Or.inr (Or.inl q)))
          · exact Or.inr (Or.inr (Or.inr (Or.inr (Or.inl ⟨by omega, by omega, by omega, by omega⟩))))
          · exact Or.inr (Or.inr (Or.inr (Or.inr (Or.inr (Or.inl ⟨by omega, by omega, by omega, by omega⟩)))))
          · exact Or.inr (Or.inr (Or.inr (Or.inr (Or.inr (Or.inr (Or.inl q))))))
          · exact Or.inr (Or.inr (Or.inr (Or.inr (Or.inr (Or.inr (Or.inr (Or.inl q)))))))
          · exact Or.inr (Or.inr (Or.inr (Or.inr (Or.inr (Or.inr (Or.inr (Or.inr (Or.inl q))))))))
          · exact Or.inr (Or.inr (Or.inr (Or.inr (Or.inr (Or.inr (Or.inr (Or.inr (Or.inr (Or.inl q)))))))))
          · exact Or.inr (Or.inr (Or.inr (Or.inr (Or.inr (Or.inr (Or.inr (Or.inr (Or.inr (Or.inr (Or.inl q))))))))))
          · exact Or.inr (Or.inr (Or.inr (Or.inr (Or.inr (Or.inr (Or.inr (Or.inr (Or.inr (Or.inr (Or.inr (Or.inl q)))))))))))
          · exact Or.inr (Or.inr (Or.inr (Or.inr (Or.inr (Or.inr (Or.inr (Or.inr (Or.inr (Or.inr (Or.inr (Or.inr q)))))))))))
        rw [upd_n (by unfold ixR at q'; omega), st_ne (by unfold ixR at q'; omega), st_ne (by omega), st_ne (by omega)]
        exact hE t v j n q'
  · rw [hp1]
    exact hU.congr (fun v j _ _ => by rw [st_ne (by omega), st_ne (by omega), st_ne (by omega)]) (fun v a _ _ => by rw [st_ne (by omega), st_ne (by omega), st_ne (by omega)]) (fun v m hv h1 h2 => upd_n (by omega))
  · rw [hp1]
    exact (hP.grow (by omega)).free (by unfold piI; rintro (q | q | q | q | q | ⟨v', q1, q2⟩ | ⟨f, q1, q2⟩) <;> omega)
theorem CT.st {g : Mm} {nv t i v j : Nat} {x : Int32} (h : CT g nv) (ht : t ≠ 9 ∨ i ≠ 0 ∨ v ≠ 0 ∨ j ≠ 0) (ht' : t ≠ 21) : CT (st g t i v j x) nv := h.off (st_ne (by omega)) fun v c => st_ne (by omega)
theorem sc_stand {gC gR : Mm} (h : Rel gC gR) (a : Int32) : ∃ gC1 gR1 r, fX10_stand gC a = some (gC1, r) ∧ fX11_stand gR a = some (gR1, r) ∧ Rel gC1 gR1 := by
  obtain ⟨nv, nf, ns, h⟩ := h
  have hP := h.1
  have hs6 := hP.ns6
  have stay := fun r : Int32 => stays (r := r) (⟨nv, nf, ns, h⟩ : Rel gC gR)
  unfold fX10_stand fX11_stand
  rcases posneg a with ha | ⟨n, hn, rfl⟩
  · rw [if_pos (show a < (1 : Int32) from neg_lt (n := 1) ha (by omega)), show fX11_in gR a 1 3 = some 0 from in_neg (lo := 1) ha (by omega), wBd_e, if_pos rfl]
    exact stay _
  · rw [show fX11_in gR (nI n) 1 3 = _ from in_ev (lo := 1) (hi := 3) hn (by omega) (by omega), wBd_e]
    by_cases c1 : n < 1
    · rw [if_pos (show nI n < (1 : Int32) from nI_lt (b := 1) c1 (by omega)), if_neg (show ¬ (1 ≤ n ∧ n ≤ 3) by omega), if_pos rfl]
      exact stay _
    · rw [if_neg (show ¬ nI n < (1 : Int32) from nI_nlt (b := 1) (by omega) hn)]
      by_cases c3 : n ≤ 3
      · rw [if_pos (show nI n ≤ (3 : Int32) from nI_le (b := 3) c3 (by omega)), if_pos (show 1 ≤ n ∧ n ≤ 3 by omega), if_neg c10]
        have n1 := hP.1.1
        have n3 := hP.2.1.2.2
        unfold fX4_addStand
        rw [n1, n3]
        by_cases c6 : ns = 6
        · subst c6
          rw [if_neg (by decide), wB2_e, if_pos (by decide)]
          exact stay _
        · have hs : ns < 6 := by omega
          have e49 : (490 : Int32) + nI ns = nI (490 + ns) := by simp only [li_0, li_1, li_2, li_3, li_4, li_5, li_6, li_7, li_8, li_9, li_10, li_11, li_12, li_13, li_14, li_15, li_16, li_17, li_18, li_19, li_30, li_32, li_40, li_41, li_42, li_43, li_45, li_48, li_57, li_59, li_60, li_61, li_63, li_97, li_99, li_122, li_160, li_200, li_255, li_256, li_257, li_258, li_259, li_360, li_460, li_462, li_470, li_475, li_480, li_481, li_482, li_483, li_484, li_490, li_496, li_510, li_999, li_9999, li_10000, li_10008, li_10009, li_10010, li_10011, li_10012, li_10013, li_10014, li_10015, li_10016, li_100000, nI_add]
          have z1 : st gC 12 0 0 ns (nI n) 9 0 0 1 = nI ns := (st_ne (by omega)).trans n1
          have z2 : st (st gC 12 0 0 ns (nI n)) 13 0 0 ns (-1) 9 0 0 1 = nI ns := (st_ne (by omega)).trans z1
          have z3 : st gR 1 0 0 (490 + ns) (nI n) 0 0 0 3 = nI ns := (st_ne (by omega)).trans n3
          have z4 : nI (ns + 1) - (1 : Int32) = nI ns := nI_s1 ns
          rw [if_pos (show nI ns < (6 : Int32) from nI_lt (b := 6) hs (by omega)), if_neg (show ¬ nI ns = (6 : Int32) from fun e => by rw [show (6 : Int32) = nI 6 from rfl, nI_eq (by omega) (by omega)] at e; omega), wGi_ok (by omega) (by omega), nI_clamp (by omega), wLe_e, z1, wGi_ok (by omega) (by omega), nI_clamp (by omega), wLe_e, z2, wLe_e, wB2_e, nI_1, e49, wGi_ok (by omega) (by omega), nI_clamp (by omega), wLe_e, z3, wLe_e, nI_1, st_eq, z4]
          refine ⟨_, _, nI ns, rfl, rfl, nv, nf, ns + 1, h.mv (hP.stand hs) (Nat.le_refl _) (by omega) (fun t i v j q => by rw [st_ne (by omega), st_ne (by omega), st_ne (by omega)]) (by rw [st_ne (by omega), st_ne (by omega), st_ne (by omega)]) ?_ ?_ (((h.ct.st (by omega) (by omega)).st (by omega) (by omega)).st (by omega) (by omega)) (fun t q0 q1 _ _ _ => by rw [st_kind q0, st_kind q1]) (fun j q => by rw [st_ne (by omega), st_ne (by omega)])⟩
          · intro v hv
            obtain ⟨e, he, q⟩ := h.2.1 v hv
            exact ⟨e, he, by rw [st_ne (by omega), st_ne (by omega), st_ne (by omega)]; exact q⟩
          · refine ⟨fun v q1 q2 => ?_, fun f q1 q2 => ?_⟩
            · obtain ⟨k1, k2, k3, k4⟩ := h.2.2.1.1 v q1 q2
              refine ⟨?_, ?_, ?_, fun c hc => ?_⟩
              · rw [st_ne (by omega), st_ne (by omega), st_ne (by omega)]; exact k1
              · rw [st_ne (by omega), st_ne (by omega), st_ne (by omega)]; exact k2
              · rw [st_ne (by omega), st_ne (by omega), st_ne (by omega)]; exact k3
              · rw [st_ne (by omega), st_ne (by omega), st_ne (by omega)]; exact k4 c hc
            · rw [st_ne (by omega), st_ne (by omega), st_ne (by omega)]
              exact h.2.2.1.2 f q1 q2
      · rw [if_neg (show ¬ nI n ≤ (3 : Int32) from nI_ge (a := 3) (by omega) hn), if_neg (show ¬ (1 ≤ n ∧ n ≤ 3) by omega), if_pos rfl]
        exact stay _
/-- one number, written in both -/
theorem R3.set {gC gR : Mm} {nv nf ns t v j n : Nat} {x : Int32} (h : R3 gC gR nv nf ns) (hx : ixR nv nf ns t v j n) (hp : PI (upd (gR 1 0 0) n x) nv nf ns) (ht : t ≠ 9) (ht21 : t ≠ 21) (h2 : t ≠ 19 ∨ j ≠ 2) : R3 (st gC t 0 v j x) (st gR 1 0 0 n x) nv nf ns := by
  refine h.mv (h.1.set hx hp) (Nat.le_refl _) (Nat.le_refl _) (fun t' i' v' j' q => st_ne (by unfold ixR at hx; omega)) (st_ne (by omega)) ?_ ?_ (h.ct.st (by omega) ht21) (fun t' q0 q1 _ _ _ => st_kind q1) (fun j' q => st_ne (by omega))
  · intro v' hv
    obtain ⟨e, he, q⟩ := h.2.1 v' hv
    exact ⟨e, he, by rw [st_ne (by omega)]; exact q⟩
  · refine ⟨fun v' q1 q2 => ?_, fun f q1 q2 => ?_⟩
    · obtain ⟨k1, k2, k3, k4⟩ := h.2.2.1.1 v' q1 q2
      refine ⟨?_, ?_, ?_, fun c hc => ?_⟩
      · rw [st_ne (by unfold ixR at hx; omega)]; exact k1
      · rw [st_ne (by unfold ixR at hx; omega)]; exact k2
      · rw [st_ne (by unfold ixR at hx; omega)]; exact k3
      · rw [st_ne (by unfold ixR at hx; omega)]; exact k4 c hc
    · rw [st_ne (by unfold ixR at hx; omega)]
      exact h.2.2.1.2 f q1 q2
theorem sc_late {gC gR : Mm} (h : Rel gC gR) (a b : Int32) : ∃ gC1 gR1 r, fX10_late gC a b = some (gC1, r) ∧ fX11_late gR a b = some (gR1, r) ∧ Rel gC1 gR1 := by
  obtain ⟨nv, nf, ns, h⟩ := h
  have hP := h.1
  have hv12 := hP.nv12
  have stay := fun r : Int32 => stays (r := r) (⟨nv, nf, ns, h⟩ : Rel gC gR)
  unfold fX10_late fX11_late
  rcases isv hP a with ⟨v, hv, rfl, e1, e2⟩ | ⟨e1, e2⟩
  · rw [e1, e2, wBd_e, wBd_e, if_neg c10, if_neg c10]
    rcases posneg b with hb | ⟨n, hn, rfl⟩
    · rw [if_pos hb, show fX11_in gR b 0 999 = some 0 from in_neg (lo := 0) hb (by omega), wBd_e, if_pos rfl]
      exact stay _
    · rw [if_neg (nI_pos hn), show fX11_in gR (nI n) 0 999 = _ from in_ev (lo := 0) (hi := 999) hn (by omega) (by omega), wBd_e]
      by_cases c : n ≤ 999
      · have n6 : (6 : Int32) = nI 6 := rfl
        have n5 : (5 : Int32) = nI 5 := rfl
        have e35 : (30 : Int32) * nI v + 5 = nI (30 * v + 5) := by simp only [li_0, li_1, li_2, li_3, li_4, li_5, li_6, li_7, li_8, li_9, li_10, li_11, li_12, li_13, li_14, li_15, li_16, li_17, li_18, li_19, li_30, li_32, li_40, li_41, li_42, li_43, li_45, li_48, li_57, li_59, li_60, li_61, li_63, li_97, li_99, li_122, li_160, li_200, li_255, li_256, li_257, li_258, li_259, li_360, li_460, li_462, li_470, li_475, li_480, li_481, li_482, li_483, li_484, li_490, li_496, li_510, li_999, li_9999, li_10000, li_10008, li_10009, li_10010, li_10011, li_10012, li_10013, li_10014, li_10015, li_10016, li_100000, nI_mul, nI_add]
        have v6 := hP.v6 hv
        have v4 := hP.v4 hv
        rw [if_pos (show nI n ≤ (999 : Int32) from nI_le (b := 999) c (by omega)), if_pos (show 0 ≤ n ∧ n ≤ 999 by omega), if_neg c10, wGi_ok (by omega) (by omega), nI_clamp (by omega), v6, n6, of_ev gR (by omega), wBd_e]
        by_cases c0 : gR 1 0 0 (30 * v + 6) = 0
        · rw [if_pos c0, if_pos c0, wLe_e, wLe_e, v4, e35, n5, of_ev gR (by omega), wBd_e, wGi_ok (by omega) (by omega), nI_clamp (by omega), wLe_e]
          exact ⟨_, _, _, rfl, rfl, nv, nf, ns, h.set (ix_v4 (nf := nf) (ns := ns) hv) (hP.2.2.2.2.1.free (by unfold piI; have := hP.nf16; rintro (q | q | q | q | q | ⟨v', q1, q2⟩ | ⟨f, q1, q2⟩) <;> omega)) (by decide) (by decide) (by omega)⟩
        · rw [if_neg c0, if_neg c0]
          exact stay _
      · rw [if_neg (show ¬ nI n ≤ (999 : Int32) from nI_ge (a := 999) (by omega) hn), if_neg (show ¬ (0 ≤ n ∧ n ≤ 999) by omega), if_pos rfl]
        exact stay _
  · rw [e1, e2, wBd_e, wBd_e, if_pos rfl, if_pos rfl]
    exact stay _
theorem ahead_pr {i nv nf ns v : Nat} {g1 g2 : Mm} (h : PS i g1 g2 nv nf ns) (hv : v < nv) : ∃ z, (z = 0 ∨ z = 1) ∧ fX9_isAhead g1 i v = some z ∧ fX11_isAhead g2 (nI v) = some z := by
  have hv12 := h.nv12
  have v6 := h.v6 hv
  obtain ⟨-, -, ⟨n, hn, en⟩, -⟩ := h.2.2.2.2.1.2.2.2.2.1 v hv
  have n6 : (6 : Int32) = nI 6 := rfl
  unfold fX9_isAhead fX11_isAhead
  rw [v6, n6, of_ev g2 (by omega), wBd_e, en]
  by_cases c : 1 < n
  · rw [if_pos (show (1 : Int32) < nI n from nI_lt (a := 1) c (by omega)), if_neg (show ¬ nI n = 0 from nI_ne0 (by omega) (by omega)), if_neg (show ¬ nI n = 1 from fun e => by rw [show (1 : Int32) = nI 1 from rfl, nI_eq (by omega) (by omega)] at e; omega)]
    exact ⟨0, Or.inl rfl, rfl, rfl⟩
  · rcases (show n = 0 ∨ n = 1 by omega) with rfl | rfl
    · exact ⟨1, Or.inr rfl, rfl, rfl⟩
    · exact ⟨1, Or.inr rfl, rfl, rfl⟩
theorem sit_pr {i nv nf ns v : Nat} {g1 g2 : Mm} (h : PS i g1 g2 nv nf ns) (hv : v < nv) {b : Int32} (hb : b = -1 ∨ ∃ s, s < ns ∧ b = nI s) : ∃ z, (z = 0 ∨ z = 1) ∧ fX4_fits g1 i (nI v) b = some z ∧ fX11_maySit g2 (nI v) b = some z ∧ fX11_wish_b23 g2 (nI v) b = if z = 0 then some (g2, -2) else fX11_wish_b55 g2 (nI v) b := by
  have hv12 := h.nv12
  have hs6 := h.ns6
  obtain ⟨⟨kd, hk6, hkd⟩, -⟩ := h.2.2.2.2.1.2.2.2.2.1 v hv
  have hkd' : g2 1 0 0 (30 * v + 0) = nI kd := hkd
  have v0 := h.v0 hv
  have kr := h.2.2.2.2.2.2.1 kd hk6
  have n0 : (0 : Int32) = nI 0 := rfl
  unfold fX4_fits fX11_maySit fX11_wish_b23
  rcases hb with rfl | ⟨s, hs, rfl⟩
  · rw [if_pos (by decide), if_pos rfl, if_pos rfl]
    exact ⟨1, Or.inr rfl, rfl, rfl, (if_neg c10).symm⟩
  · have e49 : (490 : Int32) + nI s = nI (490 + s) := by simp only [li_0, li_1, li_2, li_3, li_4, li_5, li_6, li_7, li_8, li_9, li_10, li_11, li_12, li_13, li_14, li_15, li_16, li_17, li_18, li_19, li_30, li_32, li_40, li_41, li_42, li_43, li_45, li_48, li_57, li_59, li_60, li_61, li_63, li_97, li_99, li_122, li_160, li_200, li_255, li_256, li_257, li_258, li_259, li_360, li_460, li_462, li_470, li_475, li_480, li_481, li_482, li_483, li_484, li_490, li_496, li_510, li_999, li_9999, li_10000, li_10008, li_10009, li_10010, li_10011, li_10012, li_10013, li_10014, li_10015, li_10016, li_100000, nI_add]
    have e12 := h.e12 hs
    have of0 : fX11_of g2 (nI v) 0 = some (nI kd) := (of_ev g2 (c := 0) (by omega)).trans (congrArg some hkd')
    have m1 : ¬ nI s = (-1 : Int32) := fun e => (nI_m1 (by omega)).mp e
    rw [if_neg (nI_pos (by omega)), if_neg m1, if_neg m1, wGi_ok (by omega) (by omega), wGi_ok (by omega) (by omega), nI_clamp (show v < 2 ^ 31 by omega), v0, hkd, size_ev hk6, wBd_e, nI_clamp (show s < 2 ^ 31 by omega), e12, e49, wGi_ok (by omega) (by omega), wGi_ok (by omega) (by omega), of0, wBd_e, wBd_e, wGi_ok (by omega) (by omega), wGi_ok (by omega) (by omega), nI_clamp (show 490 + s < 2 ^ 31 by omega), nI_clamp (show kd < 2 ^ 31 by omega), kr]
    by_cases c : g2 1 0 0 (490 + s) < sV 3 kd
    · rw [if_pos c, if_neg (Int32.not_le.mpr c)]
      exact ⟨0, Or.inl rfl, rfl, rfl, (if_pos rfl).symm⟩
    · rw [if_neg c, if_pos (Int32.not_lt.mp c)]
      exact ⟨1, Or.inr rfl, rfl, rfl, (if_neg c10).symm⟩
theorem sc_wish {gC gR : Mm} (h : Rel gC gR) (a b : Int32) : ∃ gC1 gR1 r, fX10_wish gC a b = some (gC1, r) ∧ fX11_wish gR a b = some (gR1, r) ∧ Rel gC1 gR1 := by
  obtain ⟨nv, nf, ns, h⟩ := h
  have hP := h.1
  have hv12 := hP.nv12
  have hs6 := hP.ns6
  have stay := fun r : Int32 => stays (r := r) (⟨nv, nf, ns, h⟩ : Rel gC gR)
  unfold fX10_wish fX11_wish
  rcases isv hP a with ⟨v, hv, rfl, e1, e2⟩ | ⟨e1, e2⟩
  · rw [e1, e2, wBd_e, wBd_e, if_neg c10, if_neg c10]
    -- behind the stand
    have tail : (b = -1 ∨ ∃ s, s < ns ∧ b = nI s) → ∃ gC1 gR1 r, fX10_wish_b29 gC (nI v) b = some (gC1, r) ∧ fX11_wish_b23 gR (nI v) b = some (gR1, r) ∧ Rel gC1 gR1 := fun hb => by
      obtain ⟨z, z1, z2, -, z4⟩ := sit_pr hP hv hb
      obtain ⟨y, y1, y2, y3⟩ := ahead_pr hP hv
      rw [z4]
      unfold fX10_wish_b29 fX11_wish_b55
      rw [z2, wBd_e]
      rcases z1 with rfl | rfl
      · rw [if_pos rfl, if_pos rfl]; exact stay _
      · have n4 : (4 : Int32) = nI 4 := rfl
        have e34 : (30 : Int32) * nI v + 4 = nI (30 * v + 4) := by simp only [li_0, li_1, li_2, li_3, li_4, li_5, li_6, li_7, li_8, li_9, li_10, li_11, li_12, li_13, li_14, li_15, li_16, li_17, li_18, li_19, li_30, li_32, li_40, li_41, li_42, li_43, li_45, li_48, li_57, li_59, li_60, li_61, li_63, li_97, li_99, li_122, li_160, li_200, li_255, li_256, li_257, li_258, li_259, li_360, li_460, li_462, li_470, li_475, li_480, li_481, li_482, li_483, li_484, li_490, li_496, li_510, li_999, li_9999, li_10000, li_10008, li_10009, li_10010, li_10011, li_10012, li_10013, li_10014, li_10015, li_10016, li_100000, nI_mul, nI_add]
        have v5 := hP.v5 hv
        rw [if_neg c10, if_neg c10, wGi_ok (by omega) (by omega), nI_clamp (by omega), y2, y3, wBd_e, wBd_e]
        rcases y1 with rfl | rfl
        · rw [if_pos rfl, if_pos rfl]; exact stay _
        · rw [if_neg c10, if_neg c10, wLe_e, wLe_e, v5, e34, n4, of_ev gR (by omega), wBd_e, wGi_ok (by omega) (by omega), nI_clamp (by omega), wLe_e]
          have hr := h.set (ix_v5 (nf := nf) (ns := ns) hv) (hP.2.2.2.2.1.wish hv hb) (by decide) (by decide) (by omega)
          rcases (hP.2.2.2.2.1.2.2.2.2.1 v hv).2.1 with q | ⟨s, hs, q⟩
          · rw [q, if_neg (by decide), if_pos rfl]
            exact ⟨_, _, _, rfl, rfl, nv, nf, ns, hr⟩
          · rw [q, if_pos (nI_pos' (by omega)), if_neg (show ¬ nI s = (-1 : Int32) from fun e => (nI_m1 (by omega)).mp e)]
            exact ⟨_, _, _, rfl, rfl, nv, nf, ns, hr⟩
    by_cases bm : b = -1
    · rw [if_pos bm, if_pos bm]
      exact tail (Or.inl bm)
    · rw [if_neg bm, if_neg bm]
      rcases iss hP b with ⟨s, hs, rfl, f1, f2⟩ | ⟨f1, f2⟩
      · rw [f1, f2, wBd_e, wBd_e, if_neg c10, if_neg c10]
        exact tail (Or.inr ⟨s, hs, rfl⟩)
      · rw [f1, f2, wBd_e, wBd_e, if_pos rfl, if_pos rfl]
        exact stay _
  · rw [e1, e2, wBd_e, wBd_e, if_pos rfl, if_pos rfl]
    exact stay _
