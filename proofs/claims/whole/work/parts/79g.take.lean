-- ===== text: what the two objects do =====
theorem RT.cg {gC gR gC' gR' : Mm} {t T : Nat} (h : RT gC gR t) (ht : t < T) (hC : XC T gC gC') (hR : XR T gR gR') : RT gC' gR' t := by
  obtain ⟨P, h1, h2, h3, h4, h5⟩ := h
  refine ⟨P, h1, h2, fun q hq => (hC 7 t 0 q (by omega) (by omega) (by omega) (by omega)).trans (h3 q hq), fun q hq => (hR 8 0 0 _ (by omega) (by omega) (by omega) (by omega)).trans (h4 q hq), fun q hq k hk => ?_⟩
  obtain ⟨e1, e2⟩ := h5 q hq k hk
  have le : pof P q + (P q).length ≤ 160 := by
    rcases (show q = 0 ∨ q = 1 ∨ q = 2 by omega) with rfl | rfl | rfl
    · have : pof P 3 = 0 + (P 0).length + (P 1).length + (P 2).length := rfl
      have : pof P 0 = 0 := rfl
      omega
    · have : pof P 3 = pof P 1 + (P 1).length + (P 2).length := rfl
      omega
    · have : pof P 3 = pof P 2 + (P 2).length := rfl
      omega
  exact ⟨(hC 6 t 0 _ (by omega) (by omega) (by omega) (by omega)).trans e1, (hR 7 0 0 _ (by omega) (by omega) (by omega) (by omega)).trans e2⟩
theorem sc_text {gC gR : Mm} (h : Rel gC gR) : ∃ gC1 gR1 r, fX10_text gC = some (gC1, r) ∧ fX11_text gR = some (gR1, r) ∧ Rel gC1 gR1 := by
  obtain ⟨nv, nf, ns, h⟩ := h
  have stay := fun r : Int32 => stays (r := r) (⟨nv, nf, ns, h⟩ : Rel gC gR)
  obtain ⟨nt, t, a1, a2, a3, a4, a5, a6, a7, a8⟩ := h.2.2.2.1
  obtain ⟨K, b1, b2, b3, b4⟩ := h.2.2.2.2.1
  have hwd : WD gR := h.2.2.2.2.2.2.2.2.1
  unfold fX10_text fX8_take fX11_text
  rw [a3, a4]
  by_cases c6 : nt = 6
  · subst c6
    rw [if_neg (show ¬ nI 6 < 6 by decide), if_pos (show nI 6 = 6 from rfl), wB2_e]
    exact stay _
  have hT : nt < 6 := by omega
  have hC4 : ∀ j, j < K → (gC 4 0 0 j).toNatClampNeg < 256 ∧ gC 4 0 0 j = nI (gC 4 0 0 j).toNatClampNeg ∧ gR 6 0 0 j = nI (gC 4 0 0 j).toNatClampNeg := fun j hj => by
    obtain ⟨x, x1, x2, x3⟩ := b4 j hj
    rw [x2, nI_clamp (by omega)]
    exact ⟨x1, rfl, x3⟩
  obtain ⟨tp, htp⟩ : ∃ tp : Nat → Nat, ∀ j, j < K → tp j < 256 ∧ gC 4 0 0 j = nI (tp j) ∧ gR 6 0 0 j = nI (tp j) := ⟨fun j => (gC 4 0 0 j).toNatClampNeg, hC4⟩
  -- the component begins
  have s0 : ∃ g0, g0 = st (st (st (st gC 3 0 0 1 (nI K)) 3 0 0 2 0) 3 0 0 6 (nI (nt + 1))) 5 nt 0 3 0 := ⟨_, rfl⟩
  obtain ⟨g0, e0⟩ := s0
  have x0 : XC nt gC g0 := by
    rw [e0]
    exact ((((show XC nt gC gC from fun _ _ _ _ _ _ _ _ => rfl).st (by omega)).st (by omega)).st (by omega)).st (by omega)
  have t0 : TpC g0 K tp := ⟨b1, by rw [e0, st_ne (by omega), st_ne (by omega), st_ne (by omega), st_eq], fun j hj => ⟨(htp j hj).1, (x0 4 0 0 j (by omega) (by omega) (by omega) (by omega)).trans (htp j hj).2.1⟩⟩
  obtain ⟨k, v, b, e, tk⟩ := lex (tp := tp) b1 (Nat.zero_le K)
  obtain ⟨g1, p1, p2, p3, p4, p5, p6, p7⟩ := tk.2.2.2.2.2.1 g0 t0 (by rw [e0, st_ne (by omega), st_ne (by omega), st_eq]; rfl)
  have c1 : CSt g1 nt K tp 0 k v b e [] g1 := ⟨t0.fc (p3 1 (by decide) (by decide) (by decide) (by decide)) (p2 4 (by decide)), tk, by rw [p3 6 (by decide) (by decide) (by decide) (by decide), e0, st_ne (by omega), st_eq], p4, p6, p5, p7, by rw [p2 5 (by decide), e0, st_eq]; rfl, trivial, FC.rf⟩
  have x1 : XC nt gC g1 := fun t i v j a b c d => by rw [p2 t a]; exact x0 t i v j a b c d
  -- the reference begins
  have r1 : RI (st (st gR 0 0 0 25 0) 0 0 0 33 0) nt K tp 0 [] := ⟨⟨b1, by rw [st_ne (by omega), st_ne (by omega)]; exact b3, fun j hj => ⟨(htp j hj).1, by rw [st_ne (by omega), st_ne (by omega)]; exact (htp j hj).2.2⟩⟩, (hwd.st (by decide)).st (by decide), by rw [st_ne (by omega), st_ne (by omega)]; exact a4, by rw [st_ne (by omega), st_eq]; rfl, st_eq, trivial⟩
  have x2 : XR nt gR (st (st gR 0 0 0 25 0) 0 0 0 33 0) := ((show XR nt gR gR from fun _ _ _ _ _ _ _ _ => rfl).st (by omega)).st (by omega)
  obtain ⟨t1, t2, q1, q2, q3, q4, q5, q6⟩ := parts_pr (g0C := gC) (g0R := gR) (a1 := nI K) (i2 := nt) hT 3 0 rfl (fun _ => []) g1 (st (st gR 0 0 0 25 0) 0 0 0 33 0) 1000 1000 ⟨0, k, v, b, e, [], c1, r1, rfl, Nat.le_refl _, fun j hj => absurd hj (by omega), fun j hj => absurd hj (by omega), fun j hj => absurd hj (by omega), x1, x2⟩ (by omega) (by omega)
  obtain ⟨y1, z1⟩ := t1
  obtain ⟨y2, z2⟩ := t2
  have rd : fX5_read gC (nI K) nt = some (y1, z1) := by
    unfold fX5_read fX6_clear
    rw [wLe_e, wLe_e, wLe_e, st_eq, wGr_ok hT, wLe_e, wBd_e, ← e0, p1, wBd_e, wLe_e]
    exact q1
  rw [if_pos (show nI nt < 6 from nI_lt (b := 6) hT (by omega)), wGi_ok hT (by omega), b2, nI_clamp (by omega), rd, wB2_e, wLe_e, if_neg (show ¬ nI nt = 6 from nI_ne (b := 6) (by omega) (by omega) c6), wLe_e, wLe_e, wLe_e, wLe_e]
  have q2' : fX11_text_L26 (st (st gR 0 0 0 25 0) 0 0 0 33 0) 1 0 = some (y2, z2) := q2
  rw [wLe_e, q2']
  -- what all else is
  have fin : ∀ gC' : Mm, (∀ t, t ≠ 1 → gC' t = y1 t) → gC' 1 0 0 0 = 0 → gC' 1 0 0 2 = gC 1 0 0 2 → (∃ n, nt ≤ n ∧ n ≤ 6 ∧ gC' 1 0 0 1 = nI n ∧ y2 0 0 0 12 = nI n ∧ ∀ t', nt ≤ t' → t' < n → RT y1 y2 t') → Rel gC' y2 := fun gC' f1 f2 f3 ⟨n, n1, n2, n3, n4, n5⟩ => by
    have fc : ∀ t i v j, t ≠ 1 → t ≠ 3 → t ≠ 5 → t ≠ 6 → t ≠ 7 → gC' t i v j = gC t i v j := fun t i v j k1 k3 k5 k6 k7 => by
      rw [f1 t k1]; exact q3 t i v j k3 (by omega) (by omega) (by omega)
    have fr : ∀ t, t ≠ 0 → t ≠ 7 → t ≠ 19 → t ≠ 8 → y2 t = gR t := fun t k0 k7 k19 k8 => by
      funext i v j
      exact q4 t i v j (fun q => absurd q k0) (by omega) k19 (by omega)
    have f0 : ∀ j, j ≠ 11 → j ≠ 12 → ¬ ((25 ≤ j ∧ j ≤ 28) ∨ (31 ≤ j ∧ j ≤ 33)) → y2 0 0 0 j = gR 0 0 0 j := fun j k1 k2 k3 => q4 0 0 0 j (fun _ => ⟨rfl, rfl, k1, k2, k3⟩) (by omega) (by omega) (by omega)
    refine ⟨nv, nf, ns, h.ot (fun t i v j k1 k2 => fc t i v j (by omega) (by omega) (by omega) (by omega) (by omega)) (fun t k1 => fr t (by omega) (by omega) (by omega) (by omega)) (fun j k1 k2 => f0 j (by omega) (by omega) (by omega)) ⟨n, t, by omega, n2, n3, n4, f3.trans a5, (f0 13 (by omega) (by omega) (by omega)).trans a6, (fc 9 0 0 4 (by omega) (by omega) (by omega) (by omega) (by omega)).trans a7, fun t' ht' => ?_⟩ ⟨0, by omega, f2, q5, fun j hj => absurd hj (by omega)⟩ ?_ ?_ ?_⟩
    · by_cases ct : t' < nt
      · exact ((a8 t' ct).cg ct q3 q4).off (by rw [f1 6 (by decide)]) (by rw [f1 7 (by decide)]) rfl rfl
      · exact (n5 t' (by omega) ht').off (by rw [f1 6 (by decide)]) (by rw [f1 7 (by decide)]) rfl rfl
    · exact h.2.2.2.2.2.1.off (funext fun j => fc 24 0 0 j (by omega) (by omega) (by omega) (by omega) (by omega)) (funext fun j => fc 25 0 0 j (by omega) (by omega) (by omega) (by omega) (by omega)) (funext fun j => fc 26 0 0 j (by omega) (by omega) (by omega) (by omega) (by omega)) (funext fun j => fc 27 0 0 j (by omega) (by omega) (by omega) (by omega) (by omega)) (f0 4 (by omega) (by omega) (by omega)) (fr 2 (by omega) (by omega) (by omega) (by omega)) (fr 3 (by omega) (by omega) (by omega) (by omega)) (fr 4 (by omega) (by omega) (by omega) (by omega))
    · exact h.2.2.2.2.2.2.1.off (funext fun j => fc 23 0 0 j (by omega) (by omega) (by omega) (by omega) (by omega)) (f0 8 (by omega) (by omega) (by omega)) (fr 5 (by omega) (by omega) (by omega) (by omega))
    · exact h.2.2.2.2.2.2.2.1.off (fun s => funext fun j => fc 29 s 0 j (by omega) (by omega) (by omega) (by omega) (by omega)) (fun s => funext fun j => fc 30 s 0 j (by omega) (by omega) (by omega) (by omega) (by omega)) (fr 10 (by omega) (by omega) (by omega) (by omega)) (fr 11 (by omega) (by omega) (by omega) (by omega)) (fr 12 (by omega) (by omega) (by omega) (by omega))
  have k1 : y1 1 0 0 1 = nI nt := (q3 1 0 0 1 (by omega) (by omega) (by omega) (by omega)).trans a3
  have k2 : y1 1 0 0 2 = gC 1 0 0 2 := q3 1 0 0 2 (by omega) (by omega) (by omega) (by omega)
  rcases q6 with ⟨b', v1, v2, v3, v4⟩ | ⟨v1, v2, v3, v4⟩
  · have v2 : z1 = nI b' := v2
    have v3 : z2 = -100 - nI b' := v3
    rw [v2, v3, if_neg (nI_pos (by omega)), wB2_e]
    exact ⟨_, _, _, rfl, rfl, fin _ (fun t ht => st_kind ht) st_eq ((st_ne (by omega)).trans k2) ⟨nt, Nat.le_refl _, by omega, (st_ne (by omega)).trans k1, v4, fun t' h1 h2 => absurd h1 (by omega)⟩⟩
  · have v1 : z1 = -1 := v1
    have v2 : z2 = nI nt := v2
    rw [v1, v2, if_pos (show (-1 : Int32) < 0 by decide), st_ne (by omega), k1, nI_1, wB2_e]
    exact ⟨_, _, _, rfl, rfl, fin _ (fun t ht => (st_kind ht).trans (st_kind ht)) ((st_ne (by omega)).trans st_eq) (((st_ne (by omega)).trans (st_ne (by omega))).trans k2) ⟨nt + 1, by omega, by omega, st_eq, v3, fun t' h1 h2 => by
      have : t' = nt := by omega
      subst this
      exact v4⟩⟩
