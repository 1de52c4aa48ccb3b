-- ===== an act ends: carts go, a plane is iced, a plane is pushed =====
theorem carts_pr {i : Nat} {gC gR : Mm} {nv nf ns v : Nat} (h : PS i gC gR nv nf ns) (hv : v < nv) : ∃ gC' gR', fX4_sendCarts gC i (nI v) = some gC' ∧ fX11_isDoneNow_L59 gR (nI v) (nI 1) (nI 360) = some gR' ∧ TK i nv nf ns gC gR gC' gR' := by
  have hv12 := h.nv12
  have hf := h.nf16
  have key := wLp_two (f1 := fun q : Mm × Int32 => fX4_sendCarts_B2 q.1 i (nI v) q.2) (f2 := fun q : Mm × Int32 => fX11_isDoneNow_B59 q.1 (nI v) (nI 1) q.2)
    (fun t1 t2 => TK i nv nf ns gC gR t1 t2) (fun k s1 s2 => TK i nv nf ns gC gR s1.1 s2.1 ∧ s1.2 = nI k ∧ s2.2 = nI (360 + 6 * k)) nf
    (fun k s1 s2 hk ⟨hT, e1, e2⟩ => by
      left
      obtain ⟨g1, x1⟩ := s1
      obtain ⟨g2, x2⟩ := s2
      dsimp only at hT e1 e2
      subst e1; subst e2
      have h' := hT.1
      have a3 := h'.1.2.2
      have b2 := h'.2.1.2.1
      have f0 := h'.f0 hk
      have f4 := h'.f4 hk
      dsimp only
      unfold fX4_sendCarts_B2 fX11_isDoneNow_B59 fX4_sendCarts_b50 fX11_isDoneNow_b135
      rw [a3, b2]
      have hk' : ¬ nf ≤ k := by omega
      have hk2 : ¬ 360 + 6 * nf ≤ 360 + 6 * k := by omega
      simp (disch := omega) only [li_0, li_1, li_2, li_3, li_4, li_5, li_6, li_7, li_8, li_9, li_10, li_11, li_12, li_13, li_14, li_15, li_16, li_17, li_18, li_19, li_30, li_32, li_40, li_41, li_42, li_43, li_45, li_48, li_57, li_59, li_60, li_61, li_63, li_97, li_99, li_122, li_160, li_200, li_255, li_256, li_257, li_258, li_259, li_360, li_460, li_462, li_470, li_475, li_480, li_481, li_482, li_483, li_484, li_490, li_496, li_510, li_999, li_9999, li_10000, li_10008, li_10009, li_10010, li_10011, li_10012, li_10013, li_10014, li_10015, li_10016, li_100000, wGi_ok, wGb_0, wGb_1, wLe_e, wBd_e, wB2_e, wEx_e, nI_mul, nI_add, nI_clamp, nI_leI, nI_ltI, nI_eq, nI_m1, f0, f4, if_neg hk', if_neg hk2]
      have next : 360 + 6 * k + 6 = 360 + 6 * (k + 1) := by omega
      by_cases c1 : g2 1 0 0 (360 + 6 * k) = nI v
      · by_cases c2 : g2 1 0 0 (360 + 6 * k + 4) = nI 0
        · simp only [if_pos c1, if_pos c2]
          have h1 := h'.set (x := nI 1) (ix_f4 (nv := nv) (ns := ns) hk) (h'.2.2.2.2.1.free (by unfold piI; rintro (q | q | q | q | q | ⟨v', q1, q2⟩ | ⟨f, q1, q2⟩) <;> omega))
          have u9 := h1.e9
          have u3 := h1.f3 hk
          have h2 := h1.set (x := (st g2 1 0 0 (360 + 6 * k + 4) (nI 1)) 1 0 0 480 + (st g2 1 0 0 (360 + 6 * k + 4) (nI 1)) 1 0 0 (360 + 6 * k + 3)) (ix_f5 (nv := nv) (ns := ns) hk) (h1.2.2.2.2.1.free (by unfold piI; rintro (q | q | q | q | q | ⟨v', q1, q2⟩ | ⟨f, q1, q2⟩) <;> omega))
          rw [u9, u3, next]
          exact ⟨_, _, rfl, rfl, hT.tr ⟨h2, (FrC.rf.st (by unfold wrC; omega)).st (by unfold wrC; omega), (FrR.rf.st (Or.inl rfl)).st (Or.inl rfl)⟩, rfl, rfl⟩
        · simp only [if_pos c1, if_neg c2]
          rw [next]
          exact ⟨_, _, rfl, rfl, hT, rfl, rfl⟩
      · simp only [if_neg c1]
        rw [next]
        exact ⟨_, _, rfl, rfl, hT, rfl, rfl⟩)
    (fun s1 s2 ⟨hT, e1, e2⟩ => by
      obtain ⟨g1, x1⟩ := s1
      obtain ⟨g2, x2⟩ := s2
      dsimp only at hT e1 e2
      subst e1; subst e2
      have h' := hT.1
      have a3 := h'.1.2.2
      have b2 := h'.2.1.2.1
      dsimp only
      unfold fX4_sendCarts_B2 fX11_isDoneNow_B59
      rw [a3, b2]
      simp (disch := omega) only [li_0, li_1, li_2, li_3, li_4, li_5, li_6, li_7, li_8, li_9, li_10, li_11, li_12, li_13, li_14, li_15, li_16, li_17, li_18, li_19, li_30, li_32, li_40, li_41, li_42, li_43, li_45, li_48, li_57, li_59, li_60, li_61, li_63, li_97, li_99, li_122, li_160, li_200, li_255, li_256, li_257, li_258, li_259, li_360, li_460, li_462, li_470, li_475, li_480, li_481, li_482, li_483, li_484, li_490, li_496, li_510, li_999, li_9999, li_10000, li_10008, li_10009, li_10010, li_10011, li_10012, li_10013, li_10014, li_10015, li_10016, li_100000, wGi_ok, wGb_0, wGb_1, wLe_e, wBd_e, wB2_e, wEx_e, nI_mul, nI_add, nI_clamp, nI_leI, nI_ltI, nI_eq, nI_m1, Nat.le_refl, if_true]
      exact ⟨_, _, rfl, rfl, hT⟩) (k := 0) (Nat.zero_le _) (s1 := (gC, nI 0)) (s2 := (gR, nI 360)) ⟨TK.rf h, rfl, rfl⟩ (u1 := 1000) (u2 := 1000) (by omega) (by omega)
  obtain ⟨t1, t2, r1, r2, r3⟩ := key
  exact ⟨t1, t2, r1, r2, r3⟩
theorem sv7 : ∀ a, a < 8 → (sV 7 a = -1 ∨ ∃ k, k < 5 ∧ sV 7 a = nI k) := by decide +kernel
theorem truck_ev {g : Mm} {a : Nat} (ha : a < 8) : fX3_truckFor g (nI a) = some (sV 7 a) := by
  unfold fX3_truckFor
  simp (disch := omega) only [wGi_ok, wGb_0, wGb_1, wLe_e, wBd_e, wB2_e, wEx_e, nI_mul, nI_add, nI_clamp, nI_leI, nI_ltI, nI_eq, nI_m1]
theorem PI.pushed {p p' : Nat → Int32} {nv nf ns v s : Nat} (h : PI p nv nf ns) (hv : v < nv) (hs : s < ns) (e : ∀ m, piI nv nf m → m ≠ 30 * v + 18 → m ≠ 30 * v + 9 → m ≠ 30 * v + 8 → m ≠ 30 * v + 6 → m ≠ 496 + s → p' m = p m)
    (e18 : p' (30 * v + 18) = nI 0) (e8 : p' (30 * v + 8) = -1) (e6 : p' (30 * v + 6) = nI 5) (eo : p' (496 + s) = -1) : PI p' nv nf ns := by
  obtain ⟨h1, h2, h3, h4, h5, h6, h7, h8, h9⟩ := h
  have hv12 := h1.1
  have hf16 := h1.2.1
  have hs6 := h1.2.2
  refine ⟨h1, ?_, ?_, ?_, ?_, ?_, ?_, ?_, ?_⟩
  · rw [e 480 (Or.inl rfl) (by omega) (by omega) (by omega) (by omega) (by omega)]; exact h2
  · rw [e 484 (Or.inr (Or.inl rfl)) (by omega) (by omega) (by omega) (by omega) (by omega)]; exact h3
  · intro r hr
    rw [e (462 + r) (by rcases (show r = 0 ∨ r = 1 by omega) with rfl | rfl; exact Or.inr (Or.inr (Or.inl rfl)); exact Or.inr (Or.inr (Or.inr (Or.inl rfl)))) (by omega) (by omega) (by omega) (by omega) (by omega)]
    exact h4 r hr
  · intro v' hv'
    obtain ⟨k1, k2, k3, k4⟩ := h5 v' hv'
    rw [e (30 * v') (piI_v hv' (Or.inl rfl)) (by omega) (by omega) (by omega) (by omega) (by omega), e (30 * v' + 4) (piI_v hv' (Or.inr (Or.inl rfl))) (by omega) (by omega) (by omega) (by omega) (by omega)]
    by_cases q : v' = v
    · subst q
      rw [e6, e8]
      exact ⟨k1, k2, ⟨5, by omega, rfl⟩, Or.inl rfl⟩
    · rw [e (30 * v' + 6) (piI_v hv' (Or.inr (Or.inr (Or.inl rfl)))) (by omega) (by omega) (by omega) (by omega) (by omega), e (30 * v' + 8) (piI_v hv' (Or.inr (Or.inr (Or.inr ⟨by omega, by omega⟩)))) (by omega) (by omega) (by omega) (by omega) (by omega)]
      exact ⟨k1, k2, k3, k4⟩
  · intro v' hv'
    rw [e (30 * v' + 10) (piI_v hv' (Or.inr (Or.inr (Or.inr ⟨by omega, by omega⟩)))) (by omega) (by omega) (by omega) (by omega) (by omega)]
    refine ⟨(h6 v' hv').1, fun b hb => ?_⟩
    by_cases q : 30 * v' + 11 + b = 30 * v + 18
    · rw [q, e18]; exact ⟨0, by omega, rfl⟩
    · rw [e (30 * v' + 11 + b) (piI_v hv' (Or.inr (Or.inr (Or.inr ⟨by omega, by omega⟩)))) q (by omega) (by omega) (by omega) (by omega)]
      exact (h6 v' hv').2 b hb
  · intro v' hv'
    by_cases q : v' = v
    · subst q
      rw [e6, e18]
      refine ⟨fun n g1 g2 g3 => ?_, fun n g1 g2 => ?_, fun g1 => ?_⟩
      · rw [nI_eq (by omega) (by omega)] at g3; omega
      · rw [nI_eq (by omega) (by omega)] at g2; omega
      · exact (g1 rfl).elim
    · rw [e (30 * v' + 6) (piI_v hv' (Or.inr (Or.inr (Or.inl rfl)))) (by omega) (by omega) (by omega) (by omega) (by omega), e (30 * v' + 8) (piI_v hv' (Or.inr (Or.inr (Or.inr ⟨by omega, by omega⟩)))) (by omega) (by omega) (by omega) (by omega) (by omega),
        e (30 * v' + 9) (piI_v hv' (Or.inr (Or.inr (Or.inr ⟨by omega, by omega⟩)))) (by omega) (by omega) (by omega) (by omega) (by omega), e (30 * v' + 18) (piI_v hv' (Or.inr (Or.inr (Or.inr ⟨by omega, by omega⟩)))) (by omega) (by omega) (by omega) (by omega) (by omega)]
      exact h7 v' hv'
  · intro f hf
    rw [e (360 + 6 * f) (piI_f hf (Or.inl rfl)) (by omega) (by omega) (by omega) (by omega) (by omega), e (360 + 6 * f + 1) (piI_f hf (Or.inr rfl)) (by omega) (by omega) (by omega) (by omega) (by omega)]
    exact h8 f hf
  · intro s' hs'
    by_cases q : s' = s
    · subst q
      rw [eo]; exact Or.inl rfl
    · rw [e (496 + s') (Or.inr (Or.inr (Or.inr (Or.inr (Or.inl ⟨by omega, by omega⟩))))) (by omega) (by omega) (by omega) (by omega) (by omega)]
      exact h9 s' hs'
/-- iced now -/
theorem PS.iced {i : Nat} {gC gR : Mm} {nv nf ns v u : Nat} (h : PS i gC gR nv nf ns) (hv : v < nv) (hu : u ≤ 10000) : PS i (st gC 19 i v 12 (nI u)) (st gR 1 0 0 (30 * v + 10) (nI u)) nv nf ns := by
  obtain ⟨⟨a1, a2, a3⟩, ⟨b1, b2, b3⟩, hE, hU, hP, hK⟩ := h
  have hp : PI (upd (gR 1 0 0) (30 * v + 10) (nI u)) nv nf ns := by
    obtain ⟨h1, h2, h3, h4, h5, h6, h7, h8, h9⟩ := hP
    have hv12 := h1.1
    have hf16 := h1.2.1
    have off : ∀ m, m ≠ 30 * v + 10 → upd (gR 1 0 0) (30 * v + 10) (nI u) m = gR 1 0 0 m := fun m hm => upd_n hm
    refine ⟨h1, ?_, ?_, ?_, ?_, ?_, ?_, ?_, ?_⟩
    · rw [off _ (by omega)]; exact h2
    · rw [off _ (by omega)]; exact h3
    · intro r hr; rw [off _ (by omega)]; exact h4 r hr
    · intro v' hv'
      rw [off (30 * v') (by omega), off (30 * v' + 4) (by omega), off (30 * v' + 6) (by omega), off (30 * v' + 8) (by omega)]
      exact h5 v' hv'
    · intro v' hv'
      refine ⟨?_, fun a ha => ?_⟩
      · by_cases e : v' = v
        · subst e; rw [upd_e]; exact Or.inr ⟨u, hu, rfl⟩
        · rw [off _ (by omega)]; exact (h6 v' hv').1
      · rw [off _ (by omega)]; exact (h6 v' hv').2 a ha
    · intro v' hv'
      rw [off (30 * v' + 6) (by omega), off (30 * v' + 8) (by omega), off (30 * v' + 9) (by omega), off (30 * v' + 18) (by omega)]
      exact h7 v' hv'
    · intro f hf
      rw [off _ (by omega), off _ (by omega)]; exact h8 f hf
    · intro s hs
      rw [off _ (by omega)]; exact h9 s hs
  refine ⟨⟨a1, a2, a3⟩, ⟨b1, b2, b3⟩, ?_, ?_, by rw [st_p]; exact hp, hK⟩
  · have hv12 := hP.1.1
    have hf16 := hP.1.2.1
    rw [st_p]
    intro t v' j m q
    rw [st_ne (by unfold ixR at q; omega), upd_n (by unfold ixR at q; omega)]
    exact hE t v' j m q
  · rw [st_p]
    intro v' hv'
    obtain ⟨⟨m', h1, h2, h3⟩, h4⟩ := hU v' hv'
    have q10 : st gC 19 i v 12 (nI u) 19 i v' 10 = gC 19 i v' 10 := st_ne (by omega)
    rw [q10]
    refine ⟨⟨m', h1, h2, fun b hb => ?_⟩, ?_⟩
    · rw [upd_n (by omega), st_ne (by omega)]
      exact h3 b hb
    · by_cases e : v' = v
      · subst e
        rw [upd_e, st_eq]
        exact Or.inr ⟨u, hu, rfl, rfl⟩
      · rw [upd_n (by omega), st_ne (by omega)]
        exact h4
