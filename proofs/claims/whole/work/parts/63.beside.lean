-- ===== what is ahead played on beside =====
theorem PS.back {gC gR gC' gR' : Mm} {nv nf ns : Nat} (h : PS 0 gC gR nv nf ns) (hC : ∀ t v j, (9 ≤ t ∧ t ≤ 15) ∨ (19 ≤ t ∧ t ≤ 22) → gC' t 0 v j = gC t 0 v j) (hR : FV gR gR') (hp : ∀ k, k < 510 → gR' 1 0 0 k = gR 1 0 0 k) : PS 0 gC' gR' nv nf ns := by
  have hv12 := h.nv12
  have hf16 := h.nf16
  have hs6 := h.ns6
  have h1 := h.frm (gC' := gC') (gR' := gR) (fun t v j q _ _ => hC t v j q) (fun _ _ _ => rfl) (fun _ _ => rfl)
  obtain ⟨ha, hb, hE, hU, hP, hK⟩ := h1
  have r0 := hR 0 (by decide) (by decide) (by decide) (by decide)
  refine ⟨ha, by rw [r0]; exact hb, hE.offP fun t v j n q => hp n (ix_lt hv12 hf16 hs6 q), hU.congr (fun _ _ _ _ => rfl) (fun _ _ _ _ => rfl) (fun v m hv h1 h2 => hp m (by omega)), hP.congr fun m hm => hp m ?_, ?_⟩
  · unfold piI at hm
    rcases hm with q | q | q | q | q | ⟨v', q1, q2⟩ | ⟨f, q1, q2⟩ <;> omega
  · unfold KR at *
    rw [hR 13 (by decide) (by decide) (by decide) (by decide), hR 14 (by decide) (by decide) (by decide) (by decide), hR 15 (by decide) (by decide) (by decide) (by decide), hR 16 (by decide) (by decide) (by decide) (by decide), hR 17 (by decide) (by decide) (by decide) (by decide)]
    exact hK
theorem lays_0 (g : Mm) : ∃ g', fX11_lays g 0 = some g' ∧ (∀ t, t ≠ 22 → g' t = g t) ∧ ∀ k, k < 510 → g' 22 0 0 k = g 1 0 0 k := by
  unfold fX11_lays
  rw [wLe_e]
  refine wLp_one (f := fun q : Mm × Int32 => fX11_lays_B2 q.1 0 q.2) (fun g' => (∀ t, t ≠ 22 → g' t = g t) ∧ ∀ k, k < 510 → g' 22 0 0 k = g 1 0 0 k) (fun n s => ∃ g1, s = (g1, nI n) ∧ (∀ t, t ≠ 22 → g1 t = g t) ∧ ∀ k, k < n → g1 22 0 0 k = g 1 0 0 k) 510 ?_ ?_ (k := 0) (Nat.zero_le _) ⟨g, rfl, fun _ _ => rfl, fun k hk => absurd hk (by omega)⟩ (by omega)
  · rintro n s hn ⟨g1, e, a1, a2⟩
    subst e
    left
    have n5 : ¬ (510 : Int32) ≤ nI n := nI_ge (b := 510) hn (by omega)
    dsimp only
    unfold fX11_lays_B2 fX11_lays_b40
    rw [if_neg n5, if_pos rfl, wGi_ok (by omega) (by omega), wGi_ok (by omega) (by omega), nI_clamp (by omega), wLe_e, wLe_e, nI_1]
    refine ⟨_, rfl, _, rfl, fun t ht => (st_kind ht).trans (a1 t ht), fun k hk => ?_⟩
    by_cases e : k = n
    · subst e; rw [st_eq, a1 1 (by decide)]
    · rw [st_ne (by omega)]; exact a2 k (by omega)
  · rintro s ⟨g1, e, a1, a2⟩
    subst e
    exact ⟨g1, rfl, a1, a2⟩
theorem lays_1 (g : Mm) : ∃ g', fX11_lays g 1 = some g' ∧ (∀ t, t ≠ 1 → g' t = g t) ∧ ∀ k, k < 510 → g' 1 0 0 k = g 22 0 0 k := by
  unfold fX11_lays
  rw [wLe_e]
  refine wLp_one (f := fun q : Mm × Int32 => fX11_lays_B2 q.1 1 q.2) (fun g' => (∀ t, t ≠ 1 → g' t = g t) ∧ ∀ k, k < 510 → g' 1 0 0 k = g 22 0 0 k) (fun n s => ∃ g1, s = (g1, nI n) ∧ (∀ t, t ≠ 1 → g1 t = g t) ∧ ∀ k, k < n → g1 1 0 0 k = g 22 0 0 k) 510 ?_ ?_ (k := 0) (Nat.zero_le _) ⟨g, rfl, fun _ _ => rfl, fun k hk => absurd hk (by omega)⟩ (by omega)
  · rintro n s hn ⟨g1, e, a1, a2⟩
    subst e
    left
    have n5 : ¬ (510 : Int32) ≤ nI n := nI_ge (b := 510) hn (by omega)
    dsimp only
    unfold fX11_lays_B2 fX11_lays_b40
    rw [if_neg n5, if_neg c10, wGi_ok (by omega) (by omega), wGi_ok (by omega) (by omega), nI_clamp (by omega), wLe_e, wLe_e, nI_1]
    refine ⟨_, rfl, _, rfl, fun t ht => (st_kind ht).trans (a1 t ht), fun k hk => ?_⟩
    by_cases e : k = n
    · subst e; rw [st_eq, a1 22 (by decide)]
    · rw [st_ne (by omega)]; exact a2 k (by omega)
  · rintro s ⟨g1, e, a1, a2⟩
    subst e
    exact ⟨g1, rfl, a1, a2⟩
theorem many_pr {i nv nf ns m n : Nat} {g1 g2 : Mm} (h : PS i g1 g2 nv nf ns) (hm : m = 7 ∧ n = 1 ∨ m = 8 ∧ n = 2) : ∃ r, fX4_howMany g1 i (nI m) = some r ∧ fX11_outcome_L39 g2 (nI n) 0 0 = some r := by
  have hv12 := h.nv12
  have n6 : (6 : Int32) = nI 6 := rfl
  obtain ⟨t1, t2, q1, q2, rfl⟩ := wLp_two (f1 := fun q : Int32 × Int32 => fX4_howMany_B4 g1 i (nI m) q.1 q.2) (f2 := fun q : Int32 × Int32 => fX11_outcome_B39 g2 (nI n) q.1 q.2)
    (fun t1 t2 => t1 = t2) (fun k s1 s2 => s1 = s2 ∧ s1.2 = nI k) nv
    (fun k s1 s2 hk ⟨e1, e2⟩ => by
      subst e1
      obtain ⟨a, b⟩ := s1
      have e2 : b = nI k := e2
      subst e2
      left
      have v6 := h.v6 hk
      have e7 : fX11_outcome_B39 g2 (nI n) a (nI k) = fX11_outcome_b67 g2 (nI n) (nI k) a (g2 1 0 0 (30 * k + 6)) (nI m) := by
        unfold fX11_outcome_B39
        rw [h.2.1.1, if_neg (nI_ge hk (by omega)), n6, of_ev g2 (by omega), wBd_e]
        rcases hm with ⟨rfl, rfl⟩ | ⟨rfl, rfl⟩
        · exact if_pos rfl
        · exact if_neg (by decide)
      dsimp only
      rw [e7]
      unfold fX4_howMany_B4 fX4_howMany_b28 fX11_outcome_b67 fX11_outcome_b75
      rw [h.1.2.1, if_neg (nI_ge hk (by omega)), wGi_ok (by omega) (by omega), nI_clamp (by omega), v6]
      by_cases c : g2 1 0 0 (30 * k + 6) = nI m
      · simp only [if_pos c, wLe_e, nI_1]
        exact ⟨_, _, rfl, rfl, rfl, rfl⟩
      · simp only [if_neg c, wLe_e, nI_1, Int32.add_zero]
        exact ⟨_, _, rfl, rfl, rfl, rfl⟩)
    (fun s1 s2 ⟨e1, e2⟩ => by
      subst e1
      obtain ⟨a, b⟩ := s1
      have e2 : b = nI nv := e2
      subst e2
      dsimp only
      unfold fX4_howMany_B4 fX11_outcome_B39
      rw [h.1.2.1, h.2.1.1, if_pos (nI_le (Nat.le_refl _) (by omega)), if_pos (nI_le (Nat.le_refl _) (by omega)), wEx_e]
      exact ⟨_, _, rfl, rfl, rfl⟩)
    (k := 0) (Nat.zero_le _) (s1 := (0, 0)) (s2 := (0, 0)) ⟨rfl, rfl⟩ (u1 := 1000) (u2 := 1000) (by omega) (by omega)
  exact ⟨_, q1, q2⟩
theorem outcome_pr {i nv nf ns w : Nat} {g1 g2 : Mm} (h : PS i g1 g2 nv nf ns) (hw : w < 5) : ∃ r, fX4_outcome g1 i (nI w) = some r ∧ fX11_outcome g2 (nI w) = some r := by
  obtain ⟨l, l1, l2⟩ := lateAll_pr h
  obtain ⟨m, m1, m2⟩ := missed_pr h
  obtain ⟨x, x1, x2⟩ := many_pr (m := 7) (n := 1) h (Or.inl ⟨rfl, rfl⟩)
  obtain ⟨y, y1, y2⟩ := many_pr (m := 8) (n := 2) h (Or.inr ⟨rfl, rfl⟩)
  have z : g1 10 i 0 7 = g2 1 0 0 483 := h.e10_7
  unfold fX4_outcome fX11_outcome
  rcases (show w = 0 ∨ w = 1 ∨ w = 2 ∨ w = 3 ∨ w = 4 by omega) with rfl | rfl | rfl | rfl | rfl
  · refine ⟨l, ?_, ?_⟩
    · rw [if_pos (by decide), l1, wBd_e]
    · rw [wLe_e, if_pos (by decide), l2, wBd_e]
  · refine ⟨x, ?_, ?_⟩
    · rw [if_neg (by decide), if_pos (by decide), show fX4_howMany g1 i 7 = some x from x1, wBd_e]
    · rw [wLe_e, if_neg (by decide), if_pos (by decide), wLe_e]; exact x2
  · refine ⟨y, ?_, ?_⟩
    · rw [if_neg (by decide), if_neg (by decide), if_pos (by decide), show fX4_howMany g1 i 8 = some y from y1, wBd_e]
    · rw [wLe_e, if_neg (by decide), if_neg (by decide), if_pos (by decide), wLe_e]; exact y2
  · refine ⟨m, ?_, ?_⟩
    · rw [if_neg (by decide), if_neg (by decide), if_neg (by decide), if_pos (by decide), m1, wBd_e]
    · rw [wLe_e, if_neg (by decide), if_neg (by decide), if_neg (by decide), if_pos (by decide), m2, wBd_e]
  · have i7 : ∀ f : Option Int32, wGi (7 : Int32) 9 f = f := fun f => wGi_ok (n := 7) (by omega) (by omega)
    have c7 : (7 : Int32).toNatClampNeg = 7 := nI_clamp (n := 7) (by omega)
    have i3 : ∀ f : Option Int32, wGi (483 : Int32) 510 f = f := fun f => wGi_ok (n := 483) (by omega) (by omega)
    have c3 : (483 : Int32).toNatClampNeg = 483 := nI_clamp (n := 483) (by omega)
    refine ⟨g2 1 0 0 483, ?_, ?_⟩
    · rw [if_neg (by decide), if_neg (by decide), if_neg (by decide), if_neg (by decide), i7, c7, z]
    · rw [wLe_e, if_neg (by decide), if_neg (by decide), if_neg (by decide), if_neg (by decide), i3, c3]
theorem CB.aside {nv t : Nat} {gC g' : Mm} (h : CB 0 nv t gC) (c21 : ∀ v, v < nv → ∀ j, j < 9 → g' 21 1 v j = gC 21 0 v j) : CB 1 nv t g' := fun v hv c hc => by
  obtain ⟨n, hn, e⟩ := h v hv c hc
  exact ⟨n, hn, (c21 v hv c hc).trans e⟩
theorem CB.of {nv nf ns t : Nat} {i i' : Nat} {gC g' gR : Mm} (h : CB i nv t gC) (h1 : PS i gC gR nv nf ns) (h2 : PS i' g' gR nv nf ns) : CB i' nv t g' := fun v hv c hc => by
  obtain ⟨n, hn, e⟩ := h v hv c hc
  exact ⟨n, hn, (h2.c21 hv hc).trans ((h1.c21 hv hc).symm.trans e)⟩
theorem CT.off {gC g' : Mm} {nv : Nat} (h : CT gC nv) (h9 : g' 9 0 0 0 = gC 9 0 0 0) (h21 : ∀ v c, g' 21 0 v c = gC 21 0 v c) : CT g' nv := by
  obtain ⟨t, ht, et, hc⟩ := h
  refine ⟨t, ht, h9.trans et, fun v hv c hc' => ?_⟩
  obtain ⟨n, hn, e⟩ := hc v hv c hc'
  exact ⟨n, hn, (h21 v c).trans e⟩
theorem OA.fw {nv nf : Nat} {g g' : Mm} (h : OA g g') : FW nv nf g g' := fun t i v j q => h t i v j fun w => q (by unfold wW; omega)
theorem sc_beside {gC gR : Mm} (h : Rel gC gR) (a b : Int32) : ∃ gC1 gR1 r, fX10_beside gC a b = some (gC1, r) ∧ fX11_beside gR a b = some (gR1, r) ∧ Rel gC1 gR1 := by
  obtain ⟨nv, nf, ns, h⟩ := h
  have hP := h.1
  have hv12 := hP.nv12
  obtain ⟨t, ht, et', hc⟩ := h.ct
  have et : gR 1 0 0 480 = nI t := hP.e9.symm.trans et'
  have stay := fun r : Int32 => stays (r := r) (⟨nv, nf, ns, h⟩ : Rel gC gR)
  unfold fX10_beside fX11_beside
  -- whatever the ticks are, the outcome is refused
  have bad : (fX11_in gR b 0 4 = some 0) → ∀ A B : Int32 → Option (Mm × Int32), (∃ gC1 gR1 r, some (gC, (-2 : Int32)) = some (gC1, r) ∧ (wBd (fX11_in gR a (1 : Int32) (200 : Int32)) fun y2 => if y2 = 0 then (some (gR, (-2 : Int32))) else (wBd (fX11_in gR b (0 : Int32) (4 : Int32)) fun y5 => if y5 = 0 then (some (gR, (-2 : Int32))) else A y5)) = some (gR1, r) ∧ Rel gC1 gR1) := fun e A _ => by
    rw [e, wBd_e, if_pos rfl]
    have : ∃ y, fX11_in gR a 1 200 = some y := by
      unfold fX11_in
      repeat' split
      all_goals exact ⟨_, rfl⟩
    obtain ⟨y, ey⟩ := this
    rw [ey, wBd_e]
    by_cases c : y = 0
    · rw [if_pos c]; exact stay _
    · rw [if_neg c]; exact stay _
  rcases posneg b with hb | ⟨w, hw, rfl⟩
  · rw [if_pos hb]
    exact bad (in_neg (lo := 0) hb (by omega)) _ (fun _ => none)
  · rw [if_neg (nI_pos hw)]
    by_cases c5 : w < 5
    · rw [if_pos (show nI w < (5 : Int32) from nI_lt (b := 5) c5 (by omega))]
      rcases posneg a with ha | ⟨n, hn, rfl⟩
      · rw [refused_neg ha, wBd_e, if_neg (by decide), show fX11_in gR a 1 200 = some 0 from in_neg (lo := 1) ha (by omega), wBd_e, if_pos rfl]
        exact stay _
      · rw [show fX10_refusedAhead gC (nI n) 200 = _ from refused_ev (most := 200) et' ht hn (by omega), wBd_e, show fX11_in gR (nI n) 1 200 = _ from in_ev (lo := 1) (hi := 200) hn (by omega) (by omega), wBd_e, show fX11_in gR (nI w) 0 4 = _ from in_ev (lo := 0) (hi := 4) hw (by omega) (by omega), wBd_e, if_pos (show 0 ≤ w ∧ w ≤ 4 by omega), if_neg c10]
        by_cases c : 1 ≤ n ∧ n ≤ 200
        · rw [if_pos c, if_pos c, if_neg c10, i480f, c480f, et]
          by_cases d : t + n ≤ 9999
          · obtain ⟨g1, b1, b2, b3, b4, b5⟩ := become_pr hP h.rs h.2.1
            obtain ⟨g2, l1, l2, l3⟩ := lays_0 gR
            have p2 : PS 1 g1 g2 nv nf ns := b2.scrR fun t ht => l2 t (by omega)
            have r2 : RS 1 g1 g2 := by
              obtain ⟨t', k1, k2, k3, k4⟩ := b4
              exact ⟨t', k1, k2, by rw [l2 0 (by decide)]; exact k3, k4.off rfl rfl (l2 7 (by decide)) (l2 8 (by decide))⟩
            rw [if_pos d, if_pos rfl, if_pos ((tick9 ht c.2).mpr d), b1, wBd_e, wLe_e, l1, wBd_e, wLe_e]
            obtain ⟨t1, t2, r1, r2, r3⟩ := steps_pr (F1 := fun g x => fX10_beside_B41 g (nI n) (nI w) x) (F2 := fun g x => fX11_beside_B49 g (nI n) (nI w) x) (fun t1 t2 => ∃ gC1 gR1 r, t1 = (gC1, r) ∧ t2 = (gR1, r) ∧ R3 gC1 gR1 nv nf ns) (by omega) p2 r2 b5 (hc.of hP b2) (by rw [l2 1 (by decide)]; exact et) c.2 d
              (fun k g g' hk e => by unfold fX10_beside_B41; rw [if_neg (nI_ge hk (by omega)), e, wBd_e, wLe_e, nI_1])
              (fun k g g' hk e => by unfold fX11_beside_B49; rw [if_neg (nI_ge hk (by omega)), e, wBd_e, wLe_e, nI_1])
              (fun a b hA => by
                obtain ⟨o, o1, o2⟩ := outcome_pr hA.1 c5
                obtain ⟨g3, m1, m2, m3⟩ := lays_1 b
                have f0 : ∀ t v j, t ≠ 8 → t ≠ 18 → a t 0 v j = gC t 0 v j := fun t v j q1 q2 => (hA.2.1 t 0 v j (by unfold wrC; omega) (by omega)).trans (b3 t 0 v j (by omega))
                have fv : FV gR g3 := fun t q1 q2 q3 q4 => (m2 t q1).trans ((hA.2.2.1 t q1 q2 q3).trans (l2 t q4))
                have fp : ∀ k, k < 510 → g3 1 0 0 k = gR 1 0 0 k := fun k hk => (m3 k hk).trans ((congrFun (congrFun (congrFun (hA.2.2.1 22 (by decide) (by decide) (by decide)) 0) 0) k).trans (l3 k hk))
                refine ⟨(a, o), (g3, o), ?_, ?_, a, g3, o, rfl, rfl, h.fw (hP.back (fun t v j q => f0 t v j (by omega) (by omega)) fv fp) ((b3.fw).tr (hA.2.1.fw (by omega))) fv (h.ct.off (f0 9 0 0 (by decide) (by decide)) fun v c => f0 21 v c (by decide) (by decide))⟩
                · unfold fX10_beside_B41; rw [if_pos (nI_le (Nat.le_refl _) (by omega)), o1, wBd_e, wEx_e]
                · unfold fX11_beside_B49; rw [if_pos (nI_le (Nat.le_refl _) (by omega)), o2, wBd_e, m1, wBd_e, wEx_e])
            obtain ⟨gC1, gR1, r, s1, s2, s3⟩ := r3
            subst s1; subst s2
            exact ⟨gC1, gR1, r, r1, r2, nv, nf, ns, s3⟩
          · rw [if_neg d, if_neg (by decide), if_neg (fun q => d ((tick9 ht c.2).mp q))]
            exact stay _
        · rw [if_neg c, if_neg (by decide), if_neg c, if_pos rfl]
          exact stay _
    · rw [if_neg (show ¬ nI w < (5 : Int32) from nI_nlt (b := 5) (by omega) hw)]
      exact bad (by rw [show fX11_in gR (nI w) 0 4 = _ from in_ev (lo := 0) (hi := 4) hw (by omega) (by omega), if_neg (by omega)]) _ (fun _ => none)
