-- ===== the call plan =====
theorem R3.pl {gC gR gC' gR' : Mm} {nv nf ns : Nat} (h : R3 gC gR nv nf ns) (hC : ∀ t i' v j, ¬ (i' = 1 ∧ 9 ≤ t ∧ t ≤ 22) → t ≠ 8 → t ≠ 18 → t ≠ 23 → gC' t i' v j = gC t i' v j) (hR : ∀ t, t ≠ 0 → t ≠ 1 → t ≠ 5 → t ≠ 20 → t ≠ 21 → t ≠ 22 → gR' t = gR t) (hR0 : ∀ j, j ≠ 8 → gR' 0 0 0 j = gR 0 0 0 j) (hp : ∀ k, k < 510 → gR' 1 0 0 k = gR 1 0 0 k) (hpl : PL gC' gR' nv ns) : R3 gC' gR' nv nf ns := by
  have ex : ∃ gR1 : Mm, FV gR gR1 ∧ (∀ k, k < 510 → gR1 1 0 0 k = gR 1 0 0 k) ∧ gR1 1 = gR' 1 := ⟨fun t => if t = 1 then gR' 1 else gR t, fun t x1 _ _ _ => if_neg x1, fun k hk => hp k hk, rfl⟩
  obtain ⟨gR1, f1, f2, f3⟩ := ex
  have p1 : PS 0 gC' gR1 nv nf ns := h.1.back (fun t v j q => hC t 0 v j (by omega) (by omega) (by omega) (by omega)) f1 f2
  have r1 : ∀ t, t ≠ 0 → t ≠ 5 → t ≠ 20 → t ≠ 21 → t ≠ 22 → gR' t = gR1 t := fun t x0 x5 x20 x21 x22 => by
    by_cases e : t = 1
    · subst e; exact f3.symm
    · rw [hR t x0 e x5 x20 x21 x22, f1 t e x20 x21 x22]
  have p2 : PS 0 gC' gR' nv nf ns := p1.frm (fun _ _ _ _ _ _ => rfl) (fun j j1 j2 => by rw [hR0 j (by omega), f1 0 (by decide) (by decide) (by decide) (by decide)]) (fun t ht => r1 t (by omega) (by omega) (by omega) (by omega) (by omega))
  have c0 : ∀ t v j, t ≠ 8 → t ≠ 18 → t ≠ 23 → gC' t 0 v j = gC t 0 v j := fun t v j a b c => hC t 0 v j (by omega) a b c
  have row : ∀ t i v, t ≠ 8 → t ≠ 18 → t ≠ 23 → (t < 9 ∨ 22 < t) → gC' t i v = gC t i v := fun t i v a b c d => funext fun j => hC t i v j (by omega) a b c
  obtain ⟨h1, h2, h3, h4, h5, h6, h7, h8, h9, h10⟩ := h
  refine ⟨p2, ?_, ?_, ?_, ?_, ?_, hpl, ?_, ?_, h10.off (c0 9 0 0 (by decide) (by decide) (by decide)) fun v c => c0 21 v c (by decide) (by decide) (by decide)⟩
  · intro v hv
    obtain ⟨e, he, q⟩ := h2 v hv
    exact ⟨e, he, (c0 19 v 2 (by decide) (by decide) (by decide)).trans q⟩
  · refine ⟨fun v q1 q2 => ?_, fun f q1 q2 => (c0 22 f 4 (by decide) (by decide) (by decide)).trans (h3.2 f q1 q2)⟩
    obtain ⟨k1, k2, k3, k4⟩ := h3.1 v q1 q2
    exact ⟨(c0 19 v 4 (by decide) (by decide) (by decide)).trans k1, (c0 19 v 9 (by decide) (by decide) (by decide)).trans k2, (c0 19 v 10 (by decide) (by decide) (by decide)).trans k3, fun c hc => (c0 21 v c (by decide) (by decide) (by decide)).trans (k4 c hc)⟩
  · exact h4.off ⟨c0 1 0 1 (by decide) (by decide) (by decide), c0 1 0 2 (by decide) (by decide) (by decide)⟩ (c0 9 0 4 (by decide) (by decide) (by decide)) (fun t => row 6 t 0 (by decide) (by decide) (by decide) (by decide)) (fun t => row 7 t 0 (by decide) (by decide) (by decide) (by decide)) ⟨hR0 12 (by decide), hR0 13 (by decide)⟩ (hR 7 (by decide) (by decide) (by decide) (by decide) (by decide) (by decide)) (hR 8 (by decide) (by decide) (by decide) (by decide) (by decide) (by decide))
  · exact h5.off (c0 1 0 0 (by decide) (by decide) (by decide)) (row 4 0 0 (by decide) (by decide) (by decide) (by decide)) (hR0 11 (by decide)) (hR 6 (by decide) (by decide) (by decide) (by decide) (by decide) (by decide))
  · exact h6.off (row 24 0 0 (by decide) (by decide) (by decide) (by decide)) (row 25 0 0 (by decide) (by decide) (by decide) (by decide)) (row 26 0 0 (by decide) (by decide) (by decide) (by decide)) (row 27 0 0 (by decide) (by decide) (by decide) (by decide)) (hR0 4 (by decide)) (hR 2 (by decide) (by decide) (by decide) (by decide) (by decide) (by decide)) (hR 3 (by decide) (by decide) (by decide) (by decide) (by decide) (by decide)) (hR 4 (by decide) (by decide) (by decide) (by decide) (by decide) (by decide))
  · exact h8.off (fun s => row 29 s 0 (by decide) (by decide) (by decide) (by decide)) (fun s => row 30 s 0 (by decide) (by decide) (by decide) (by decide)) (hR 10 (by decide) (by decide) (by decide) (by decide) (by decide) (by decide)) (hR 11 (by decide) (by decide) (by decide) (by decide) (by decide) (by decide)) (hR 12 (by decide) (by decide) (by decide) (by decide) (by decide) (by decide))
  · intro k hk
    rw [hR 18 (by decide) (by decide) (by decide) (by decide) (by decide) (by decide)]
    exact h9 k hk
/-- all rows -/
theorem outer_pr {gC gR : Mm} {nv nf ns t n m p : Nat} {q : Option Nat} (h : R3 gC gR nv nf ns) (ht : gR 1 0 0 480 = nI t) (ht' : t ≤ 10000) (hc : CB 0 nv t gC) (hn : n ≤ 40) (htn : t + n ≤ 9999) (hm : m < 2 ^ nv) (hp : p < nv) (hq : ∀ q', q = some q' → q' < nv ∧ p ≠ q') (hb : ∀ v, v < nv → m.testBit v = true → v = p ∨ q = some v) :
    ∃ gC1 gR1 r, fX10_plan_L58 gC (nI m) (nI n) (nI p) (oI q) (if q = none then nI 0 else nI ns) (-1) (-1) = some (gC1, r) ∧ (wBd (fX11_lays gR (0 : Int32)) fun g25 => fX11_plan_L169 g25 (nI m) (nI n) (nI p) (oI q) (-1) (-1) (-1) (-1)) = some (gR1, r) ∧ Rel gC1 gR1 := by
  have hs6 := h.1.ns6
  have hv12 := h.1.nv12
  obtain ⟨g0, l1, l2, l3⟩ := lays_0 gR
  have pb0 : PB gC gR gC g0 := ⟨fun _ _ _ _ _ _ _ _ => rfl, fun t _ _ _ x => l2 t x, fun k hk => by rw [l2 1 (by decide)], l3⟩
  rw [l1, wBd_e]
  have key := wLp_two (f1 := fun x : Mm × Int32 × Int32 => fX10_plan_B58 x.1 (nI m) (nI n) (nI p) (oI q) (if q = none then nI 0 else nI ns) x.2.1 x.2.2) (f2 := fun x : Mm × Int32 × Int32 × Int32 × Int32 => fX11_plan_B169 x.1 (nI m) (nI n) (nI p) (oI q) x.2.1 x.2.2.1 x.2.2.2.1 x.2.2.2.2)
    (fun t1 t2 => ∃ gC1 gR1 r, t1 = (gC1, r) ∧ t2 = (gR1, r) ∧ Rel gC1 gR1)
    (fun k s1 s2 => ∃ g1 g2 best bA bB, s1 = (g1, best, nI k + -nI 1) ∧ s2 = (g2, best, bA, bB, nI k + -nI 1) ∧ PB gC gR g1 g2 ∧ KP m p gC g1 best bA bB ∧ WV ns bA ∧ WV ns bB ∧ (k = 0 ∨ best ≠ -1) ∧ g2 5 = gR 5 ∧ g2 0 = gR 0) (ns + 1)
    (fun k s1 s2 hk ⟨g1, g2, best, bA, bB, a1, a2, a3, a4, a5, a6, a7, a8⟩ => by
      subst a1; subst a2
      left
      obtain ⟨n1, n2⟩ := a3.port h
      obtain ⟨g1', g2', best', bA', bB', r1, r2, r3, r4, r5, r6, r7, r8⟩ := inner_pr h ht ht' hc hn htn hp hq a3 (show k ≤ ns by omega) a4 a5 a6 a7 a8
      have nl : ¬ nI ns ≤ nI k + -nI 1 := fun z => by
        rw [cmpm (by omega) (by omega)] at z
        omega
      dsimp only
      unfold fX10_plan_B58 fX11_plan_B169
      rw [n1, n2, if_neg nl, if_neg nl, wLe_e, wLe_e]
      exact ⟨_, _, r1, r2, g1', g2', best', bA', bB', rfl, rfl, r3, r4, r5, r6, Or.inr r7, r8⟩)
    (fun s1 s2 ⟨g1, g2, best, bA, bB, a1, a2, a3, a4, a5, a6, a7, a8, a9⟩ => by
      subst a1; subst a2
      obtain ⟨n1, n2⟩ := a3.port h
      have nb := a7.resolve_left (by omega)
      have yl : nI ns ≤ nI (ns + 1) + -nI 1 := (cmpm (by omega) (by omega)).mpr (by omega)
      obtain ⟨z1, z2, z3, z4, z5⟩ : (∃ n : Nat, n < 2 ^ 31 ∧ best = nI n) ∧ g1 23 0 0 0 = nI m ∧ g1 23 0 0 1 = nI p ∧ g1 23 0 0 2 = bA ∧ g1 23 0 0 3 = bB := by
        rcases a4 with ⟨z, -⟩ | z
        · exact (nb z).elim
        · exact z
      dsimp only
      unfold fX10_plan_B58 fX11_plan_B169
      rw [n1, n2, if_pos yl, if_pos yl, wEx_e]
      simp only [wLe_e]
      rw [wGi_ok (show p < 12 by omega) (by omega), nI_clamp (show p < 2 ^ 31 by omega)]
      -- whatever is written of the plan, all else is as it was
      have fin : ∀ g3 : Mm, (∀ t, t ≠ 0 → t ≠ 5 → g3 t = g2 t) → (∀ j, j ≠ 8 → g3 0 0 0 j = g2 0 0 0 j) → g3 0 0 0 8 = nI m → g3 5 0 0 p = bA → (∀ q', q = some q' → g3 5 0 0 q' = bB) → Rel g1 g3 := fun g3 e1 e2 e3 e4 e5 => by
        refine ⟨nv, nf, ns, h.pl a3.1 (fun t x0 x1 x5 x20 x21 x22 => (e1 t x0 x5).trans (a3.2.1 t x1 x20 x21 x22)) (fun j hj => (e2 j hj).trans (by rw [a9])) (fun k hk => by rw [e1 1 (by decide) (by decide)]; exact a3.2.2.1 k hk) ⟨m, hm, z2, e3, fun v hv hbv => ?_⟩⟩
        rw [z3, z4, z5]
        by_cases vp : v = p
        · subst vp
          rw [if_pos rfl, e4]
          exact ⟨rfl, a5⟩
        · have qv := (hb v hv hbv).resolve_left vp
          rw [if_neg (show ¬ nI v = nI p from fun e => vp (by rwa [nI_eq (by omega) (by omega)] at e)), e5 v qv]
          exact ⟨rfl, a6⟩
      cases q with
      | none =>
        rw [if_pos (show oI none = (-1 : Int32) from rfl), wEx_e]
        exact ⟨_, _, rfl, rfl, g1, _, best, rfl, rfl, fin _ (fun t x0 x5 => by rw [st_kind x5, st_kind x0]) (fun j hj => by rw [st_ne (by omega), st_ne (by omega)]) (by rw [st_ne (by omega), st_eq]) st_eq (fun q' e => by cases e)⟩
      | some q' =>
        obtain ⟨hq1, hq2⟩ := hq q' rfl
        rw [if_neg (show ¬ oI (some q') = (-1 : Int32) from fun e => (nI_m1 (show q' < 2 ^ 31 by omega)).mp e), show oI (some q') = nI q' from rfl, wGi_ok (show q' < 12 by omega) (by omega), nI_clamp (show q' < 2 ^ 31 by omega), wEx_e]
        refine ⟨_, _, rfl, rfl, g1, _, best, rfl, rfl, fin _ (fun t x0 x5 => by rw [st_kind x5, st_kind x5, st_kind x0]) (fun j hj => by rw [st_ne (by omega), st_ne (by omega), st_ne (by omega)]) (by rw [st_ne (by omega), st_ne (by omega), st_eq]) (by rw [st_ne (by omega), st_eq]) (fun q'' e => ?_)⟩
        have e := Option.some.inj e
        subst e
        exact st_eq)
    (k := 0) (Nat.zero_le _) (s1 := (gC, -1, -1)) (s2 := (g0, -1, -1, -1, -1)) ⟨gC, g0, -1, -1, -1, rfl, rfl, pb0, Or.inl ⟨rfl, rfl⟩, Or.inl rfl, Or.inl rfl, Or.inl rfl, l2 5 (by decide), l2 0 (by decide)⟩ (u1 := 1000) (u2 := 1000) (by omega) (by omega)
  obtain ⟨t1, t2, r1, r2, gC1, gR1, r, b1, b2, b3⟩ := key
  subst b1; subst b2
  exact ⟨gC1, gR1, r, r1, r2, b3⟩
theorem pcn_fbit (m : Nat) : ∀ k, pcn m k = 0 ↔ fbit m k = none := by
  intro k
  induction k with
  | zero => exact ⟨fun _ => rfl, fun _ => rfl⟩
  | succ k ih =>
    show pcn m k + (if m.testBit k = true then 1 else 0) = 0 ↔ (match fbit m k with
      | some p => some p
      | none => if m.testBit k = true then some k else none) = none
    by_cases c : m.testBit k = true
    · rw [if_pos c]
      cases hf : fbit m k with
      | none => simp [c]
      | some p => simp
    · rw [if_neg c]
      cases hf : fbit m k with
      | none => rw [hf] at ih; simp [c, ih]
      | some p => rw [hf] at ih; simp [ih]
/-- how the reference looks at the set first -/
theorem looks_pr {gC gR : Mm} {nv nf ns m : Nat} {b : Int32} (h : PS 0 gC gR nv nf ns) (hm : m < 4096) (T : Option (Mm × Int32)) (hT : ∀ z : Int32, (z = 0 ∨ z = 1) → (z = 1 ↔ ∀ v, v < nv → m.testBit v = true → fX11_isAhead gR (nI v) = some 1) →
    (if (2 : Int32) < nI (pcn m nv) then (some (gR, (-2 : Int32))) else (wBd (fX11_in gR b (1 : Int32) (40 : Int32)) fun y18 => if y18 = 0 then (some (gR, (-2 : Int32))) else (if z = 0 then (some (gR, (-3 : Int32))) else (wGi (480 : Int32) 510 (if ((gR 1 0 0 ((480 : Int32)).toNatClampNeg) + b) ≤ (9999 : Int32) then (wBd (fX11_lays gR (0 : Int32)) fun g25 => fX11_plan_L169 g25 (nI m) b (oI (fbit m nv)) (oI (sbit m nv)) (-1) (-1) (-1) (-1)) else (some (gR, (-4 : Int32)))))))) = T) (hs : ∃ x, T = some x) : fX11_plan_L30 gR (nI m) b (-1) (-1) 0 1 0 = T := by
  have hv12 := h.nv12
  have e31 : (31 : Int32) = nI 31 := rfl
  obtain ⟨x, hx⟩ := hs
  subst hx
  obtain ⟨t, p1, p2⟩ := wLp_one (f := fun q : Mm × Int32 × Int32 × Int32 × Int32 × Int32 => fX11_plan_B30 q.1 (nI m) b q.2.1 q.2.2.1 q.2.2.2.1 q.2.2.2.2.1 q.2.2.2.2.2) (fun t => t = x) (fun k s => ∃ z, s = (gR, oI (fbit m k), oI (sbit m k), nI (pcn m k), z, nI k) ∧ (z = 0 ∨ z = 1) ∧ (z = 1 ↔ ∀ v, v < k → m.testBit v = true → fX11_isAhead gR (nI v) = some 1)) nv
    (fun k s hk ⟨z, a1, a2, a3⟩ => by
      subst a1
      left
      have bt := bit12 m hm k (by omega)
      have pl := pcn_le m k
      dsimp only
      unfold fX11_plan_B30 fX11_plan_b62 fX11_plan_b75 fX11_plan_b97 fX11_plan_b98 fX11_plan_b100
      rw [h.2.1.1, if_neg (nI_ge hk (by omega)), e31]
      by_cases c : m.testBit k = true
      · have p' : pcn m (k + 1) = pcn m k + 1 := by
          show pcn m k + (if m.testBit k = true then 1 else 0) = _
          rw [if_pos c]
        have f' : oI (fbit m (k + 1)) = if nI (pcn m k) = 0 then nI k else oI (fbit m k) := by
          show oI (match fbit m k with
            | some p => some p
            | none => if m.testBit k = true then some k else none) = _
          by_cases z0 : pcn m k = 0
          · rw [(pcn_fbit m k).mp z0, if_pos c, if_pos (show nI (pcn m k) = 0 by rw [z0]; rfl)]; rfl
          · rw [if_neg (show ¬ nI (pcn m k) = 0 from nI_ne0 (by omega) (by omega))]
            cases hf : fbit m k with
            | none => exact (z0 ((pcn_fbit m k).mpr hf)).elim
            | some p => rfl
        have s' : oI (sbit m (k + 1)) = if nI (pcn m k) = 1 then nI k else oI (sbit m k) := by
          show oI (if m.testBit k = true ∧ pcn m k = 1 then some k else sbit m k) = _
          by_cases z1 : pcn m k = 1
          · rw [if_pos ⟨c, z1⟩, if_pos (show nI (pcn m k) = 1 by rw [z1]; rfl)]; rfl
          · rw [if_neg (fun q => z1 q.2), if_neg (show ¬ nI (pcn m k) = 1 from fun e => z1 (by rwa [show (1 : Int32) = nI 1 from rfl, nI_eq (by omega) (by omega)] at e))]
        obtain ⟨y, y1, y2, y3⟩ := ahead_pr h hk
        rw [if_pos (show (nI m >>> (nI k &&& nI 31)) &&& (1 : Int32) = 1 from bt.mpr c)]
        simp only [wLe_e, nI_1, y3, wBd_e]
        -- ahead, all so far and this one
        have zz : ∃ z' : Int32, (z' = 0 ∨ z' = 1) ∧ (z' = 1 ↔ ∀ v, v < k + 1 → m.testBit v = true → fX11_isAhead gR (nI v) = some 1) ∧ z' = if z = 0 then 0 else if y = 0 then 0 else 1 := by
          by_cases z0 : z = 0
          · rw [if_pos z0]
            refine ⟨0, Or.inl rfl, ⟨fun e => absurd e (by decide), fun q => ?_⟩, rfl⟩
            have := a3.mpr fun v hv hb => q v (by omega) hb
            rw [z0] at this
            exact absurd this (by decide)
          · have z1 : z = 1 := a2.resolve_left z0
            rw [if_neg z0]
            rcases y1 with rfl | rfl
            · rw [if_pos rfl]
              refine ⟨0, Or.inl rfl, ⟨fun e => absurd e (by decide), fun q => ?_⟩, rfl⟩
              have := q k (by omega) c
              rw [y3] at this
              exact absurd this (by decide)
            · rw [if_neg c10]
              refine ⟨1, Or.inr rfl, ⟨fun _ v hv hb => ?_, fun _ => rfl⟩, rfl⟩
              by_cases e : v = k
              · subst e; exact y3
              · exact a3.mp z1 v (by omega) hb
        obtain ⟨z', w1, w2, w3⟩ := zz
        refine ⟨(gR, oI (fbit m (k + 1)), oI (sbit m (k + 1)), nI (pcn m (k + 1)), z', nI (k + 1)), ?_, z', rfl, w1, w2⟩
        rw [f', s', p', w3]
        by_cases x0 : nI (pcn m k) = 0
        · have x1 : ¬ nI (pcn m k) = 1 := fun e => absurd (x0.symm.trans e) (by decide)
          by_cases z0 : z = 0
          · simp only [if_pos x0, if_neg x1, if_pos z0]
          · by_cases y0 : y = 0
            · simp only [if_pos x0, if_neg x1, if_neg z0, if_pos y0]
            · simp only [if_pos x0, if_neg x1, if_neg z0, if_neg y0]
        · by_cases x1 : nI (pcn m k) = 1
          · by_cases z0 : z = 0
            · simp only [if_neg x0, if_pos x1, if_pos z0]
            · by_cases y0 : y = 0
              · simp only [if_neg x0, if_pos x1, if_neg z0, if_pos y0]
              · simp only [if_neg x0, if_pos x1, if_neg z0, if_neg y0]
          · by_cases z0 : z = 0
            · simp only [if_neg x0, if_neg x1, if_pos z0]
            · by_cases y0 : y = 0
              · simp only [if_neg x0, if_neg x1, if_neg z0, if_pos y0]
              · simp only [if_neg x0, if_neg x1, if_neg z0, if_neg y0]
      · have p' : pcn m (k + 1) = pcn m k := by
          show pcn m k + (if m.testBit k = true then 1 else 0) = _
          rw [if_neg c, Nat.add_zero]
        have f' : fbit m (k + 1) = fbit m k := by
          show (match fbit m k with
            | some p => some p
            | none => if m.testBit k = true then some k else none) = _
          rw [if_neg c]
          cases fbit m k <;> rfl
        have s' : sbit m (k + 1) = sbit m k := if_neg fun q => c q.1
        rw [if_neg (show ¬ (nI m >>> (nI k &&& nI 31)) &&& (1 : Int32) = 1 from fun q => c (bt.mp q)), wLe_e, nI_1]
        refine ⟨_, rfl, z, by rw [p', f', s'], a2, a3.trans ⟨fun q v hv hb => ?_, fun q v hv hb => q v (by omega) hb⟩⟩
        by_cases e : v = k
        · subst e; exact (c hb).elim
        · exact q v (by omega) hb)
    (fun s ⟨z, a1, a2, a3⟩ => by
      subst a1
      have := hT z a2 a3
      dsimp only
      unfold fX11_plan_B30
      rw [h.2.1.1, if_pos (nI_le (Nat.le_refl _) (by omega))]
      simp only [wLe_e]
      rw [this, wEx_e]
      exact ⟨_, rfl, rfl⟩)
    (k := 0) (Nat.zero_le _) (s := (gR, -1, -1, 0, 1, 0)) ⟨1, rfl, Or.inr rfl, ⟨fun _ v hv => absurd hv (by omega), fun _ => rfl⟩⟩ (u := 1000) (by omega)
  subst p2
  exact p1
theorem shl_ev : ∀ nv, nv < 13 → ((1 : Int32) <<< (nI nv &&& 31)) = nI (2 ^ nv) := by decide +kernel
theorem ushr_k : ∀ nv, nv < 13 → (((nI nv).toUInt32 &&& Int32.toUInt32 31).toBitVec % 32).toNat = nv := by decide +kernel
theorem sc_plan {gC gR : Mm} (h : Rel gC gR) (a b : Int32) : ∃ gC1 gR1 r, fX10_plan gC a b = some (gC1, r) ∧ fX11_plan gR a b = some (gR1, r) ∧ Rel gC1 gR1 := by
  obtain ⟨nv, nf, ns, h⟩ := h
  have hP := h.1
  have hv12 := hP.nv12
  have stay := fun r : Int32 => stays (r := r) (⟨nv, nf, ns, h⟩ : Rel gC gR)
  obtain ⟨t, ht, et', hc⟩ := h.ct
  have et : gR 1 0 0 480 = nI t := hP.e9.symm.trans et'
  have m10 : ¬ (-1 : Int32) = 0 := by decide
  have p12 := pow12 hv12
  unfold fX10_plan fX11_plan fX10_refusedPlan
  rw [hP.1.2.1, hP.2.1.1, shl_ev nv (by omega)]
  have pos : 0 < 2 ^ nv := Nat.pow_pos (by omega)
  rcases posneg a with ha | ⟨m, hm, rfl⟩
  · -- a set below 0
    have az : ¬ a = 0 := neg_ne (n := 0) ha (by omega)
    have sh : ¬ (a.toUInt32 >>> ((nI nv).toUInt32 &&& Int32.toUInt32 31)).toInt32 = 0 := fun e => by
      have u := pk_ushr a (nI nv) nv (ushr_k nv (by omega))
      rw [e] at u
      have u : 0 = a.toBitVec.toNat / 2 ^ nv := u
      have big : 2 ^ 31 ≤ a.toBitVec.toNat := by
        have hn := Int32.lt_iff_toInt_lt.mp ha
        have e0 : (0 : Int32).toInt = 0 := rfl
        have ti : a.toInt = a.toBitVec.toInt := rfl
        rw [ti, e0, BitVec.toInt_eq_toNat_cond] at hn
        split at hn <;> omega
      have := (Nat.div_eq_zero_iff).mp u.symm
      omega
    rw [if_neg az, if_neg sh, wBd_e, if_neg m10, if_pos (show a ≤ 0 from neg_le (n := 0) ha (by omega))]
    exact stay _
  · by_cases m0 : m = 0
    · subst m0
      rw [if_pos (show nI 0 = 0 from rfl), wBd_e, if_neg m10, if_pos (show nI 0 ≤ 0 by decide)]
      exact stay _
    · rw [if_neg (show ¬ nI m = 0 from nI_ne0 (by omega) hm), if_neg (show ¬ nI m ≤ 0 from nI_nle (by omega) hm), pk_ushrN (by omega) (nI nv) nv (ushr_k nv (by omega))]
      by_cases mb : m < 2 ^ nv
      · have hm4 : m < 4096 := by omega
        rw [if_pos (show nI (m / 2 ^ nv) = 0 by rw [Nat.div_eq_of_lt mb]; rfl), if_pos (nI_lt mb (by omega))]
        simp only [wLe_e]
        have pl := pcn_le m nv
        have pc : fX103_bitCount (nI m) = some (nI (pcn m nv)) := by
          rw [pc_all hm4]
          have := pcn_hi (m := m) (k := nv) (j := 12 - nv) mb
          rw [show nv + (12 - nv) = 12 by omega] at this
          rw [this]
        obtain ⟨z, z1, z2, z3⟩ := aheadC (i := 0) hP hm4
        have zu : ∀ z' : Int32, (z' = 0 ∨ z' = 1) → (z' = 1 ↔ ∀ v, v < nv → m.testBit v = true → fX11_isAhead gR (nI v) = some 1) → z' = z := fun z' q1 q2 => by
          rcases q1 with rfl | rfl
          · rcases z1 with rfl | rfl
            · rfl
            · exact absurd (q2.mpr (z3.mp rfl)) (by decide)
          · rcases z1 with rfl | rfl
            · exact absurd (z3.mpr (q2.mp rfl)) (by decide)
            · rfl
        -- the number of ticks is refused
        have badn : fX10_refusedAhead gC b 40 = some (-2) → fX11_in gR b 1 40 = some 0 → ∃ gC1 gR1 r, (wBd (wBd (fX10_refusedAhead gC b (40 : Int32)) fun y4 => if y4 = (-2 : Int32) then (some (-2 : Int32)) else (wBd (fX103_bitCount (nI m)) fun y7 => if y7 ≤ (2 : Int32) then (wBd (fX10_areAhead gC (nI m)) fun y10 => if y10 = 0 then (some (-3 : Int32)) else (some y4)) else (some (-2 : Int32)))) fun y2 => if y2 = 0 then (wBd (fX10_lowest gC (nI m)) fun y5 => wBd (fX10_lowest gC ((nI m) &&& (((1 : Int32) <<< (y5 &&& 31)) ^^^ (-1 : Int32)))) fun y7 => if 0 ≤ y7 then (fX10_plan_b50 gC (nI m) b y5 y7 (gC 9 0 0 1)) else (fX10_plan_b50 gC (nI m) b y5 y7 (0 : Int32))) else (some (gC, y2))) = some (gC1, r) ∧ fX11_plan_L30 gR (nI m) b (-1) (-1) 0 1 0 = some (gR1, r) ∧ Rel gC1 gR1 := fun e1 e2 => by
          rw [e1, wBd_e, if_pos rfl, wBd_e, if_neg (by decide)]
          rw [looks_pr (b := b) hP hm4 (some (gR, -2)) (fun z' q1 q2 => by
            by_cases c : (2 : Int32) < nI (pcn m nv)
            · rw [if_pos c]
            · rw [if_neg c, e2, wBd_e, if_pos rfl]) ⟨_, rfl⟩]
          exact stay _
        rcases posneg b with hb | ⟨n, hn, rfl⟩
        · exact badn (refused_neg hb) (in_neg (lo := 1) hb (by omega))
        · have er := refused_ev (most := 40) et' ht hn (by omega)
          have ei : fX11_in gR (nI n) 1 40 = some (if 1 ≤ n ∧ n ≤ 40 then 1 else 0) := in_ev (lo := 1) (hi := 40) hn (by omega) (by omega)
          by_cases cn : 1 ≤ n ∧ n ≤ 40
          · rw [if_pos cn] at er
            rw [if_pos cn] at ei
            rw [show fX10_refusedAhead gC (nI n) 40 = _ from er, wBd_e, if_neg (show ¬ (if t + n ≤ 9999 then (0 : Int32) else -4) = -2 by split <;> decide), pc, wBd_e]
            by_cases c2 : pcn m nv ≤ 2
            · have n2 : ¬ (2 : Int32) < nI (pcn m nv) := nI_nlt (a := 2) c2 (by omega)
              rw [if_pos (show nI (pcn m nv) ≤ (2 : Int32) from nI_le (b := 2) c2 (by omega)), z2, wBd_e]
              rcases z1 with rfl | rfl
              · rw [if_pos rfl, wBd_e, if_neg (by decide)]
                rw [looks_pr (b := nI n) hP hm4 (some (gR, -3)) (fun z' q1 q2 => by
                  rw [if_neg n2, ei, wBd_e, if_neg c10, if_pos (zu z' q1 q2)]) ⟨_, rfl⟩]
                exact stay _
              · rw [if_neg c10, wBd_e]
                by_cases d : t + n ≤ 9999
                · obtain ⟨p, f1, f2, f3, f4, f5, f6⟩ := bits_of hv12 mb m0 c2
                  have hq : ∀ q', sbit m nv = some q' → q' < nv ∧ p ≠ q' := fun q' e => by
                    rcases f6 with ⟨g, -⟩ | ⟨q, g1, g2, g3, -⟩
                    · rw [g] at e; cases e
                    · rw [g1] at e
                      injection e with e
                      subst e
                      exact ⟨g3, by omega⟩
                  have hbt : ∀ v, v < nv → m.testBit v = true → v = p ∨ sbit m nv = some v := fun v hv hb => by
                    rcases f6 with ⟨g, g4⟩ | ⟨q, g1, g2, g3, g4⟩
                    · exact Or.inl (g4 v hv hb)
                    · rcases g4 v hv hb with e | e
                      · exact Or.inl e
                      · exact Or.inr (by rw [g1, e])
                  obtain ⟨gC1, gR1, r, r1, r2, r3⟩ := outer_pr h et ht hc cn.2 d mb f2 hq hbt
                  have f1' : oI (fbit m nv) = nI p := by rw [f1]; rfl
                  rw [if_pos d, if_pos rfl, lowest_pr hP hm4, wBd_e, f1', f4, lowest_pr hP (Nat.lt_of_le_of_lt (Nat.sub_le m (2 ^ p)) hm4), wBd_e, f5]
                  rw [looks_pr (b := nI n) hP hm4 (some (gR1, r)) (fun z' q1 q2 => by
                    rw [if_neg n2, ei, wBd_e, if_neg c10, if_neg (by rw [zu z' q1 q2]; decide), i480f, c480f, et, if_pos ((tick9 ht (by omega)).mpr d), f1']
                    exact r2) ⟨_, rfl⟩]
                  have left : (if 0 ≤ oI (sbit m nv) then (fX10_plan_b50 gC (nI m) (nI n) (nI p) (oI (sbit m nv)) (gC 9 0 0 1)) else (fX10_plan_b50 gC (nI m) (nI n) (nI p) (oI (sbit m nv)) (0 : Int32))) = some (gC1, r) := by
                    cases hs : sbit m nv with
                    | none =>
                      rw [hs, if_pos rfl] at r1
                      rw [if_neg (show ¬ (0 : Int32) ≤ oI none by decide)]
                      exact r1
                    | some q' =>
                      obtain ⟨hq1, -⟩ := hq q' hs
                      rw [hs, if_neg (by simp)] at r1
                      rw [if_pos (show (0 : Int32) ≤ oI (some q') from nI_pos' (show q' < 2 ^ 31 by omega)), hP.1.1]
                      exact r1
                  rw [left]
                  exact ⟨gC1, gR1, r, rfl, rfl, r3⟩
                · rw [if_neg d, if_neg (by decide)]
                  rw [looks_pr (b := nI n) hP hm4 (some (gR, -4)) (fun z' q1 q2 => by
                    rw [if_neg n2, ei, wBd_e, if_neg c10, if_neg (by rw [zu z' q1 q2]; decide), i480f, c480f, et, if_neg (fun q => d ((tick9 ht (by omega)).mp q))]) ⟨_, rfl⟩]
                  exact stay _
            · have n2 : (2 : Int32) < nI (pcn m nv) := nI_lt (a := 2) (by omega) (by omega)
              rw [if_neg (show ¬ nI (pcn m nv) ≤ (2 : Int32) from nI_ge (a := 2) (by omega) (by omega)), wBd_e, if_neg (by decide)]
              rw [looks_pr (b := nI n) hP hm4 (some (gR, -2)) (fun z' q1 q2 => by rw [if_pos n2]) ⟨_, rfl⟩]
              exact stay _
          · rw [if_neg cn] at er ei
            exact badn er ei
      · have dv : m / 2 ^ nv ≠ 0 := fun e => mb ((Nat.div_eq_zero_iff.mp e).resolve_left (by omega))
        have dl : m / 2 ^ nv ≤ m := Nat.div_le_self _ _
        rw [if_neg (show ¬ nI (m / 2 ^ nv) = 0 from nI_ne0 (Nat.pos_of_ne_zero dv) (Nat.lt_of_le_of_lt dl hm)), wBd_e, if_neg m10, if_neg (nI_nlt (by omega) hm)]
        exact stay _
