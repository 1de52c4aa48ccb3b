-- ===== many ticks =====
theorem FrT.rf {i nv nf : Nat} {g : Mm} : FrT i nv nf g g := fun _ _ _ _ _ _ => rfl
theorem FrT.tr {i nv nf : Nat} {g g1 g2 : Mm} (h : FrT i nv nf g g1) (h' : FrT i nv nf g1 g2) : FrT i nv nf g g2 := fun t i' v j q q' => (h' t i' v j q q').trans (h t i' v j q q')
theorem RS.fT {i i' nv nf : Nat} {gC gR gC' gR' : Mm} (h : RS i gC gR) (hC : FrT i' nv nf gC gC') (hR : FrR gR gR') : RS i gC' gR' := by
  obtain ⟨t, ht, e1, e2, e3⟩ := h
  refine ⟨t, ht, (hC 9 i 0 4 (by unfold wrC; omega) (by omega)).trans e1, by rw [hR 0 (by decide) (by decide) (by decide)]; exact e2, e3.off (funext fun j => hC 6 t 0 j (by unfold wrC; omega) (by omega)) (funext fun j => hC 7 t 0 j (by unfold wrC; omega) (by omega)) (hR 7 (by decide) (by decide) (by decide)) (hR 8 (by decide) (by decide) (by decide))⟩
theorem VB.fT {i i' nv nv' nf : Nat} {g g' : Mm} (h : VB i g nv) (hC : FrT i' nv' nf g g') : VB i g' nv := fun v hv => by
  obtain ⟨e, he, q⟩ := h v hv
  exact ⟨e, he, (hC 19 i v 2 (by unfold wrC; omega) (by omega)).trans q⟩
/-- what stands after some ticks -/
def AF (i nv nf ns t : Nat) (gC gR a b : Mm) : Prop := PS i a b nv nf ns ∧ FrT i nv nf gC a ∧ FrR gR b ∧ b 1 0 0 480 = nI t ∧ CB i nv t a
theorem steps_pr {i nv nf ns t n : Nat} {gC gR : Mm} {τ1 τ2 : Type} {F1 : Mm → Int32 → Option ((Mm × Int32) ⊕ τ1)} {F2 : Mm → Int32 → Option ((Mm × Int32) ⊕ τ2)} (Q : τ1 → τ2 → Prop) (hi : i < 2) (h : PS i gC gR nv nf ns) (hr : RS i gC gR) (hb : VB i gC nv) (hc : CB i nv t gC) (ht : gR 1 0 0 480 = nI t) (hn : n ≤ 200) (htn : t + n ≤ 9999)
    (s1 : ∀ k g g', k < n → fX4_step g i = some g' → F1 g (nI k) = some (.inl (g', nI (k + 1)))) (s2 : ∀ k g g', k < n → fX11_ticks g = some g' → F2 g (nI k) = some (.inl (g', nI (k + 1))))
    (he : ∀ a b, AF i nv nf ns (t + n) gC gR a b → ∃ t1 t2, F1 a (nI n) = some (.inr t1) ∧ F2 b (nI n) = some (.inr t2) ∧ Q t1 t2) :
    ∃ t1 t2, wLp (fun q => F1 q.1 q.2) 1000 (gC, nI 0) = some t1 ∧ wLp (fun q => F2 q.1 q.2) 1000 (gR, nI 0) = some t2 ∧ Q t1 t2 := by
  refine wLp_two (f1 := fun q : Mm × Int32 => F1 q.1 q.2) (f2 := fun q : Mm × Int32 => F2 q.1 q.2) Q (fun k x1 x2 => AF i nv nf ns (t + k) gC gR x1.1 x2.1 ∧ x1.2 = nI k ∧ x2.2 = nI k) n ?_ ?_ (k := 0) (Nat.zero_le _) ⟨⟨h, FrT.rf, FrR.rf, ht, hc⟩, rfl, rfl⟩ (by omega) (by omega)
  · rintro k ⟨g1, x1⟩ ⟨g2, x2⟩ hk ⟨⟨a1, a2, a3, a4, a5⟩, e1, e2⟩
    dsimp only at a1 a2 a3 a4 a5 e1 e2
    subst e1; subst e2
    obtain ⟨a, b, r1, r2, r3, r4, r5, r6, r7⟩ := step_pr hi a1 (hr.fT a2 a3) (hb.fT a2) a5 a4 (by omega)
    exact Or.inl ⟨_, _, s1 k g1 a hk r1, s2 k g2 b hk r2, ⟨r3, a2.tr r4, a3.tr r5, by show b 1 0 0 480 = _; rw [r6, Nat.add_assoc], r7⟩, rfl, rfl⟩
  · rintro ⟨g1, x1⟩ ⟨g2, x2⟩ ⟨hA, e1, e2⟩
    dsimp only at hA e1 e2
    subst e1; subst e2
    exact he g1 g2 hA
theorem refused_ev {gC : Mm} {t n most : Nat} (ht : gC 9 0 0 0 = nI t) (ht' : t ≤ 10000) (hn : n < 2 ^ 31) (hm : most ≤ 200) : fX10_refusedAhead gC (nI n) (nI most) = some (if 1 ≤ n ∧ n ≤ most then (if t + n ≤ 9999 then 0 else -4) else -2) := by
  unfold fX10_refusedAhead
  by_cases c1 : n < 1
  · rw [if_pos (show nI n < (1 : Int32) from nI_lt (b := 1) c1 (by omega)), if_neg (by omega)]
  · rw [if_neg (show ¬ nI n < (1 : Int32) from nI_nlt (b := 1) (by omega) hn)]
    by_cases c2 : n ≤ most
    · rw [if_pos (nI_le c2 (by omega)), if_pos (show 1 ≤ n ∧ n ≤ most by omega), ht, nI_add]
      by_cases c3 : t + n ≤ 9999
      · rw [if_pos (show nI (t + n) ≤ (9999 : Int32) from nI_le (b := 9999) c3 (by omega)), if_pos c3]
      · rw [if_neg (show ¬ nI (t + n) ≤ (9999 : Int32) from nI_ge (a := 9999) (by omega) (by omega)), if_neg c3]
    · rw [if_neg (nI_ge (by omega) (by omega)), if_neg (by omega)]
theorem refused_neg {gC : Mm} {a m : Int32} (h : a < 0) : fX10_refusedAhead gC a m = some (-2) := if_pos (neg_lt (n := 1) h (by omega))
theorem i480f {β : Type} (f : Option β) : wGi (480 : Int32) 510 f = f := wGi_ok (n := 480) (by omega) (by omega)
theorem c480f : (480 : Int32).toNatClampNeg = 480 := nI_clamp (n := 480) (by omega)
theorem tick9 {t n : Nat} (ht' : t ≤ 10000) (hn : n ≤ 200) : (nI t + nI n ≤ (9999 : Int32)) ↔ (t + n ≤ 9999) := by
  rw [nI_add]
  exact nI_leI (b := 9999) (by omega) (by omega)
theorem stays {gC gR : Mm} {r : Int32} (h : Rel gC gR) : ∃ (gC1 gR1 : Mm) (r' : Int32), some (gC, r) = some (gC1, r') ∧ some (gR, r) = some (gR1, r') ∧ Rel gC1 gR1 := ⟨gC, gR, r, rfl, rfl, h⟩
theorem sc_run {gC gR : Mm} (h : Rel gC gR) (a : Int32) : ∃ gC1 gR1 r, fX10_run gC a = some (gC1, r) ∧ fX11_run gR a = some (gR1, r) ∧ Rel gC1 gR1 := by
  obtain ⟨nv, nf, ns, h⟩ := h
  have hP := h.1
  obtain ⟨t, ht, et', hc⟩ := h.ct
  have et : gR 1 0 0 480 = nI t := hP.e9.symm.trans et'
  have stay := fun r : Int32 => stays (r := r) (⟨nv, nf, ns, h⟩ : Rel gC gR)
  unfold fX10_run fX11_run
  rcases posneg a with ha | ⟨n, hn, rfl⟩
  · rw [refused_neg ha, wBd_e, if_neg (by decide), show fX11_in gR a 1 200 = some 0 from in_neg (lo := 1) ha (by omega), wBd_e, if_pos rfl]
    exact stay _
  · rw [show fX10_refusedAhead gC (nI n) 200 = _ from refused_ev (most := 200) et' ht hn (by omega), wBd_e, show fX11_in gR (nI n) 1 200 = _ from in_ev (lo := 1) (hi := 200) hn (by omega) (by omega), wBd_e]
    by_cases c : 1 ≤ n ∧ n ≤ 200
    · rw [if_pos c, if_pos c, if_neg c10, i480f, c480f, et]
      by_cases d : t + n ≤ 9999
      · rw [if_pos d, if_pos rfl, if_pos ((tick9 ht c.2).mpr d), wLe_e, wLe_e]
        obtain ⟨t1, t2, r1, r2, r3⟩ := steps_pr (F1 := fun g x => fX10_run_B17 g (nI n) x) (F2 := fun g x => fX11_run_B35 g (nI n) x) (fun t1 t2 => ∃ gC1 gR1 r, t1 = (gC1, r) ∧ t2 = (gR1, r) ∧ R3 gC1 gR1 nv nf ns) (by omega) hP h.rs h.2.1 hc et c.2 d
          (fun k g g' hk e => by unfold fX10_run_B17; rw [if_neg (nI_ge hk (by omega)), e, wBd_e, wLe_e, nI_1])
          (fun k g g' hk e => by unfold fX11_run_B35; rw [if_neg (nI_ge hk (by omega)), e, wBd_e, wLe_e, nI_1])
          (fun a b hA => by
            refine ⟨(a, a 9 0 0 0), (b, b 1 0 0 480), ?_, ?_, a, b, b 1 0 0 480, by rw [hA.1.e9], rfl, h.fw hA.1 (hA.2.1.fw (by omega)) hA.2.2.1.fv ⟨t + n, by omega, hA.1.e9.trans hA.2.2.2.1, hA.2.2.2.2⟩⟩
            · unfold fX10_run_B17; rw [if_pos (nI_le (Nat.le_refl _) (by omega)), wEx_e]
            · unfold fX11_run_B35; rw [if_pos (nI_le (Nat.le_refl _) (by omega)), i480f, c480f, wEx_e])
        obtain ⟨gC1, gR1, r, b1, b2, b3⟩ := r3
        subst b1; subst b2
        exact ⟨gC1, gR1, r, r1, r2, nv, nf, ns, b3⟩
      · rw [if_neg d, if_neg (by decide), if_neg (fun q => d ((tick9 ht c.2).mp q))]
        exact stay _
    · rw [if_neg c, if_neg (by decide), if_neg c, if_pos rfl]
      exact stay _
-- ===== a port becomes another one =====
theorem wCp_off {g : Mm} {t i v t1 i1 v1 t' i' v' j' : Nat} {a b c : Int32} (h : ¬ (t' = t1 ∧ i' = i1 ∧ v' = v1)) : wCp g t i v t1 i1 v1 a b c t' i' v' j' = g t' i' v' j' := if_neg h
theorem wCp_on {g : Mm} {t i v t1 i1 v1 j n : Nat} (hn : n < 2 ^ 31) (hj : j < n) : wCp g t i v t1 i1 v1 0 0 (nI n) t1 i1 v1 j = g t i v j := by
  unfold wCp
  rw [if_pos ⟨rfl, rfl, rfl⟩, nI_clamp hn, show (0 : Int32).toNatClampNeg = 0 from rfl, sb_cpy0 hj]
theorem wCk_ok {n m : Nat} (h : n ≤ m) (hm : m < 2 ^ 31) : wCk 0 0 (nI n) m m := ⟨by decide, by decide, nI_pos (by omega), by rw [nI_clamp (by omega), show (0 : Int32).toNatClampNeg = 0 from rfl]; omega, by rw [nI_clamp (by omega), show (0 : Int32).toNatClampNeg = 0 from rfl]; omega⟩
theorem become_v {g : Mm} {v : Nat} : ∃ g', fX9_become g 1 v 0 v = some g' ∧ (∀ t i' v' j, ¬ (i' = 1 ∧ v' = v ∧ 19 ≤ t ∧ t ≤ 21) → g' t i' v' j = g t i' v' j) ∧ (∀ j, j < 13 → g' 19 1 v j = g 19 0 v j) ∧ (∀ j, j < 8 → g' 20 1 v j = g 20 0 v j) ∧ (∀ j, j < 9 → g' 21 1 v j = g 21 0 v j) := by
  have k1 : wCk 0 0 8 8 8 := wCk_ok (n := 8) (by omega) (by omega)
  have k2 : wCk 0 0 9 9 9 := wCk_ok (n := 9) (by omega) (by omega)
  unfold fX9_become
  simp (disch := omega) only [wLe_e, wGd_ok k1, wGd_ok k2, st_ne]
  refine ⟨_, rfl, fun t i' v' j q => ?_, fun j hj => ?_, fun j hj => ?_, fun j hj => ?_⟩
  · rw [wCp_off (by omega), wCp_off (by omega)]
    simp (disch := omega) only [st_ne]
  · rw [wCp_off (by omega), wCp_off (by omega)]
    rcases (show j = 0 ∨ j = 1 ∨ j = 2 ∨ j = 3 ∨ j = 4 ∨ j = 5 ∨ j = 6 ∨ j = 7 ∨ j = 8 ∨ j = 9 ∨ j = 10 ∨ j = 11 ∨ j = 12 by omega) with rfl | rfl | rfl | rfl | rfl | rfl | rfl | rfl | rfl | rfl | rfl | rfl | rfl <;> simp (disch := omega) only [st_eq, st_ne]
  · rw [wCp_off (by omega)]
    refine (wCp_on (n := 8) (by omega) hj).trans ?_
    simp (disch := omega) only [st_ne]
  · refine (wCp_on (n := 9) (by omega) hj).trans ?_
    rw [wCp_off (by omega)]
    simp (disch := omega) only [st_ne]
theorem become_f {g : Mm} {f : Nat} : ∃ g', fX1_become g 1 f 0 f = some g' ∧ (∀ t i' v' j, ¬ (i' = 1 ∧ v' = f ∧ t = 22) → g' t i' v' j = g t i' v' j) ∧ (∀ j, j < 6 → g' 22 1 f j = g 22 0 f j) := by
  unfold fX1_become
  simp (disch := omega) only [wLe_e, st_ne]
  refine ⟨_, rfl, fun t i' v' j q => ?_, fun j hj => ?_⟩
  · simp (disch := omega) only [st_ne]
  · rcases (show j = 0 ∨ j = 1 ∨ j = 2 ∨ j = 3 ∨ j = 4 ∨ j = 5 by omega) with rfl | rfl | rfl | rfl | rfl | rfl <;> simp (disch := omega) only [st_eq, st_ne]
/-- only the port aside has changed -/
def OA (g g' : Mm) : Prop := ∀ t i' v j, ¬ (i' = 1 ∧ 9 ≤ t ∧ t ≤ 22) → g' t i' v j = g t i' v j
theorem OA.rf {g : Mm} : OA g g := fun _ _ _ _ _ => rfl
theorem OA.tr {g g1 g2 : Mm} (h : OA g g1) (h' : OA g1 g2) : OA g g2 := fun t i v j q => (h' t i v j q).trans (h t i v j q)
theorem OA.st {g g1 : Mm} {t v j : Nat} {x : Int32} (h : OA g g1) (ht : 9 ≤ t ∧ t ≤ 22) : OA g (st g1 t 1 v j x) := fun t' i' v' j' q => (st_ne (by omega)).trans (h t' i' v' j' q)
theorem OA.cp {g g1 : Mm} {t i v t1 v1 : Nat} {a b c : Int32} (h : OA g g1) (ht : 9 ≤ t1 ∧ t1 ≤ 22) : OA g (wCp g1 t i v t1 1 v1 a b c) := fun t' i' v' j' q => (wCp_off (by omega)).trans (h t' i' v' j' q)
theorem OA.ps {gC gR g' : Mm} {nv nf ns : Nat} (h : PS 0 gC gR nv nf ns) (k : OA gC g') : PS 0 g' gR nv nf ns := h.frm (fun t v j _ _ _ => k t 0 v j (by omega)) (fun _ _ _ => rfl) (fun _ _ => rfl)
theorem PS.move {gC g' gR : Mm} {nv nf ns : Nat} (h : PS 0 gC gR nv nf ns) (c9 : ∀ j, j ≤ 3 → g' 9 1 0 j = gC 9 0 0 j) (c10 : ∀ j, j < 9 → g' 10 1 0 j = gC 10 0 0 j) (c11 : ∀ j, j < 5 → g' 11 1 0 j = gC 11 0 0 j) (c12 : ∀ j, j < 6 → g' 12 1 0 j = gC 12 0 0 j) (c13 : ∀ j, j < 6 → g' 13 1 0 j = gC 13 0 0 j) (c14 : ∀ j, j < 2 → g' 14 1 0 j = gC 14 0 0 j) (c15 : ∀ j, j < 2 → g' 15 1 0 j = gC 15 0 0 j)
    (c19 : ∀ v, v < nv → ∀ j, j < 13 → g' 19 1 v j = gC 19 0 v j) (c20 : ∀ v, v < nv → ∀ j, j < 8 → g' 20 1 v j = gC 20 0 v j) (c21 : ∀ v, v < nv → ∀ j, j < 9 → g' 21 1 v j = gC 21 0 v j) (c22 : ∀ f, f < nf → ∀ j, j < 6 → g' 22 1 f j = gC 22 0 f j) : PS 1 g' gR nv nf ns := by
  have hs6 := h.ns6
  obtain ⟨⟨a1, a2, a3⟩, hb, hE, hU, hP, hK⟩ := h
  refine ⟨⟨(c9 1 (by omega)).trans a1, (c9 2 (by omega)).trans a2, (c9 3 (by omega)).trans a3⟩, hb, ?_, ?_, hP, hK⟩
  · intro t v j n q
    refine Eq.trans ?_ (hE t v j n q)
    unfold ixR at q
    rcases q with ⟨rfl, rfl, rfl, _⟩ | ⟨rfl, rfl, q, _⟩ | ⟨rfl, rfl, q', q, _⟩ | ⟨rfl, rfl, q, _⟩ | ⟨rfl, rfl, q, _⟩ | ⟨rfl, rfl, q, _⟩ | ⟨rfl, rfl, q, _⟩ | ⟨rfl, rfl, q, _⟩ | ⟨rfl, hv, q, _⟩ | ⟨rfl, hv, rfl, _⟩ | ⟨rfl, hv, rfl, _⟩ | ⟨rfl, hv, q, _⟩ | ⟨rfl, hv, q, _⟩
    · exact c9 0 (by omega)
    · exact c10 j (by omega)
    · exact c10 j (by omega)
    · exact c11 j q
    · exact c12 j (by omega)
    · exact c13 j (by omega)
    · exact c14 j q
    · exact c15 j q
    · exact c19 v hv j (by omega)
    · exact c19 v hv 4 (by omega)
    · exact c19 v hv 5 (by omega)
    · exact c21 v hv j q
    · exact c22 v hv j q
  · intro v hv
    obtain ⟨⟨m, h1, h2, h3⟩, h4⟩ := hU v hv
    rw [c19 v hv 12 (by omega)]
    refine ⟨⟨m, h1, (c19 v hv 10 (by omega)).trans h2, fun a ha => ?_⟩, h4⟩
    rw [c20 v hv a ha]
    exact h3 a ha
theorem become_pr {gC gR : Mm} {nv nf ns : Nat} (h : PS 0 gC gR nv nf ns) (hr : RS 0 gC gR) (hb : VB 0 gC nv) : ∃ gC', fX4_become gC 1 0 = some gC' ∧ PS 1 gC' gR nv nf ns ∧ OA gC gC' ∧ RS 1 gC' gR ∧ VB 1 gC' nv := by
  have hv12 := h.nv12
  have hf16 := h.nf16
  obtain ⟨t, ht, e1, e2, e3⟩ := hr
  have k9 : wCk 0 0 9 9 9 := wCk_ok (n := 9) (by omega) (by omega)
  have k5 : wCk 0 0 5 5 5 := wCk_ok (n := 5) (by omega) (by omega)
  have k6 : wCk 0 0 6 6 6 := wCk_ok (n := 6) (by omega) (by omega)
  have k2 : wCk 0 0 2 2 2 := wCk_ok (n := 2) (by omega) (by omega)
  unfold fX4_become
  simp (disch := omega) only [wLe_e, wGd_ok k9, wGd_ok k5, wGd_ok k6, wGd_ok k2, st_ne, e1, wGr_ok ht]
  generalize hg0 : wCp _ 15 0 0 15 1 0 0 0 2 = g0
  have o0 : OA gC g0 := by
    rw [← hg0]
    exact ((((((((((OA.rf.st (by omega)).st (by omega)).st (by omega)).st (by omega)).st (by omega)).cp (by omega)).cp (by omega)).cp (by omega)).cp (by omega)).cp (by omega)).cp (by omega)
  have q9 : (∀ j, j ≤ 3 → g0 9 1 0 j = gC 9 0 0 j) ∧ g0 9 1 0 4 = nI (t + 1) := by
    rw [← hg0]
    refine ⟨fun j hj => ?_, ?_⟩
    · rw [wCp_off (by omega), wCp_off (by omega), wCp_off (by omega), wCp_off (by omega), wCp_off (by omega), wCp_off (by omega)]
      rcases (show j = 0 ∨ j = 1 ∨ j = 2 ∨ j = 3 by omega) with rfl | rfl | rfl | rfl <;> simp (disch := omega) only [st_eq, st_ne]
    · rw [wCp_off (by omega), wCp_off (by omega), wCp_off (by omega), wCp_off (by omega), wCp_off (by omega), wCp_off (by omega), st_eq]
  have q10 : ∀ j, j < 9 → g0 10 1 0 j = gC 10 0 0 j := fun j hj => by
    rw [← hg0, wCp_off (by omega), wCp_off (by omega), wCp_off (by omega), wCp_off (by omega), wCp_off (by omega)]
    exact (wCp_on (n := 9) (by omega) hj).trans (by simp (disch := omega) only [st_ne])
  have q11 : ∀ j, j < 5 → g0 11 1 0 j = gC 11 0 0 j := fun j hj => by
    rw [← hg0, wCp_off (by omega), wCp_off (by omega), wCp_off (by omega), wCp_off (by omega)]
    refine (wCp_on (n := 5) (by omega) hj).trans ?_
    rw [wCp_off (by omega)]
    simp (disch := omega) only [st_ne]
  have q12 : ∀ j, j < 6 → g0 12 1 0 j = gC 12 0 0 j := fun j hj => by
    rw [← hg0, wCp_off (by omega), wCp_off (by omega), wCp_off (by omega)]
    refine (wCp_on (n := 6) (by omega) hj).trans ?_
    rw [wCp_off (by omega), wCp_off (by omega)]
    simp (disch := omega) only [st_ne]
  have q13 : ∀ j, j < 6 → g0 13 1 0 j = gC 13 0 0 j := fun j hj => by
    rw [← hg0, wCp_off (by omega), wCp_off (by omega)]
    refine (wCp_on (n := 6) (by omega) hj).trans ?_
    rw [wCp_off (by omega), wCp_off (by omega), wCp_off (by omega)]
    simp (disch := omega) only [st_ne]
  have q14 : ∀ j, j < 2 → g0 14 1 0 j = gC 14 0 0 j := fun j hj => by
    rw [← hg0, wCp_off (by omega)]
    refine (wCp_on (n := 2) (by omega) hj).trans ?_
    rw [wCp_off (by omega), wCp_off (by omega), wCp_off (by omega), wCp_off (by omega)]
    simp (disch := omega) only [st_ne]
  have q15 : ∀ j, j < 2 → g0 15 1 0 j = gC 15 0 0 j := fun j hj => by
    rw [← hg0]
    refine (wCp_on (n := 2) (by omega) hj).trans ?_
    rw [wCp_off (by omega), wCp_off (by omega), wCp_off (by omega), wCp_off (by omega), wCp_off (by omega)]
    simp (disch := omega) only [st_ne]
  clear hg0
  -- the feeds, behind the visits
  have feeds : ∀ g : Mm, OA gC g → g 9 1 0 3 = nI nf → ∃ g', fX4_become_L160 g 1 0 0 = some g' ∧ OA gC g' ∧ (∀ t i' v j, t ≠ 22 → g' t i' v j = g t i' v j) ∧ ∀ f, f < nf → ∀ j, j < 6 → g' 22 1 f j = gC 22 0 f j := by
    intro g og n9
    obtain ⟨g', p1, p2⟩ := wLp_one (f := fun q : Mm × Int32 => fX4_become_B160 q.1 1 0 q.2) (fun g' => OA gC g' ∧ (∀ t i' v j, t ≠ 22 → g' t i' v j = g t i' v j) ∧ ∀ f, f < nf → ∀ j, j < 6 → g' 22 1 f j = gC 22 0 f j)
      (fun k s => ∃ g1, s = (g1, nI k) ∧ OA gC g1 ∧ (∀ t i' v j, t ≠ 22 → g1 t i' v j = g t i' v j) ∧ ∀ f, f < k → ∀ j, j < 6 → g1 22 1 f j = gC 22 0 f j) nf
      (fun k s hk ⟨g1, a1, a2, a3, a4⟩ => by
        subst a1
        left
        obtain ⟨g2, b1, b2, b3⟩ := become_f (g := g1) (f := k)
        dsimp only
        unfold fX4_become_B160
        rw [a3 9 1 0 3 (by omega), n9, if_neg (nI_ge hk (by omega)), wGi_ok (by omega) (by omega), wGi_ok (by omega) (by omega), nI_clamp (by omega), b1, wBd_e, wLe_e, nI_1]
        refine ⟨_, rfl, g2, rfl, fun t i' v j q => (b2 t i' v j (by omega)).trans (a2 t i' v j q), fun t i' v j q => (b2 t i' v j (by omega)).trans (a3 t i' v j q), fun f hf j hj => ?_⟩
        by_cases e : f = k
        · subst e
          exact (b3 j hj).trans (a2 22 0 f j (by omega))
        · exact (b2 22 1 f j (by omega)).trans (a4 f (by omega) j hj))
      (fun s ⟨g1, a1, a2, a3, a4⟩ => by
        subst a1
        dsimp only
        unfold fX4_become_B160
        rw [a3 9 1 0 3 (by omega), n9, if_pos (nI_le (Nat.le_refl _) (by omega)), wEx_e]
        exact ⟨g1, rfl, a2, a3, a4⟩)
      (k := 0) (Nat.zero_le _) (s := (g, 0)) ⟨g, rfl, og, fun _ _ _ _ _ => rfl, fun f hf => absurd hf (by omega)⟩ (u := 1000) (by omega)
    exact ⟨g', p1, p2⟩
  obtain ⟨g', p1, p2, p3, p4, p5, p6, p7⟩ := wLp_one (f := fun q : Mm × Int32 => fX4_become_B129 q.1 1 0 q.2) (fun g' => OA gC g' ∧ (∀ t i' v j, t < 19 → g' t i' v j = g0 t i' v j) ∧ (∀ v, v < nv → ∀ j, j < 13 → g' 19 1 v j = gC 19 0 v j) ∧ (∀ v, v < nv → ∀ j, j < 8 → g' 20 1 v j = gC 20 0 v j) ∧ (∀ v, v < nv → ∀ j, j < 9 → g' 21 1 v j = gC 21 0 v j) ∧ ∀ f, f < nf → ∀ j, j < 6 → g' 22 1 f j = gC 22 0 f j)
    (fun k s => ∃ g1, s = (g1, nI k) ∧ OA gC g1 ∧ (∀ t i' v j, t < 19 → g1 t i' v j = g0 t i' v j) ∧ (∀ v, v < k → (∀ j, j < 13 → g1 19 1 v j = gC 19 0 v j) ∧ (∀ j, j < 8 → g1 20 1 v j = gC 20 0 v j) ∧ (∀ j, j < 9 → g1 21 1 v j = gC 21 0 v j))) nv
    (fun k s hk ⟨g1, a1, a2, a3, a4⟩ => by
      subst a1
      left
      obtain ⟨g2, b1, b2, b3, b4, b5⟩ := become_v (g := g1) (v := k)
      have n9 : g1 9 1 0 2 = nI nv := (a3 9 1 0 2 (by omega)).trans ((q9.1 2 (by omega)).trans h.1.2.1)
      dsimp only
      unfold fX4_become_B129
      rw [n9, if_neg (nI_ge hk (by omega)), wGi_ok (by omega) (by omega), wGi_ok (by omega) (by omega), nI_clamp (by omega), b1, wBd_e, wLe_e, nI_1]
      refine ⟨_, rfl, g2, rfl, fun t i' v j q => (b2 t i' v j (by omega)).trans (a2 t i' v j q), fun t i' v j q => (b2 t i' v j (by omega)).trans (a3 t i' v j q), fun v hv => ?_⟩
      by_cases e : v = k
      · subst e
        exact ⟨fun j hj => (b3 j hj).trans (a2 19 0 v j (by omega)), fun j hj => (b4 j hj).trans (a2 20 0 v j (by omega)), fun j hj => (b5 j hj).trans (a2 21 0 v j (by omega))⟩
      · obtain ⟨d1, d2, d3⟩ := a4 v (by omega)
        exact ⟨fun j hj => (b2 19 1 v j (by omega)).trans (d1 j hj), fun j hj => (b2 20 1 v j (by omega)).trans (d2 j hj), fun j hj => (b2 21 1 v j (by omega)).trans (d3 j hj)⟩)
    (fun s ⟨g1, a1, a2, a3, a4⟩ => by
      subst a1
      have n9 : g1 9 1 0 2 = nI nv := (a3 9 1 0 2 (by omega)).trans ((q9.1 2 (by omega)).trans h.1.2.1)
      have n93 : g1 9 1 0 3 = nI nf := (a3 9 1 0 3 (by omega)).trans ((q9.1 3 (by omega)).trans h.1.2.2)
      obtain ⟨g2, b1, b2, b3, b4⟩ := feeds g1 a2 n93
      dsimp only
      unfold fX4_become_B129
      rw [n9, if_pos (nI_le (Nat.le_refl _) (by omega)), wLe_e, b1, wEx_e]
      exact ⟨g2, rfl, b2, fun t i' v j q => (b3 t i' v j (by omega)).trans (a3 t i' v j q), fun v hv j hj => (b3 19 1 v j (by omega)).trans ((a4 v hv).1 j hj), fun v hv j hj => (b3 20 1 v j (by omega)).trans ((a4 v hv).2.1 j hj), fun v hv j hj => (b3 21 1 v j (by omega)).trans ((a4 v hv).2.2 j hj), b4⟩)
    (k := 0) (Nat.zero_le _) (s := (g0, 0)) ⟨g0, rfl, o0, fun _ _ _ _ _ => rfl, fun v hv => absurd hv (by omega)⟩ (u := 1000) (by omega)
  refine ⟨g', p1, h.move (fun j hj => (p3 9 1 0 j (by omega)).trans (q9.1 j hj)) (fun j hj => (p3 10 1 0 j (by omega)).trans (q10 j hj)) (fun j hj => (p3 11 1 0 j (by omega)).trans (q11 j hj)) (fun j hj => (p3 12 1 0 j (by omega)).trans (q12 j hj)) (fun j hj => (p3 13 1 0 j (by omega)).trans (q13 j hj)) (fun j hj => (p3 14 1 0 j (by omega)).trans (q14 j hj)) (fun j hj => (p3 15 1 0 j (by omega)).trans (q15 j hj)) p4 p5 p6 p7, p2, ?_, fun v hv => ?_⟩
  · exact ⟨t, ht, (p3 9 1 0 4 (by omega)).trans q9.2, e2, e3.off (funext fun j => p2 6 t 0 j (by omega)) (funext fun j => p2 7 t 0 j (by omega)) rfl rfl⟩
  · obtain ⟨e, he, ee⟩ := hb v hv
    exact ⟨e, he, (p4 v hv 2 (by omega)).trans ee⟩
