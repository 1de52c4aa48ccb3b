-- ===== what writes keep =====
theorem upd_e {f : Nat → Int32} {k : Nat} {x : Int32} : upd f k x k = x := if_pos rfl
theorem upd_n {f : Nat → Int32} {k j : Nat} {x : Int32} (h : j ≠ k) : upd f k x j = f j := if_neg h
theorem st_p (g : Mm) (n : Nat) (x : Int32) : st g 1 0 0 n x 1 0 0 = upd (g 1 0 0) n x := st_self g 1 0 0 n x
theorem st_kind {g : Mm} {t i v j t' : Nat} {x : Int32} (h : t' ≠ t) : st g t i v j x t' = g t' := by
  funext i' v' j'
  exact if_neg fun q => h q.1
theorem st_ne {g : Mm} {t i v j t' i' v' j' : Nat} {x : Int32} (h : ¬ (t' = t ∧ i' = i ∧ v' = v ∧ j' = j)) : st g t i v j x t' i' v' j' = g t' i' v' j' := if_neg h
theorem st_eq {g : Mm} {t i v j : Nat} {x : Int32} : st g t i v j x t i v j = x := if_pos ⟨rfl, rfl, rfl, rfl⟩
theorem EQ.set {i : Nat} {gC : Mm} {p : Nat → Int32} {nv nf ns t v j n : Nat} {x : Int32} (hv : nv ≤ 12) (hf : nf ≤ 16) (hs : ns ≤ 6) (h : EQ i gC p nv nf ns) (hx : ixR nv nf ns t v j n) : EQ i (st gC t i v j x) (upd p n x) nv nf ns := by
  intro t' v' j' n' h'
  by_cases e : n' = n
  · subst e
    obtain ⟨rfl, rfl, rfl⟩ := ix_fun hv hf hs h' hx
    rw [st_eq, upd_e]
  · rw [upd_n e, st_ne (fun q => e (by obtain ⟨rfl, -, rfl, rfl⟩ := q; exact ix_val h' hx))]
    exact h t' v' j' n' h'
theorem EQ.offC {i : Nat} {gC gC' : Mm} {p : Nat → Int32} {nv nf ns : Nat} (h : EQ i gC p nv nf ns) (ho : ∀ t v j n, ixR nv nf ns t v j n → gC' t i v j = gC t i v j) : EQ i gC' p nv nf ns := fun t v j n q => (ho t v j n q).trans (h t v j n q)
theorem EQ.offP {i : Nat} {gC : Mm} {p p' : Nat → Int32} {nv nf ns : Nat} (h : EQ i gC p nv nf ns) (ho : ∀ t v j n, ixR nv nf ns t v j n → p' n = p n) : EQ i gC p' nv nf ns := fun t v j n q => (h t v j n q).trans (ho t v j n q).symm
/-- the elements that PI speaks of -/
def piI (nv nf m : Nat) : Prop := m = 480 ∨ m = 484 ∨ m = 462 ∨ m = 463 ∨ (496 ≤ m ∧ m < 502) ∨ (∃ v, v < nv ∧ (m = 30 * v ∨ m = 30 * v + 4 ∨ m = 30 * v + 6 ∨ (30 * v + 8 ≤ m ∧ m ≤ 30 * v + 18))) ∨ (∃ f, f < nf ∧ (m = 360 + 6 * f ∨ m = 360 + 6 * f + 1))
theorem piI_v {nv nf m v : Nat} (hv : v < nv) (h : m = 30 * v ∨ m = 30 * v + 4 ∨ m = 30 * v + 6 ∨ (30 * v + 8 ≤ m ∧ m ≤ 30 * v + 18)) : piI nv nf m := Or.inr (Or.inr (Or.inr (Or.inr (Or.inr (Or.inl ⟨v, hv, h⟩)))))
theorem piI_f {nv nf m f : Nat} (hf : f < nf) (h : m = 360 + 6 * f ∨ m = 360 + 6 * f + 1) : piI nv nf m := Or.inr (Or.inr (Or.inr (Or.inr (Or.inr (Or.inr ⟨f, hf, h⟩)))))
theorem PI.congr {p p' : Nat → Int32} {nv nf ns : Nat} (h : PI p nv nf ns) (e : ∀ m, piI nv nf m → p' m = p m) : PI p' nv nf ns := by
  obtain ⟨h1, h2, h3, h4, h5, h6, h7, h8, h9⟩ := h
  refine ⟨h1, ?_, ?_, ?_, ?_, ?_, ?_, ?_, ?_⟩
  · rw [e 480 (Or.inl rfl)]; exact h2
  · rw [e 484 (Or.inr (Or.inl rfl))]; exact h3
  · intro r hr
    rw [e (462 + r) (by rcases (show r = 0 ∨ r = 1 by omega) with rfl | rfl; exact Or.inr (Or.inr (Or.inl rfl)); exact Or.inr (Or.inr (Or.inr (Or.inl rfl))))]
    exact h4 r hr
  · intro v hv
    rw [e (30 * v) (piI_v hv (Or.inl rfl)), e (30 * v + 4) (piI_v hv (Or.inr (Or.inl rfl))), e (30 * v + 6) (piI_v hv (Or.inr (Or.inr (Or.inl rfl)))), e (30 * v + 8) (piI_v hv (Or.inr (Or.inr (Or.inr ⟨by omega, by omega⟩))))]
    exact h5 v hv
  · intro v hv
    rw [e (30 * v + 10) (piI_v hv (Or.inr (Or.inr (Or.inr ⟨by omega, by omega⟩))))]
    refine ⟨(h6 v hv).1, fun a ha => ?_⟩
    rw [e (30 * v + 11 + a) (piI_v hv (Or.inr (Or.inr (Or.inr ⟨by omega, by omega⟩))))]
    exact (h6 v hv).2 a ha
  · intro v hv
    rw [e (30 * v + 6) (piI_v hv (Or.inr (Or.inr (Or.inl rfl)))), e (30 * v + 8) (piI_v hv (Or.inr (Or.inr (Or.inr ⟨by omega, by omega⟩)))), e (30 * v + 9) (piI_v hv (Or.inr (Or.inr (Or.inr ⟨by omega, by omega⟩)))), e (30 * v + 18) (piI_v hv (Or.inr (Or.inr (Or.inr ⟨by omega, by omega⟩))))]
    exact h7 v hv
  · intro f hf
    rw [e (360 + 6 * f) (piI_f hf (Or.inl rfl)), e (360 + 6 * f + 1) (piI_f hf (Or.inr rfl))]
    exact h8 f hf
  · intro s hs
    rw [e (496 + s) (Or.inr (Or.inr (Or.inr (Or.inr (Or.inl ⟨by omega, by omega⟩)))))]
    exact h9 s hs
theorem PI.free {p : Nat → Int32} {nv nf ns n : Nat} {x : Int32} (h : PI p nv nf ns) (hn : ¬ piI nv nf n) : PI (upd p n x) nv nf ns := h.congr fun m hm => upd_n fun q => hn (q ▸ hm)
theorem UI.congr {i : Nat} {gC gC' : Mm} {p p' : Nat → Int32} {nv : Nat} (h : UI i gC p nv) (hC : ∀ v j, v < nv → (j = 10 ∨ j = 12) → gC' 19 i v j = gC 19 i v j) (hL : ∀ v a, v < nv → a < 8 → gC' 20 i v a = gC 20 i v a) (hP : ∀ v m, v < nv → 30 * v + 10 ≤ m → m ≤ 30 * v + 18 → p' m = p m) : UI i gC' p' nv := by
  intro v hv
  obtain ⟨⟨m, h1, h2, h3⟩, h4⟩ := h v hv
  rw [hC v 12 hv (Or.inr rfl), hP v _ hv (by omega) (by omega)]
  refine ⟨⟨m, h1, by rw [hC v 10 hv (Or.inl rfl)]; exact h2, fun a ha => ?_⟩, h4⟩
  rw [hP v (30 * v + 11 + a) hv (by omega) (by omega), hL v a hv ha]
  exact h3 a ha
/-- a number that both hold is written in both -/
theorem PS.set {i : Nat} {gC gR : Mm} {nv nf ns t v j n : Nat} {x : Int32} (h : PS i gC gR nv nf ns) (hx : ixR nv nf ns t v j n) (hp : PI (upd (gR 1 0 0) n x) nv nf ns) : PS i (st gC t i v j x) (st gR 1 0 0 n x) nv nf ns := by
  have hv := h.nv12
  have hf := h.nf16
  have hs := h.ns6
  obtain ⟨⟨a1, a2, a3⟩, ⟨b1, b2, b3⟩, hE, hU, hP, hK⟩ := h
  have off : ∀ j', j' ≠ 0 → st gC t i v j x 9 i 0 j' = gC 9 i 0 j' := fun j' hj' => st_ne fun q => by
    obtain ⟨q1, -, q3, q4⟩ := q
    unfold ixR at hx
    omega
  refine ⟨⟨(off 1 (by decide)).trans a1, (off 2 (by decide)).trans a2, (off 3 (by decide)).trans a3⟩, ⟨b1, b2, b3⟩, ?_, ?_, by rw [st_p]; exact hp, hK⟩
  · rw [st_p]
    exact hE.set hv hf hs hx
  · rw [st_p]
    have hu : ∀ v0, v0 < nv → ¬ (30 * v0 + 10 ≤ n ∧ n ≤ 30 * v0 + 18) := fun v0 hv0 q => by
      unfold ixR at hx
      omega
    refine hU.congr (fun v0 j0 hv0 hj => st_ne fun q => ?_) (fun v0 a hv0 ha => ?_) (fun v0 m hv0 h1 h2 => upd_n fun q => hu v0 hv0 (by omega))
    · obtain ⟨q1, -, q3, q4⟩ := q
      unfold ixR at hx
      omega
    · exact st_ne fun q => by
        obtain ⟨q1, -, q3, q4⟩ := q
        unfold ixR at hx
        omega
/-- scratch numbers of the component -/
theorem PS.scr {i : Nat} {gC gC' gR : Mm} {nv nf ns : Nat} (h : PS i gC gR nv nf ns) (ho : ∀ t v j, t ≠ 8 → t ≠ 18 → (t ≠ 19 ∨ j ≠ 11) → gC' t i v j = gC t i v j) : PS i gC' gR nv nf ns := by
  obtain ⟨⟨a1, a2, a3⟩, hb, hE, hU, hP, hK⟩ := h
  refine ⟨⟨(ho 9 0 1 (by decide) (by decide) (Or.inl (by decide))).trans a1, (ho 9 0 2 (by decide) (by decide) (Or.inl (by decide))).trans a2, (ho 9 0 3 (by decide) (by decide) (Or.inl (by decide))).trans a3⟩, hb, hE.offC (fun t v j n q => ho t v j ?_ ?_ ?_), hU.congr (fun v j _ hj => ho 19 v j (by decide) (by decide) (Or.inr (by omega))) (fun v a _ _ => ho 20 v a (by decide) (by decide) (Or.inl (by decide))) (fun _ _ _ _ _ => rfl), hP, hK⟩
  all_goals (unfold ixR at q; omega)
/-- scratch numbers of the reference -/
theorem PS.scrR {i : Nat} {gC gR gR' : Mm} {nv nf ns : Nat} (h : PS i gC gR nv nf ns) (ho : ∀ t, t ≤ 1 ∨ (13 ≤ t ∧ t ≤ 17) → gR' t = gR t) : PS i gC gR' nv nf ns := by
  unfold PS KR at *
  rw [ho 0 (by decide), ho 1 (by decide), ho 13 (by decide), ho 14 (by decide), ho 15 (by decide), ho 16 (by decide), ho 17 (by decide)]
  exact h
/-- which numbers of the component a tick of port i may write -/
def wrC (i nv nf t i' v j : Nat) : Prop := t = 8 ∨ t = 18 ∨ (i' = i ∧ ((t = 10 ∧ j = 7) ∨ t = 11 ∨ t = 13 ∨ t = 14 ∨ t = 15 ∨ (t = 19 ∧ 6 ≤ j ∧ v < nv) ∨ (t = 20 ∧ v < nv) ∨ (t = 22 ∧ v < nf ∧ 4 ≤ j)))
def FrC (i nv nf : Nat) (g g' : Mm) : Prop := ∀ t i' v j, ¬ wrC i nv nf t i' v j → g' t i' v j = g t i' v j
def FrR (g g' : Mm) : Prop := ∀ t, t ≠ 1 → t ≠ 20 → t ≠ 21 → g' t = g t
theorem FrC.rf {i nv nf : Nat} {g : Mm} : FrC i nv nf g g := fun _ _ _ _ _ => rfl
theorem FrC.tr {i nv nf : Nat} {g g1 g2 : Mm} (h : FrC i nv nf g g1) (h' : FrC i nv nf g1 g2) : FrC i nv nf g g2 := fun t i' v j q => (h' t i' v j q).trans (h t i' v j q)
theorem FrC.st {i nv nf t i' v j : Nat} {g g1 : Mm} {x : Int32} (h : FrC i nv nf g g1) (hw : wrC i nv nf t i' v j) : FrC i nv nf g (st g1 t i' v j x) := fun t0 i0 v0 j0 q => (st_ne (fun e => q (by obtain ⟨rfl, rfl, rfl, rfl⟩ := e; exact hw))).trans (h t0 i0 v0 j0 q)
theorem FrR.rf {g : Mm} : FrR g g := fun _ _ _ _ => rfl
theorem FrR.tr {g g1 g2 : Mm} (h : FrR g g1) (h' : FrR g1 g2) : FrR g g2 := fun t a b c => (h' t a b c).trans (h t a b c)
theorem FrR.st {g g1 : Mm} {t i v j : Nat} {x : Int32} (h : FrR g g1) (hw : t = 1 ∨ t = 20 ∨ t = 21) : FrR g (st g1 t i v j x) := fun t0 a b c => (st_kind (by rcases hw with rfl | rfl | rfl <;> assumption)).trans (h t0 a b c)
/-- what a tick keeps: both are alike, and nothing else has changed -/
def TK (i nv nf ns : Nat) (gC gR gC' gR' : Mm) : Prop := PS i gC' gR' nv nf ns ∧ FrC i nv nf gC gC' ∧ FrR gR gR'
theorem TK.tr {i nv nf ns : Nat} {gC gR gC1 gR1 gC2 gR2 : Mm} (h : TK i nv nf ns gC gR gC1 gR1) (h' : TK i nv nf ns gC1 gR1 gC2 gR2) : TK i nv nf ns gC gR gC2 gR2 := ⟨h'.1, h.2.1.tr h'.2.1, h.2.2.tr h'.2.2⟩
