-- ===== all that the two objects hold =====
def FR (g : Mm) (nv nf : Nat) : Prop := (∀ v, nv ≤ v → v < 12 → g 19 0 v 4 = 0 ∧ g 19 0 v 9 = 0 ∧ g 19 0 v 10 = 0 ∧ ∀ c, c < 9 → g 21 0 v c = 0) ∧ ∀ f, nf ≤ f → f < 16 → g 22 0 f 4 = 0
def TX (gC gR : Mm) : Prop := ∃ nt t : Nat, t < nt ∧ nt ≤ 6 ∧ gC 1 0 0 1 = nI nt ∧ gR 0 0 0 12 = nI nt ∧ gC 1 0 0 2 = nI t ∧ gR 0 0 0 13 = nI t ∧ gC 9 0 0 4 = nI (t + 1) ∧ (∀ t', t' < nt → RT gC gR t')
def TP (gC gR : Mm) : Prop := ∃ k : Nat, k ≤ 160 ∧ gC 1 0 0 0 = nI k ∧ gR 0 0 0 11 = nI k ∧ ∀ j, j < k → ∃ b : Nat, b < 256 ∧ gC 4 0 0 j = nI b ∧ gR 6 0 0 j = nI b
def ES (gC gR : Mm) : Prop := ∃ ne : Nat, ne ≤ 40 ∧ gC 24 0 0 0 = nI ne ∧ gR 0 0 0 4 = nI ne ∧ ∀ e, e < ne → gC 25 0 0 e = gR 2 0 0 e ∧ gC 26 0 0 e = gR 3 0 0 e ∧ gC 27 0 0 e = gR 4 0 0 e
def PL (gC gR : Mm) (nv ns : Nat) : Prop := ∃ m : Nat, m < 2 ^ nv ∧ gC 23 0 0 0 = nI m ∧ gR 0 0 0 8 = nI m ∧ ∀ v, v < nv → m.testBit v = true → (if nI v = gC 23 0 0 1 then gC 23 0 0 2 else gC 23 0 0 3) = gR 5 0 0 v ∧ (gR 5 0 0 v = -1 ∨ ∃ s : Nat, s < ns ∧ gR 5 0 0 v = nI s)
def SHE (gC gR : Mm) : Prop := ∀ s, s < 4 → gC 29 s 0 0 = gR 10 0 0 s ∧ (∃ n : Nat, n ≤ 40 ∧ gC 29 s 0 1 = nI n ∧ gR 11 0 0 s = nI n) ∧ ∀ j, j < 40 → gC 30 s 0 j = gR 12 0 0 (40 * s + j)
/-- the words, packed -/
def kW : List Nat := [1886546287, 7562608, 1752132708, 26990, 1818326117, 1802071652, 2002872692, 1886545270, 6713191, 1650550643, 1668441463, 28530, 6385252, 7237492]
def WD (gR : Mm) : Prop := ∀ k, k < 14 → gR 18 0 0 k = nI (kW.getD k 0)
def CT (g : Mm) (nv : Nat) : Prop := ∃ t : Nat, t ≤ 10000 ∧ g 9 0 0 0 = nI t ∧ CB 0 nv t g
def R3 (gC gR : Mm) (nv nf ns : Nat) : Prop := PS 0 gC gR nv nf ns ∧ VB 0 gC nv ∧ FR gC nv nf ∧ TX gC gR ∧ TP gC gR ∧ ES gC gR ∧ PL gC gR nv ns ∧ SHE gC gR ∧ WD gR ∧ CT gC nv
def Rel (gC gR : Mm) : Prop := ∃ nv nf ns : Nat, R3 gC gR nv nf ns
theorem R3.ct {gC gR : Mm} {nv nf ns : Nat} (h : R3 gC gR nv nf ns) : CT gC nv := h.2.2.2.2.2.2.2.2.2
theorem R3.rs {gC gR : Mm} {nv nf ns : Nat} (h : R3 gC gR nv nf ns) : RS 0 gC gR := by
  obtain ⟨nt, t, h1, h2, h3, h4, h5, h6, h7, h8⟩ := h.2.2.2.1
  exact ⟨t, by omega, h7, h6, h8 t h1⟩
/-- what a call that plays may write -/
def wW (nv nf t i' v j : Nat) : Prop := t = 8 ∨ t = 18 ∨ (i' = 1 ∧ 9 ≤ t ∧ t ≤ 22) ∨ (i' = 0 ∧ ((t = 9 ∧ j = 0) ∨ t = 10 ∨ t = 11 ∨ t = 13 ∨ t = 14 ∨ t = 15 ∨ (t = 19 ∧ v < nv ∧ j ≠ 2) ∨ ((t = 20 ∨ t = 21) ∧ v < nv) ∨ (t = 22 ∧ v < nf)))
def FW (nv nf : Nat) (g g' : Mm) : Prop := ∀ t i' v j, ¬ wW nv nf t i' v j → g' t i' v j = g t i' v j
def FV (g g' : Mm) : Prop := ∀ t, t ≠ 1 → t ≠ 20 → t ≠ 21 → t ≠ 22 → g' t = g t
theorem FW.rf {nv nf : Nat} {g : Mm} : FW nv nf g g := fun _ _ _ _ _ => rfl
theorem FV.rf {g : Mm} : FV g g := fun _ _ _ _ _ => rfl
theorem FW.tr {nv nf : Nat} {g g1 g2 : Mm} (h : FW nv nf g g1) (h' : FW nv nf g1 g2) : FW nv nf g g2 := fun t i v j q => (h' t i v j q).trans (h t i v j q)
theorem FV.tr {g g1 g2 : Mm} (h : FV g g1) (h' : FV g1 g2) : FV g g2 := fun t a b c d => (h' t a b c d).trans (h t a b c d)
theorem FW.st {nv nf t i v j : Nat} {g g1 : Mm} {x : Int32} (h : FW nv nf g g1) (hw : wW nv nf t i v j) : FW nv nf g (st g1 t i v j x) := fun t0 i0 v0 j0 q => (st_ne (fun e => q (by obtain ⟨rfl, rfl, rfl, rfl⟩ := e; exact hw))).trans (h t0 i0 v0 j0 q)
theorem FV.st {g g1 : Mm} {t i v j : Nat} {x : Int32} (h : FV g g1) (hw : t = 1 ∨ t = 20 ∨ t = 21 ∨ t = 22) : FV g (st g1 t i v j x) := fun t0 a b c d => (st_kind (by rcases hw with rfl | rfl | rfl | rfl <;> assumption)).trans (h t0 a b c d)
theorem FrR.fv {g g' : Mm} (h : FrR g g') : FV g g' := fun t a b c _ => h t a b c
theorem FrT.fw {i nv nf : Nat} {g g' : Mm} (hi : i < 2) (h : FrT i nv nf g g') : FW nv nf g g' := fun t i' v j q => h t i' v j (fun w => q (by unfold wrC at w; unfold wW; omega)) (fun w => q (by unfold wW; omega))
theorem FrC.fw {i nv nf : Nat} {g g' : Mm} (hi : i < 2) (h : FrC i nv nf g g') : FW nv nf g g' := fun t i' v j q => h t i' v j (fun w => q (by unfold wrC at w; unfold wW; omega))
theorem R3.fw {gC gR gC' gR' : Mm} {nv nf ns : Nat} (h : R3 gC gR nv nf ns) (hp : PS 0 gC' gR' nv nf ns) (hC : FW nv nf gC gC') (hR : FV gR gR') (hct : CT gC' nv) : R3 gC' gR' nv nf ns := by
  obtain ⟨h1, h2, h3, h4, h5, h6, h7, h8, h9, h10⟩ := h
  have r0 := hR 0 (by decide) (by decide) (by decide) (by decide)
  refine ⟨hp, ?_, ?_, ?_, ?_, ?_, ?_, ?_, ?_, hct⟩
  · intro v hv
    obtain ⟨e, he, q⟩ := h2 v hv
    exact ⟨e, he, (hC 19 0 v 2 (by unfold wW; omega)).trans q⟩
  · refine ⟨fun v hv hv' => ?_, fun f hf hf' => (hC 22 0 f 4 (by unfold wW; omega)).trans (h3.2 f hf hf')⟩
    obtain ⟨k1, k2, k3, k4⟩ := h3.1 v hv hv'
    exact ⟨(hC 19 0 v 4 (by unfold wW; omega)).trans k1, (hC 19 0 v 9 (by unfold wW; omega)).trans k2, (hC 19 0 v 10 (by unfold wW; omega)).trans k3, fun c hc => (hC 21 0 v c (by unfold wW; omega)).trans (k4 c hc)⟩
  · obtain ⟨nt, t, a1, a2, a3, a4, a5, a6, a7, a8⟩ := h4
    refine ⟨nt, t, a1, a2, (hC 1 0 0 1 (by unfold wW; omega)).trans a3, by rw [r0]; exact a4, (hC 1 0 0 2 (by unfold wW; omega)).trans a5, by rw [r0]; exact a6, (hC 9 0 0 4 (by unfold wW; omega)).trans a7, fun t' ht' => (a8 t' ht').off (funext fun j => hC 6 t' 0 j (by unfold wW; omega)) (funext fun j => hC 7 t' 0 j (by unfold wW; omega)) (hR 7 (by decide) (by decide) (by decide) (by decide)) (hR 8 (by decide) (by decide) (by decide) (by decide))⟩
  · obtain ⟨k, a1, a2, a3, a4⟩ := h5
    refine ⟨k, a1, (hC 1 0 0 0 (by unfold wW; omega)).trans a2, by rw [r0]; exact a3, fun j hj => ?_⟩
    obtain ⟨b, b1, b2, b3⟩ := a4 j hj
    exact ⟨b, b1, (hC 4 0 0 j (by unfold wW; omega)).trans b2, by rw [hR 6 (by decide) (by decide) (by decide) (by decide)]; exact b3⟩
  · obtain ⟨ne, a1, a2, a3, a4⟩ := h6
    refine ⟨ne, a1, (hC 24 0 0 0 (by unfold wW; omega)).trans a2, by rw [r0]; exact a3, fun e he => ?_⟩
    obtain ⟨b1, b2, b3⟩ := a4 e he
    rw [hR 2 (by decide) (by decide) (by decide) (by decide), hR 3 (by decide) (by decide) (by decide) (by decide), hR 4 (by decide) (by decide) (by decide) (by decide)]
    exact ⟨(hC 25 0 0 e (by unfold wW; omega)).trans b1, (hC 26 0 0 e (by unfold wW; omega)).trans b2, (hC 27 0 0 e (by unfold wW; omega)).trans b3⟩
  · obtain ⟨m, a1, a2, a3, a4⟩ := h7
    have c : ∀ j, gC' 23 0 0 j = gC 23 0 0 j := fun j => hC 23 0 0 j (by unfold wW; omega)
    refine ⟨m, a1, (c 0).trans a2, by rw [r0]; exact a3, ?_⟩
    rw [c 1, c 2, c 3, hR 5 (by decide) (by decide) (by decide) (by decide)]
    exact a4
  · intro s hs
    have c : ∀ j, gC' 29 s 0 j = gC 29 s 0 j := fun j => hC 29 s 0 j (by unfold wW; omega)
    obtain ⟨b1, b2, b3⟩ := h8 s hs
    rw [c 0, c 1, hR 10 (by decide) (by decide) (by decide) (by decide), hR 11 (by decide) (by decide) (by decide) (by decide), hR 12 (by decide) (by decide) (by decide) (by decide)]
    exact ⟨b1, b2, fun j hj => (hC 30 s 0 j (by unfold wW; omega)).trans (b3 j hj)⟩
  · intro k hk
    rw [hR 18 (by decide) (by decide) (by decide) (by decide)]
    exact h9 k hk
theorem PS.frm {i nv nf ns : Nat} {gC gR gC' gR' : Mm} (h : PS i gC gR nv nf ns) (hC : ∀ t v j, (9 ≤ t ∧ t ≤ 15) ∨ (19 ≤ t ∧ t ≤ 22) → (t = 9 → j ≤ 3) → (t = 19 → j ≠ 11) → gC' t i v j = gC t i v j) (hR0 : ∀ j, 1 ≤ j → j ≤ 3 → gR' 0 0 0 j = gR 0 0 0 j) (hR : ∀ t, t = 1 ∨ (13 ≤ t ∧ t ≤ 17) → gR' t = gR t) : PS i gC' gR' nv nf ns := by
  obtain ⟨⟨a1, a2, a3⟩, ⟨b1, b2, b3⟩, hE, hU, hP, hK⟩ := h
  have r1 := hR 1 (Or.inl rfl)
  refine ⟨⟨(hC 9 0 1 (by omega) (by omega) (by omega)).trans a1, (hC 9 0 2 (by omega) (by omega) (by omega)).trans a2, (hC 9 0 3 (by omega) (by omega) (by omega)).trans a3⟩, ⟨(hR0 1 (by omega) (by omega)).trans b1, (hR0 2 (by omega) (by omega)).trans b2, (hR0 3 (by omega) (by omega)).trans b3⟩, ?_, ?_, by rw [r1]; exact hP, ?_⟩
  · rw [r1]
    exact hE.offC fun t v j n q => hC t v j (by unfold ixR at q; omega) (by unfold ixR at q; omega) (by unfold ixR at q; omega)
  · rw [r1]
    exact hU.congr (fun v j _ hj => hC 19 v j (by omega) (by omega) (by omega)) (fun v a _ _ => hC 20 v a (by omega) (by omega) (by omega)) (fun _ _ _ _ _ => rfl)
  · unfold KR at *
    rw [hR 13 (by omega), hR 14 (by omega), hR 15 (by omega), hR 16 (by omega), hR 17 (by omega)]
    exact hK
-- ===== numbers that come from outside =====
theorem posneg (x : Int32) : x < 0 ∨ ∃ n : Nat, n < 2 ^ 31 ∧ x = nI n := by
  by_cases c : x < 0
  · exact Or.inl c
  · exact Or.inr (nI_of c)
theorem neg_ne {x : Int32} {n : Nat} (h : x < 0) (hn : n < 2 ^ 31) : ¬ x = nI n := fun e => nI_pos hn (e ▸ h)
theorem neg_le {x : Int32} {n : Nat} (h : x < 0) (hn : n < 2 ^ 31) : x ≤ nI n := by
  have h := Int32.lt_iff_toInt_lt.mp h
  have e0 : (0 : Int32).toInt = 0 := rfl
  refine Int32.le_iff_toInt_le.mpr ?_
  rw [nI_toInt hn]
  omega
theorem neg_nlt {x : Int32} {n : Nat} (h : x < 0) (hn : n < 2 ^ 31) : ¬ nI n < x := Int32.not_lt.mpr (neg_le h hn)
theorem neg_lt {x : Int32} {n : Nat} (h : x < 0) (hn : n < 2 ^ 31) : x < nI n := by
  have h := Int32.lt_iff_toInt_lt.mp h
  have e0 : (0 : Int32).toInt = 0 := rfl
  refine Int32.lt_iff_toInt_lt.mpr ?_
  rw [nI_toInt hn]
  omega
theorem neg_nle {x : Int32} {n : Nat} (h : x < 0) (hn : n < 2 ^ 31) : ¬ nI n ≤ x := Int32.not_le.mpr (neg_lt h hn)
theorem pred_lt {n k : Nat} (hn : n < 2 ^ 31) (hk : k < 2 ^ 31) : (nI n - 1 < nI k) ↔ n ≤ k := by
  have e : (1 : Int32) = nI 1 := rfl
  rw [e, Int32.lt_iff_toInt_lt, nI_subI hn (by omega), nI_toInt hk]
  omega
/-- one of so many -/
theorem in_cnt (g : Mm) {n : Nat} (hn : n < 2 ^ 31) (a : Int32) : (∃ v, v < n ∧ a = nI v ∧ fX11_in g a 0 (nI n - 1) = some 1) ∨ ((a < 0 ∨ ∃ v : Nat, n ≤ v ∧ v < 2 ^ 31 ∧ a = nI v) ∧ fX11_in g a 0 (nI n - 1) = some 0) := by
  unfold fX11_in
  rcases posneg a with h | ⟨v, hv, rfl⟩
  · right
    exact ⟨Or.inl h, if_pos h⟩
  · rw [if_neg (nI_pos hv)]
    by_cases c : v < n
    · left
      refine ⟨v, c, rfl, if_neg fun q => ?_⟩
      rw [pred_lt hn hv] at q
      omega
    · right
      exact ⟨Or.inr ⟨v, by omega, hv, rfl⟩, if_pos ((pred_lt hn hv).mpr (by omega))⟩
theorem cnt_C {a : Int32} {n : Nat} (hn : n < 2 ^ 31) (h : a < 0 ∨ ∃ v : Nat, n ≤ v ∧ v < 2 ^ 31 ∧ a = nI v) : (if a < 0 then some (0 : Int32) else if nI n ≤ a then some 0 else some 1) = some 0 := by
  rcases h with h | ⟨v, h1, h2, rfl⟩
  · rw [if_pos h]
  · rw [if_neg (nI_pos h2), if_pos (nI_le h1 h2)]
section ISV
variable {gC gR : Mm} {nv nf ns : Nat}
theorem isv (h : PS 0 gC gR nv nf ns) (a : Int32) : (∃ v, v < nv ∧ a = nI v ∧ fX4_hasVisit gC 0 a = some 1 ∧ fX11_isVisit gR a = some 1) ∨ (fX4_hasVisit gC 0 a = some 0 ∧ fX11_isVisit gR a = some 0) := by
  have hv12 := h.nv12
  rcases in_cnt gR (show nv < 2 ^ 31 by omega) a with ⟨v, hv, rfl, e⟩ | ⟨q, e⟩
  · left
    refine ⟨v, hv, rfl, ?_, ?_⟩
    · rw [hv_ev h.1.2.1 (by omega) (by omega), if_pos hv]
    · unfold fX11_isVisit
      rw [h.2.1.1, e, wBd_e, wGb_1]
  · right
    refine ⟨?_, ?_⟩
    · unfold fX4_hasVisit
      rw [h.1.2.1]
      exact cnt_C (by omega) q
    · unfold fX11_isVisit
      rw [h.2.1.1, e, wBd_e, wGb_0]
theorem iss (h : PS 0 gC gR nv nf ns) (a : Int32) : (∃ v, v < ns ∧ a = nI v ∧ fX4_hasStand gC 0 a = some 1 ∧ fX11_isStand gR a = some 1) ∨ (fX4_hasStand gC 0 a = some 0 ∧ fX11_isStand gR a = some 0) := by
  have hs6 := h.ns6
  rcases in_cnt gR (show ns < 2 ^ 31 by omega) a with ⟨v, hv, rfl, e⟩ | ⟨q, e⟩
  · left
    refine ⟨v, hv, rfl, ?_, ?_⟩
    · rw [hst_ev h.1.1 (by omega) (by omega), if_pos hv]
    · unfold fX11_isStand
      rw [h.2.1.2.2, e, wBd_e, wGb_1]
  · right
    refine ⟨?_, ?_⟩
    · unfold fX4_hasStand
      rw [h.1.1]
      exact cnt_C (by omega) q
    · unfold fX11_isStand
      rw [h.2.1.2.2, e, wBd_e, wGb_0]
theorem isf (h : PS 0 gC gR nv nf ns) (a : Int32) : (∃ v, v < nf ∧ a = nI v ∧ fX4_hasFeed gC 0 a = some 1 ∧ fX11_in gR a 0 (gR 0 0 0 2 - 1) = some 1) ∨ (fX4_hasFeed gC 0 a = some 0 ∧ fX11_in gR a 0 (gR 0 0 0 2 - 1) = some 0) := by
  have hf := h.nf16
  rw [h.2.1.2.1]
  rcases in_cnt gR (show nf < 2 ^ 31 by omega) a with ⟨v, hv, rfl, e⟩ | ⟨q, e⟩
  · left
    refine ⟨v, hv, rfl, ?_, e⟩
    unfold fX4_hasFeed
    rw [h.1.2.2, if_neg (nI_pos (by omega)), if_neg (nI_ge hv (by omega))]
  · right
    refine ⟨?_, e⟩
    unfold fX4_hasFeed
    rw [h.1.2.2]
    exact cnt_C (by omega) q
end ISV
