-- ===== a text, in both =====
def flat (P : Nat → List Nat) : Nat → List Nat
  | 0 => []
  | q + 1 => flat P q ++ P q
theorem flat_len {P : Nat → List Nat} {q : Nat} : (flat P q).length = pof P q := by
  induction q with
  | zero => rfl
  | succ q ih =>
    show (flat P q ++ P q).length = pof P q + (P q).length
    rw [List.length_append, ih]
theorem flat_get {P : Nat → List Nat} {j k : Nat} (hk : k < (P j).length) : ∀ n, j < n → (flat P n)[pof P j + k]? = some (P j)[k] := by
  intro n
  induction n with
  | zero => intro h; omega
  | succ n ih =>
    intro h
    show (flat P n ++ P n)[pof P j + k]? = _
    by_cases c : j = n
    · subst c
      rw [List.getElem?_append_right (by rw [flat_len]; omega), flat_len, show pof P j + k - pof P j = k by omega]
      exact List.getElem?_eq_getElem hk
    · have := ih (by omega)
      obtain ⟨h1, h2⟩ := List.getElem?_eq_some_iff.mp this
      rw [List.getElem?_append_left h1]
      exact this
theorem flat_cg {P P' : Nat → List Nat} : ∀ q, (∀ j, j < q → P' j = P j) → flat P' q = flat P q ∧ pof P' q = pof P q := by
  intro q
  induction q with
  | zero => intro _; exact ⟨rfl, rfl⟩
  | succ q ih =>
    intro h
    obtain ⟨h1, h2⟩ := ih fun j hj => h j (by omega)
    have h3 := h q (by omega)
    exact ⟨by show flat P' q ++ P' q = flat P q ++ P q; rw [h1, h3], by show pof P' q + (P' q).length = pof P q + (P q).length; rw [h2, h3]⟩
theorem CL_get {T i c : Nat} {g : Mm} {C : List Nat} (h : CL T C g) (e : C.reverse[i]? = some c) : g 6 T 0 i = nI (cC c) := by
  induction C with
  | nil => cases e
  | cons c0 C ih =>
    rw [List.reverse_cons] at e
    by_cases q : i < C.reverse.length
    · rw [List.getElem?_append_left q] at e
      exact ih h.2 e
    · rw [List.getElem?_append_right (by omega), List.length_reverse] at e
      have e0 : i - C.length = 0 := by
        by_cases z : i - C.length = 0
        · exact z
        · obtain ⟨w, hw⟩ : ∃ w, i - C.length = w + 1 := ⟨i - C.length - 1, by omega⟩
          rw [hw] at e
          cases e
      rw [e0] at e
      have : c0 = c := Option.some.inj e
      subst this
      rw [List.length_reverse] at q
      have : i = C.length := by omega
      subst this
      exact h.1
theorem OL_get {T i c : Nat} {g : Mm} {C : List Nat} (h : OL T C g) (e : C.reverse[i]? = some c) : g 7 0 0 (200 * T + i) = nI c := by
  induction C with
  | nil => cases e
  | cons c0 C ih =>
    rw [List.reverse_cons] at e
    by_cases q : i < C.reverse.length
    · rw [List.getElem?_append_left q] at e
      exact ih h.2 e
    · rw [List.getElem?_append_right (by omega), List.length_reverse] at e
      have e0 : i - C.length = 0 := by
        by_cases z : i - C.length = 0
        · exact z
        · obtain ⟨w, hw⟩ : ∃ w, i - C.length = w + 1 := ⟨i - C.length - 1, by omega⟩
          rw [hw] at e
          cases e
      rw [e0] at e
      have : c0 = c := Option.some.inj e
      subst this
      rw [List.length_reverse] at q
      have : i = C.length := by omega
      subst this
      exact h.1
def XC (T : Nat) (g0 g : Mm) : Prop := ∀ t i v j, t ≠ 3 → ¬ (t = 5 ∧ i = T) → ¬ (t = 6 ∧ i = T) → ¬ (t = 7 ∧ i = T) → g t i v j = g0 t i v j
def XR (T : Nat) (g0 g : Mm) : Prop := ∀ t i v j, (t = 0 → i = 0 ∧ v = 0 ∧ j ≠ 11 ∧ j ≠ 12 ∧ ¬ ((25 ≤ j ∧ j ≤ 28) ∨ (31 ≤ j ∧ j ≤ 33))) → ¬ (t = 7 ∧ 200 * T ≤ j) → t ≠ 19 → ¬ (t = 8 ∧ 4 * T ≤ j) → g t i v j = g0 t i v j
theorem XC.fc {T : Nat} {g0 g g' : Mm} (h : XC T g0 g) (h' : FC T g g') : XC T g0 g' := fun t i v j a b c d => (h' t i v j (by omega) (by omega) (by omega)).trans (h t i v j a b c d)
theorem XR.ft {T : Nat} {g0 g g' : Mm} (h : XR T g0 g) (h' : FT T g g') : XR T g0 g' := fun t i v j a b c d => (h' t i v j (fun q => by have := a q; omega) (by omega) (by omega)).trans (h t i v j a b c d)
theorem XC.st {T t i v j : Nat} {g0 g : Mm} {x : Int32} (h : XC T g0 g) (w : t = 3 ∨ (t = 5 ∧ i = T) ∨ (t = 6 ∧ i = T) ∨ (t = 7 ∧ i = T)) : XC T g0 (st g t i v j x) := fun t' i' v' j' a b c d => (st_ne (by omega)).trans (h t' i' v' j' a b c d)
theorem XR.st {T t i v j : Nat} {g0 g : Mm} {x : Int32} (h : XR T g0 g) (w : (t = 0 ∧ i = 0 ∧ v = 0 ∧ (j = 11 ∨ j = 12 ∨ (25 ≤ j ∧ j ≤ 28) ∨ (31 ≤ j ∧ j ≤ 33))) ∨ (t = 8 ∧ 4 * T ≤ j)) : XR T g0 (st g t i v j x) := fun t' i' v' j' a b c d => (st_ne (fun q => by
  obtain ⟨rfl, rfl, rfl, rfl⟩ := q
  rcases w with ⟨w1, w2, w3, w4⟩ | w
  · have := a w1; omega
  · exact d w)).trans (h t' i' v' j' a b c d)
section TXT
variable {g0C g0R gC gR : Mm} {T K q : Nat} {tp : Nat → Nat} {P : Nat → List Nat}
def RI (gR : Mm) (T K : Nat) (tp : Nat → Nat) (a : Nat) (C : List Nat) : Prop := TpR gR K tp ∧ WD gR ∧ gR 0 0 0 12 = nI T ∧ gR 0 0 0 25 = nI a ∧ gR 0 0 0 33 = nI C.length ∧ OL T C gR
/-- between two parts: q of them are read -/
def TI (g0C g0R : Mm) (T K : Nat) (tp : Nat → Nat) (q : Nat) (P : Nat → List Nat) (gC gR : Mm) : Prop := ∃ a k v b e C, CSt gC T K tp a k v b e C gC ∧ RI gR T K tp a C ∧ C.reverse = flat P q ∧ C.length ≤ a ∧ (∀ j, j < q → (∀ c, c ∈ P j → okc c) ∧ dep (P j) 0 = some 1) ∧ (∀ j, j < q → gC 7 T 0 j = nI (pof P (j + 1))) ∧ (∀ j, j < q → gR 8 0 0 (4 * T + j) = nI (pof P j)) ∧ XC T g0C gC ∧ XR T g0R gR
def TQ (g0C g0R : Mm) (T : Nat) (t1 t2 : Mm × Int32) : Prop := XC T g0C t1.1 ∧ XR T g0R t2.1 ∧ t2.1 0 0 0 11 = 0 ∧ ((∃ b : Nat, b ≤ 160 ∧ t1.2 = nI b ∧ t2.2 = -100 - nI b ∧ t2.1 0 0 0 12 = nI T) ∨ (t1.2 = -1 ∧ t2.2 = nI T ∧ t2.1 0 0 0 12 = nI (T + 1) ∧ RT t1.1 t2.1 T))
theorem w4i {β : Type} (hT : T < 6) (hq : q ≤ 3) (f : Option β) : wGi (((4 : Int32) * nI T) + nI q) 24 f = f := by
  rw [show (4 : Int32) = nI 4 from rfl, nI_mul, nI_add]
  exact wGi_ok (by omega) (by omega)
theorem w4n (hT : T < 6) (hq : q ≤ 3) : (((4 : Int32) * nI T) + nI q).toNatClampNeg = 4 * T + q := by
  rw [show (4 : Int32) = nI 4 from rfl, nI_mul, nI_add]
  exact nI_clamp (by omega)
/-- the reference's end of a text that fails -/
theorem t_fail {b : Nat} (hT : T < 6) (h12 : gR 0 0 0 12 = nI T) (h26 : gR 0 0 0 26 = nI b) (hx : XR T g0R gR) : ∃ g', fX11_text_b122 gR 0 = some (g', -100 - nI b) ∧ XR T g0R g' ∧ g' 0 0 0 11 = 0 ∧ g' 0 0 0 12 = nI T := by
  unfold fX11_text_b122
  rw [h12, show (3 : Int32) = nI 3 from rfl, w4i hT (by omega), w4n hT (by omega), wLe_e, wLe_e, if_pos rfl, st_ne (by omega), st_ne (by omega), h26]
  exact ⟨_, rfl, (hx.st (by omega)).st (by omega), st_eq, by rw [st_ne (by omega), st_ne (by omega)]; exact h12⟩
/-- and of a part that fails -/
theorem t_fail' {b u : Nat} {x : Int32} (hT : T < 6) (h12 : gR 0 0 0 12 = nI T) (h26 : gR 0 0 0 26 = nI b) (hx : XR T g0R gR) : ∃ g', wLp (fun q : Mm × Int32 × Int32 => fX11_text_B26 q.1 q.2.1 q.2.2) (u + 1) (gR, 0, x) = some (g', -100 - nI b) ∧ XR T g0R g' ∧ g' 0 0 0 11 = 0 ∧ g' 0 0 0 12 = nI T := by
  obtain ⟨g', p1, p2⟩ := t_fail hT h12 h26 hx
  refine ⟨g', wLp_out ?_, p2⟩
  show fX11_text_B26 gR 0 x = _
  unfold fX11_text_B26 fX11_text_b101
  rw [if_pos rfl, if_pos rfl, p1, wEx_e]
  split <;> rfl
end TXT
