-- ===== Layer 2: what the functions compute =====
theorem wGi_ok {β : Type} {n N : Nat} {f : Option β} (h : n < N) (hN : N < 2 ^ 31) : wGi (nI n) N f = f := if_neg (vp_in_nI h hN)
theorem wGd_ok {β : Type} {c : Prop} [Decidable c] {f : Option β} (h : c) : wGd c f = f := if_pos h
theorem wGb_0 {β : Type} {f : Option β} : wGb 0 f = f := if_pos (Or.inl rfl)
theorem wGb_1 {β : Type} {f : Option β} : wGb 1 f = f := if_pos (Or.inr rfl)
theorem wLe_e {α β : Type} {x : α} {f : α → Option β} : wLe x f = f x := rfl
theorem wBd_e {α β : Type} {a : α} {f : α → Option β} : wBd (some a) f = f a := rfl
theorem wB2_e {α β γ : Type} {a : α} {b : γ} {f : α → γ → Option β} : wB2 (some (a, b)) f = f a b := rfl
theorem wEx_e {σ τ : Type} {t : τ} : wEx (σ := σ) (some t) = some (.inr t) := rfl
theorem wGr_ok {β : Type} {n : Nat} {f : Nat → Option β} (h : n < 6) : wGr (nI (n + 1)) f = f n := by
  unfold wGr
  rw [nI_clamp (by omega), if_pos (by omega)]
  rfl
theorem nI_mul (a b : Nat) : nI a * nI b = nI (a * b) := by
  unfold nI
  exact (Int32.ofNat_mul a b).symm
theorem nI_ge0 (n : Nat) (h : n < 2 ^ 31) : (nI n < 0) = False := eq_false (nI_pos h)
theorem nI_m1 {n : Nat} (h : n < 2 ^ 31) : (nI n = (-1 : Int32)) = False := eq_false fun e => by
  have h1 : (nI n).toInt = (-1 : Int32).toInt := by rw [e]
  rw [nI_toInt h] at h1
  have h2 : (-1 : Int32).toInt = -1 := rfl
  omega
theorem li_0 : (0 : Int32) = nI 0 := rfl
theorem li_1 : (1 : Int32) = nI 1 := rfl
theorem li_2 : (2 : Int32) = nI 2 := rfl
theorem li_3 : (3 : Int32) = nI 3 := rfl
theorem li_4 : (4 : Int32) = nI 4 := rfl
theorem li_5 : (5 : Int32) = nI 5 := rfl
theorem li_6 : (6 : Int32) = nI 6 := rfl
theorem li_7 : (7 : Int32) = nI 7 := rfl
theorem li_8 : (8 : Int32) = nI 8 := rfl
theorem li_9 : (9 : Int32) = nI 9 := rfl
theorem li_10 : (10 : Int32) = nI 10 := rfl
theorem li_11 : (11 : Int32) = nI 11 := rfl
theorem li_12 : (12 : Int32) = nI 12 := rfl
theorem li_13 : (13 : Int32) = nI 13 := rfl
theorem li_14 : (14 : Int32) = nI 14 := rfl
theorem li_15 : (15 : Int32) = nI 15 := rfl
theorem li_16 : (16 : Int32) = nI 16 := rfl
theorem li_17 : (17 : Int32) = nI 17 := rfl
theorem li_18 : (18 : Int32) = nI 18 := rfl
theorem li_19 : (19 : Int32) = nI 19 := rfl
theorem li_30 : (30 : Int32) = nI 30 := rfl
theorem li_32 : (32 : Int32) = nI 32 := rfl
theorem li_40 : (40 : Int32) = nI 40 := rfl
theorem li_41 : (41 : Int32) = nI 41 := rfl
theorem li_42 : (42 : Int32) = nI 42 := rfl
theorem li_43 : (43 : Int32) = nI 43 := rfl
theorem li_45 : (45 : Int32) = nI 45 := rfl
theorem li_48 : (48 : Int32) = nI 48 := rfl
theorem li_57 : (57 : Int32) = nI 57 := rfl
theorem li_59 : (59 : Int32) = nI 59 := rfl
theorem li_60 : (60 : Int32) = nI 60 := rfl
theorem li_61 : (61 : Int32) = nI 61 := rfl
theorem li_63 : (63 : Int32) = nI 63 := rfl
theorem li_97 : (97 : Int32) = nI 97 := rfl
theorem li_99 : (99 : Int32) = nI 99 := rfl
theorem li_122 : (122 : Int32) = nI 122 := rfl
theorem li_160 : (160 : Int32) = nI 160 := rfl
theorem li_200 : (200 : Int32) = nI 200 := rfl
theorem li_255 : (255 : Int32) = nI 255 := rfl
theorem li_256 : (256 : Int32) = nI 256 := rfl
theorem li_257 : (257 : Int32) = nI 257 := rfl
theorem li_258 : (258 : Int32) = nI 258 := rfl
theorem li_259 : (259 : Int32) = nI 259 := rfl
theorem li_360 : (360 : Int32) = nI 360 := rfl
theorem li_460 : (460 : Int32) = nI 460 := rfl
theorem li_462 : (462 : Int32) = nI 462 := rfl
theorem li_470 : (470 : Int32) = nI 470 := rfl
theorem li_475 : (475 : Int32) = nI 475 := rfl
theorem li_480 : (480 : Int32) = nI 480 := rfl
theorem li_481 : (481 : Int32) = nI 481 := rfl
theorem li_482 : (482 : Int32) = nI 482 := rfl
theorem li_483 : (483 : Int32) = nI 483 := rfl
theorem li_484 : (484 : Int32) = nI 484 := rfl
theorem li_490 : (490 : Int32) = nI 490 := rfl
theorem li_496 : (496 : Int32) = nI 496 := rfl
theorem li_510 : (510 : Int32) = nI 510 := rfl
theorem li_999 : (999 : Int32) = nI 999 := rfl
theorem li_9999 : (9999 : Int32) = nI 9999 := rfl
theorem li_10000 : (10000 : Int32) = nI 10000 := rfl
theorem li_10008 : (10008 : Int32) = nI 10008 := rfl
theorem li_10009 : (10009 : Int32) = nI 10009 := rfl
theorem li_10010 : (10010 : Int32) = nI 10010 := rfl
theorem li_10011 : (10011 : Int32) = nI 10011 := rfl
theorem li_10012 : (10012 : Int32) = nI 10012 := rfl
theorem li_10013 : (10013 : Int32) = nI 10013 := rfl
theorem li_10014 : (10014 : Int32) = nI 10014 := rfl
theorem li_10015 : (10015 : Int32) = nI 10015 := rfl
theorem li_10016 : (10016 : Int32) = nI 10016 := rfl
theorem li_100000 : (100000 : Int32) = nI 100000 := rfl
/-- loops that go together, n times, unless both leave before -/
theorem wLp_two {σ1 σ2 τ1 τ2 : Type} {f1 : σ1 → Option (σ1 ⊕ τ1)} {f2 : σ2 → Option (σ2 ⊕ τ2)} (Q : τ1 → τ2 → Prop) (I : Nat → σ1 → σ2 → Prop) (n : Nat)
    (hs : ∀ k s1 s2, k < n → I k s1 s2 → (∃ s1' s2', f1 s1 = some (.inl s1') ∧ f2 s2 = some (.inl s2') ∧ I (k + 1) s1' s2') ∨ ∃ t1 t2, f1 s1 = some (.inr t1) ∧ f2 s2 = some (.inr t2) ∧ Q t1 t2)
    (he : ∀ s1 s2, I n s1 s2 → ∃ t1 t2, f1 s1 = some (.inr t1) ∧ f2 s2 = some (.inr t2) ∧ Q t1 t2) {k : Nat} (hk : k ≤ n) {s1 : σ1} {s2 : σ2} (h0 : I k s1 s2) {u1 u2 : Nat} (h1 : n < k + u1) (h2 : n < k + u2) :
    ∃ t1 t2, wLp f1 u1 s1 = some t1 ∧ wLp f2 u2 s2 = some t2 ∧ Q t1 t2 := by
  induction u1 generalizing k s1 s2 u2 with
  | zero => omega
  | succ u1 ih =>
    cases u2 with
    | zero => omega
    | succ u2 =>
      have out : (∃ t1 t2, f1 s1 = some (.inr t1) ∧ f2 s2 = some (.inr t2) ∧ Q t1 t2) → ∃ t1 t2, wLp f1 (u1 + 1) s1 = some t1 ∧ wLp f2 (u2 + 1) s2 = some t2 ∧ Q t1 t2 := by
        rintro ⟨t1, t2, e1, e2, q⟩
        exact ⟨t1, t2, by unfold wLp; rw [e1], by unfold wLp; rw [e2], q⟩
      by_cases hkn : k = n
      · subst hkn
        exact out (he s1 s2 h0)
      · rcases hs k s1 s2 (by omega) h0 with ⟨s1', s2', e1, e2, h3⟩ | h3
        · obtain ⟨t1, t2, q1, q2, q⟩ := ih (k := k + 1) (u2 := u2) (by omega) h3 (by omega) (by omega)
          exact ⟨t1, t2, by unfold wLp; rw [e1]; exact q1, by unfold wLp; rw [e2]; exact q2, q⟩
        · exact out h3
/-- a loop alone -/
theorem wLp_one {σ τ : Type} {f : σ → Option (σ ⊕ τ)} (Q : τ → Prop) (I : Nat → σ → Prop) (n : Nat)
    (hs : ∀ k s, k < n → I k s → (∃ s', f s = some (.inl s') ∧ I (k + 1) s') ∨ ∃ t, f s = some (.inr t) ∧ Q t)
    (he : ∀ s, I n s → ∃ t, f s = some (.inr t) ∧ Q t) {k : Nat} (hk : k ≤ n) {s : σ} (h0 : I k s) {u : Nat} (h1 : n < k + u) : ∃ t, wLp f u s = some t ∧ Q t := by
  induction u generalizing k s with
  | zero => omega
  | succ u ih =>
    have out : (∃ t, f s = some (.inr t) ∧ Q t) → ∃ t, wLp f (u + 1) s = some t ∧ Q t := by
      rintro ⟨t, e, q⟩
      exact ⟨t, by unfold wLp; rw [e], q⟩
    by_cases hkn : k = n
    · subst hkn
      exact out (he s h0)
    · rcases hs k s (by omega) h0 with ⟨s', e, h3⟩ | h3
      · obtain ⟨t, q1, q⟩ := ih (k := k + 1) (by omega) h3 (by omega)
        exact ⟨t, by unfold wLp; rw [e]; exact q1, q⟩
      · exact out h3
-- ===== the port, of the component (port i) and of the reference =====
/-- which element (n) of the reference's array a number of the component's is -/
def ixR (nv nf ns t v j n : Nat) : Prop :=
  (t = 9 ∧ v = 0 ∧ j = 0 ∧ n = 480) ∨ (t = 10 ∧ v = 0 ∧ j < 5 ∧ n = 470 + j) ∨ (t = 10 ∧ v = 0 ∧ 5 ≤ j ∧ j < 9 ∧ n = 476 + j) ∨ (t = 11 ∧ v = 0 ∧ j < 5 ∧ n = 475 + j) ∨
  (t = 12 ∧ v = 0 ∧ j < ns ∧ n = 490 + j) ∨ (t = 13 ∧ v = 0 ∧ j < ns ∧ n = 496 + j) ∨ (t = 14 ∧ v = 0 ∧ j < 2 ∧ n = 460 + j) ∨ (t = 15 ∧ v = 0 ∧ j < 2 ∧ n = 462 + j) ∨
  (t = 19 ∧ v < nv ∧ j < 10 ∧ j ≠ 4 ∧ j ≠ 5 ∧ n = 30 * v + j) ∨ (t = 19 ∧ v < nv ∧ j = 4 ∧ n = 30 * v + 5) ∨ (t = 19 ∧ v < nv ∧ j = 5 ∧ n = 30 * v + 4) ∨
  (t = 21 ∧ v < nv ∧ j < 9 ∧ n = 30 * v + 19 + j) ∨ (t = 22 ∧ v < nf ∧ j < 6 ∧ n = 360 + 6 * v + j)
theorem ix_fun {nv nf ns t v j n t' v' j' : Nat} (hv : nv ≤ 12) (hf : nf ≤ 16) (hs : ns ≤ 6) (h : ixR nv nf ns t v j n) (h' : ixR nv nf ns t' v' j' n) : t = t' ∧ v = v' ∧ j = j' := by
  unfold ixR at h h'
  rcases h with h | h | h | h | h | h | h | h | h | h | h | h | h <;> rcases h' with h' | h' | h' | h' | h' | h' | h' | h' | h' | h' | h' | h' | h' <;> first | (exfalso; omega) | (refine ⟨?_, ?_, ?_⟩ <;> omega)
theorem ix_val {nv nf ns t v j n n' : Nat} (h : ixR nv nf ns t v j n) (h' : ixR nv nf ns t v j n') : n = n' := by
  unfold ixR at h h'
  rcases h with h | h | h | h | h | h | h | h | h | h | h | h | h <;> rcases h' with h' | h' | h' | h' | h' | h' | h' | h' | h' | h' | h' | h' | h' <;> omega
theorem ix_lt {nv nf ns t v j n : Nat} (hv : nv ≤ 12) (hf : nf ≤ 16) (hs : ns ≤ 6) (h : ixR nv nf ns t v j n) : n < 510 := by
  unfold ixR at h
  rcases h with h | h | h | h | h | h | h | h | h | h | h | h | h <;> omega
/-- what the reference's array is, whatever is played -/
def PI (p : Nat → Int32) (nv nf ns : Nat) : Prop :=
  (nv ≤ 12 ∧ nf ≤ 16 ∧ ns ≤ 6) ∧ (∃ t : Nat, t ≤ 10000 ∧ p 480 = nI t) ∧ (p 484 = 1 ∨ p 484 = 2) ∧ (∀ r, r < 2 → p (462 + r) = -1 ∨ ∃ n : Nat, n < 6 ∧ p (462 + r) = nI n) ∧
  (∀ v, v < nv → (∃ n : Nat, n < 6 ∧ p (30 * v) = nI n) ∧ (p (30 * v + 4) = -1 ∨ ∃ n : Nat, n < ns ∧ p (30 * v + 4) = nI n) ∧ (∃ n : Nat, n ≤ 8 ∧ p (30 * v + 6) = nI n) ∧ (p (30 * v + 8) = -1 ∨ ∃ n : Nat, n < ns ∧ p (30 * v + 8) = nI n)) ∧
  (∀ v, v < nv → (p (30 * v + 10) = -1000 ∨ ∃ u : Nat, u ≤ 10000 ∧ p (30 * v + 10) = nI u) ∧ ∀ a, a < 8 → ∃ n : Nat, n ≤ 40 ∧ p (30 * v + 11 + a) = nI n) ∧
  (∀ v, v < nv → (∀ n, 2 ≤ n → n ≤ 4 → p (30 * v + 6) = nI n → ∃ s : Nat, s < ns ∧ p (30 * v + 8) = nI s) ∧ (∀ n, n ≤ 4 → p (30 * v + 6) = nI n → p (30 * v + 9) &&& 128 = 0) ∧ (p (30 * v + 18) ≠ 0 → p (30 * v + 6) = nI 4)) ∧
  (∀ f, f < nf → (∃ n : Nat, n < nv ∧ p (360 + 6 * f) = nI n) ∧ (∃ n : Nat, n < nv ∧ p (360 + 6 * f + 1) = nI n)) ∧
  (∀ s, s < 6 → p (496 + s) = -1 ∨ ∃ n : Nat, (s < ns ∧ n < 12) ∧ p (496 + s) = nI n)
/-- the tables that the reference's object holds -/
def KR (g : Mm) : Prop := (∀ j, j < 48 → g 13 0 0 j = sV 5 j) ∧ (∀ j, j < 6 → g 14 0 0 j = sV 3 j) ∧ (∀ j, j < 6 → g 15 0 0 j = sV 4 j) ∧ (∀ j, j < 8 → g 16 0 0 j = sV 7 j) ∧ (∀ j, j < 8 → g 17 0 0 j = sV 6 j)
/-- the acts under way, and when it was iced -/
def UI (i : Nat) (gC : Mm) (p : Nat → Int32) (nv : Nat) : Prop := ∀ v, v < nv →
  (∃ m : Nat, m < 256 ∧ gC 19 i v 10 = nI m ∧ ∀ a, a < 8 → (m.testBit a = true ↔ p (30 * v + 11 + a) ≠ 0) ∧ (m.testBit a = true → gC 20 i v a = p (30 * v + 11 + a))) ∧
  ((gC 19 i v 12 = -1 ∧ p (30 * v + 10) = -1000) ∨ ∃ u : Nat, u ≤ 10000 ∧ gC 19 i v 12 = nI u ∧ p (30 * v + 10) = nI u)
def EQ (i : Nat) (gC : Mm) (p : Nat → Int32) (nv nf ns : Nat) : Prop := ∀ t v j n, ixR nv nf ns t v j n → gC t i v j = p n
/-- port i of the component is the reference's -/
def PS (i : Nat) (gC gR : Mm) (nv nf ns : Nat) : Prop :=
  (gC 9 i 0 1 = nI ns ∧ gC 9 i 0 2 = nI nv ∧ gC 9 i 0 3 = nI nf) ∧ (gR 0 0 0 1 = nI nv ∧ gR 0 0 0 2 = nI nf ∧ gR 0 0 0 3 = nI ns) ∧ EQ i gC (gR 1 0 0) nv nf ns ∧ UI i gC (gR 1 0 0) nv ∧ PI (gR 1 0 0) nv nf ns ∧ KR gR
section PSR
variable {i : Nat} {gC gR : Mm} {nv nf ns : Nat}
theorem PS.nv12 (h : PS i gC gR nv nf ns) : nv ≤ 12 := h.2.2.2.2.1.1.1
theorem PS.nf16 (h : PS i gC gR nv nf ns) : nf ≤ 16 := h.2.2.2.2.1.1.2.1
theorem PS.ns6 (h : PS i gC gR nv nf ns) : ns ≤ 6 := h.2.2.2.2.1.1.2.2
theorem ix_e9 {nv nf ns : Nat} : ixR nv nf ns 9 0 0 (480) := Or.inl (⟨rfl, rfl, rfl, rfl⟩)
theorem PS.e9 (h : PS i gC gR nv nf ns) : gC 9 i 0 0 = gR 1 0 0 (480) := h.2.2.1 9 0 0 _ (ix_e9 )
theorem ix_e10_0 {nv nf ns : Nat} : ixR nv nf ns 10 0 0 (470) := Or.inr (Or.inl (⟨rfl, rfl, by decide, rfl⟩))
theorem PS.e10_0 (h : PS i gC gR nv nf ns) : gC 10 i 0 0 = gR 1 0 0 (470) := h.2.2.1 10 0 0 _ (ix_e10_0 )
theorem ix_e10_1 {nv nf ns : Nat} : ixR nv nf ns 10 0 1 (471) := Or.inr (Or.inl (⟨rfl, rfl, by decide, rfl⟩))
theorem PS.e10_1 (h : PS i gC gR nv nf ns) : gC 10 i 0 1 = gR 1 0 0 (471) := h.2.2.1 10 0 1 _ (ix_e10_1 )
theorem ix_e10_2 {nv nf ns : Nat} : ixR nv nf ns 10 0 2 (472) := Or.inr (Or.inl (⟨rfl, rfl, by decide, rfl⟩))
theorem PS.e10_2 (h : PS i gC gR nv nf ns) : gC 10 i 0 2 = gR 1 0 0 (472) := h.2.2.1 10 0 2 _ (ix_e10_2 )
theorem ix_e10_3 {nv nf ns : Nat} : ixR nv nf ns 10 0 3 (473) := Or.inr (Or.inl (⟨rfl, rfl, by decide, rfl⟩))
theorem PS.e10_3 (h : PS i gC gR nv nf ns) : gC 10 i 0 3 = gR 1 0 0 (473) := h.2.2.1 10 0 3 _ (ix_e10_3 )
theorem ix_e10_4 {nv nf ns : Nat} : ixR nv nf ns 10 0 4 (474) := Or.inr (Or.inl (⟨rfl, rfl, by decide, rfl⟩))
theorem PS.e10_4 (h : PS i gC gR nv nf ns) : gC 10 i 0 4 = gR 1 0 0 (474) := h.2.2.1 10 0 4 _ (ix_e10_4 )
theorem ix_e10_5 {nv nf ns : Nat} : ixR nv nf ns 10 0 5 (481) := Or.inr (Or.inr (Or.inl (⟨rfl, rfl, by decide, by decide, rfl⟩)))
theorem PS.e10_5 (h : PS i gC gR nv nf ns) : gC 10 i 0 5 = gR 1 0 0 (481) := h.2.2.1 10 0 5 _ (ix_e10_5 )
theorem ix_e10_6 {nv nf ns : Nat} : ixR nv nf ns 10 0 6 (482) := Or.inr (Or.inr (Or.inl (⟨rfl, rfl, by decide, by decide, rfl⟩)))
theorem PS.e10_6 (h : PS i gC gR nv nf ns) : gC 10 i 0 6 = gR 1 0 0 (482) := h.2.2.1 10 0 6 _ (ix_e10_6 )
theorem ix_e10_7 {nv nf ns : Nat} : ixR nv nf ns 10 0 7 (483) := Or.inr (Or.inr (Or.inl (⟨rfl, rfl, by decide, by decide, rfl⟩)))
theorem PS.e10_7 (h : PS i gC gR nv nf ns) : gC 10 i 0 7 = gR 1 0 0 (483) := h.2.2.1 10 0 7 _ (ix_e10_7 )
theorem ix_e10_8 {nv nf ns : Nat} : ixR nv nf ns 10 0 8 (484) := Or.inr (Or.inr (Or.inl (⟨rfl, rfl, by decide, by decide, rfl⟩)))
theorem PS.e10_8 (h : PS i gC gR nv nf ns) : gC 10 i 0 8 = gR 1 0 0 (484) := h.2.2.1 10 0 8 _ (ix_e10_8 )
theorem ix_e11_0 {nv nf ns : Nat} : ixR nv nf ns 11 0 0 (475) := Or.inr (Or.inr (Or.inr (Or.inl (⟨rfl, rfl, by decide, rfl⟩))))
theorem PS.e11_0 (h : PS i gC gR nv nf ns) : gC 11 i 0 0 = gR 1 0 0 (475) := h.2.2.1 11 0 0 _ (ix_e11_0 )
theorem ix_e11_1 {nv nf ns : Nat} : ixR nv nf ns 11 0 1 (476) := Or.inr (Or.inr (Or.inr (Or.inl (⟨rfl, rfl, by decide, rfl⟩))))
theorem PS.e11_1 (h : PS i gC gR nv nf ns) : gC 11 i 0 1 = gR 1 0 0 (476) := h.2.2.1 11 0 1 _ (ix_e11_1 )
theorem ix_e11_2 {nv nf ns : Nat} : ixR nv nf ns 11 0 2 (477) := Or.inr (Or.inr (Or.inr (Or.inl (⟨rfl, rfl, by decide, rfl⟩))))
theorem PS.e11_2 (h : PS i gC gR nv nf ns) : gC 11 i 0 2 = gR 1 0 0 (477) := h.2.2.1 11 0 2 _ (ix_e11_2 )
theorem ix_e11_3 {nv nf ns : Nat} : ixR nv nf ns 11 0 3 (478) := Or.inr (Or.inr (Or.inr (Or.inl (⟨rfl, rfl, by decide, rfl⟩))))
theorem PS.e11_3 (h : PS i gC gR nv nf ns) : gC 11 i 0 3 = gR 1 0 0 (478) := h.2.2.1 11 0 3 _ (ix_e11_3 )
theorem ix_e11_4 {nv nf ns : Nat} : ixR nv nf ns 11 0 4 (479) := Or.inr (Or.inr (Or.inr (Or.inl (⟨rfl, rfl, by decide, rfl⟩))))
theorem PS.e11_4 (h : PS i gC gR nv nf ns) : gC 11 i 0 4 = gR 1 0 0 (479) := h.2.2.1 11 0 4 _ (ix_e11_4 )
theorem ix_e10s {nv nf ns : Nat} {s : Nat} (hs : s < 5) : ixR nv nf ns 10 0 s (470 + s) := Or.inr (Or.inl (⟨rfl, rfl, hs, rfl⟩))
theorem PS.e10s (h : PS i gC gR nv nf ns) {s : Nat} (hs : s < 5) : gC 10 i 0 s = gR 1 0 0 (470 + s) := h.2.2.1 10 0 s _ (ix_e10s hs)
theorem ix_e11s {nv nf ns : Nat} {s : Nat} (hs : s < 5) : ixR nv nf ns 11 0 s (475 + s) := Or.inr (Or.inr (Or.inr (Or.inl (⟨rfl, rfl, hs, rfl⟩))))
theorem PS.e11s (h : PS i gC gR nv nf ns) {s : Nat} (hs : s < 5) : gC 11 i 0 s = gR 1 0 0 (475 + s) := h.2.2.1 11 0 s _ (ix_e11s hs)
theorem ix_e12 {nv nf ns : Nat} {s : Nat} (hs : s < ns) : ixR nv nf ns 12 0 s (490 + s) := Or.inr (Or.inr (Or.inr (Or.inr (Or.inl (⟨rfl, rfl, hs, rfl⟩)))))
theorem PS.e12 (h : PS i gC gR nv nf ns) {s : Nat} (hs : s < ns) : gC 12 i 0 s = gR 1 0 0 (490 + s) := h.2.2.1 12 0 s _ (ix_e12 hs)
theorem ix_e13 {nv nf ns : Nat} {s : Nat} (hs : s < ns) : ixR nv nf ns 13 0 s (496 + s) := Or.inr (Or.inr (Or.inr (Or.inr (Or.inr (Or.inl (⟨rfl, rfl, hs, rfl⟩))))))
theorem PS.e13 (h : PS i gC gR nv nf ns) {s : Nat} (hs : s < ns) : gC 13 i 0 s = gR 1 0 0 (496 + s) := h.2.2.1 13 0 s _ (ix_e13 hs)
theorem ix_e14 {nv nf ns : Nat} {r : Nat} (hr : r < 2) : ixR nv nf ns 14 0 r (460 + r) := Or.inr (Or.inr (Or.inr (Or.inr (Or.inr (Or.inr (Or.inl (⟨rfl, rfl, hr, rfl⟩)))))))
theorem PS.e14 (h : PS i gC gR nv nf ns) {r : Nat} (hr : r < 2) : gC 14 i 0 r = gR 1 0 0 (460 + r) := h.2.2.1 14 0 r _ (ix_e14 hr)
theorem ix_e15 {nv nf ns : Nat} {r : Nat} (hr : r < 2) : ixR nv nf ns 15 0 r (462 + r) := Or.inr (Or.inr (Or.inr (Or.inr (Or.inr (Or.inr (Or.inr (Or.inl (⟨rfl, rfl, hr, rfl⟩))))))))
theorem PS.e15 (h : PS i gC gR nv nf ns) {r : Nat} (hr : r < 2) : gC 15 i 0 r = gR 1 0 0 (462 + r) := h.2.2.1 15 0 r _ (ix_e15 hr)
theorem ix_v0 {nv nf ns : Nat} {v : Nat} (hv : v < nv) : ixR nv nf ns 19 v 0 (30 * v) := Or.inr (Or.inr (Or.inr (Or.inr (Or.inr (Or.inr (Or.inr (Or.inr (Or.inl (⟨rfl, hv, by decide, by decide, by decide, rfl⟩)))))))))
theorem PS.v0 (h : PS i gC gR nv nf ns) {v : Nat} (hv : v < nv) : gC 19 i v 0 = gR 1 0 0 (30 * v) := h.2.2.1 19 v 0 _ (ix_v0 hv)
theorem ix_v1 {nv nf ns : Nat} {v : Nat} (hv : v < nv) : ixR nv nf ns 19 v 1 (30 * v + 1) := Or.inr (Or.inr (Or.inr (Or.inr (Or.inr (Or.inr (Or.inr (Or.inr (Or.inl (⟨rfl, hv, by decide, by decide, by decide, rfl⟩)))))))))
theorem PS.v1 (h : PS i gC gR nv nf ns) {v : Nat} (hv : v < nv) : gC 19 i v 1 = gR 1 0 0 (30 * v + 1) := h.2.2.1 19 v 1 _ (ix_v1 hv)
theorem ix_v2 {nv nf ns : Nat} {v : Nat} (hv : v < nv) : ixR nv nf ns 19 v 2 (30 * v + 2) := Or.inr (Or.inr (Or.inr (Or.inr (Or.inr (Or.inr (Or.inr (Or.inr (Or.inl (⟨rfl, hv, by decide, by decide, by decide, rfl⟩)))))))))
theorem PS.v2 (h : PS i gC gR nv nf ns) {v : Nat} (hv : v < nv) : gC 19 i v 2 = gR 1 0 0 (30 * v + 2) := h.2.2.1 19 v 2 _ (ix_v2 hv)
theorem ix_v3 {nv nf ns : Nat} {v : Nat} (hv : v < nv) : ixR nv nf ns 19 v 3 (30 * v + 3) := Or.inr (Or.inr (Or.inr (Or.inr (Or.inr (Or.inr (Or.inr (Or.inr (Or.inl (⟨rfl, hv, by decide, by decide, by decide, rfl⟩)))))))))
theorem PS.v3 (h : PS i gC gR nv nf ns) {v : Nat} (hv : v < nv) : gC 19 i v 3 = gR 1 0 0 (30 * v + 3) := h.2.2.1 19 v 3 _ (ix_v3 hv)
theorem ix_v4 {nv nf ns : Nat} {v : Nat} (hv : v < nv) : ixR nv nf ns 19 v 4 (30 * v + 5) := Or.inr (Or.inr (Or.inr (Or.inr (Or.inr (Or.inr (Or.inr (Or.inr (Or.inr (Or.inl (⟨rfl, hv, rfl, rfl⟩))))))))))
theorem PS.v4 (h : PS i gC gR nv nf ns) {v : Nat} (hv : v < nv) : gC 19 i v 4 = gR 1 0 0 (30 * v + 5) := h.2.2.1 19 v 4 _ (ix_v4 hv)
theorem ix_v5 {nv nf ns : Nat} {v : Nat} (hv : v < nv) : ixR nv nf ns 19 v 5 (30 * v + 4) := Or.inr (Or.inr (Or.inr (Or.inr (Or.inr (Or.inr (Or.inr (Or.inr (Or.inr (Or.inr (Or.inl (⟨rfl, hv, rfl, rfl⟩)))))))))))
theorem PS.v5 (h : PS i gC gR nv nf ns) {v : Nat} (hv : v < nv) : gC 19 i v 5 = gR 1 0 0 (30 * v + 4) := h.2.2.1 19 v 5 _ (ix_v5 hv)
theorem ix_v6 {nv nf ns : Nat} {v : Nat} (hv : v < nv) : ixR nv nf ns 19 v 6 (30 * v + 6) := Or.inr (Or.inr (Or.inr (Or.inr (Or.inr (Or.inr (Or.inr (Or.inr (Or.inl (⟨rfl, hv, by decide, by decide, by decide, rfl⟩)))))))))
theorem PS.v6 (h : PS i gC gR nv nf ns) {v : Nat} (hv : v < nv) : gC 19 i v 6 = gR 1 0 0 (30 * v + 6) := h.2.2.1 19 v 6 _ (ix_v6 hv)
theorem ix_v7 {nv nf ns : Nat} {v : Nat} (hv : v < nv) : ixR nv nf ns 19 v 7 (30 * v + 7) := Or.inr (Or.inr (Or.inr (Or.inr (Or.inr (Or.inr (Or.inr (Or.inr (Or.inl (⟨rfl, hv, by decide, by decide, by decide, rfl⟩)))))))))
theorem PS.v7 (h : PS i gC gR nv nf ns) {v : Nat} (hv : v < nv) : gC 19 i v 7 = gR 1 0 0 (30 * v + 7) := h.2.2.1 19 v 7 _ (ix_v7 hv)
theorem ix_v8 {nv nf ns : Nat} {v : Nat} (hv : v < nv) : ixR nv nf ns 19 v 8 (30 * v + 8) := Or.inr (Or.inr (Or.inr (Or.inr (Or.inr (Or.inr (Or.inr (Or.inr (Or.inl (⟨rfl, hv, by decide, by decide, by decide, rfl⟩)))))))))
theorem PS.v8 (h : PS i gC gR nv nf ns) {v : Nat} (hv : v < nv) : gC 19 i v 8 = gR 1 0 0 (30 * v + 8) := h.2.2.1 19 v 8 _ (ix_v8 hv)
theorem ix_v9 {nv nf ns : Nat} {v : Nat} (hv : v < nv) : ixR nv nf ns 19 v 9 (30 * v + 9) := Or.inr (Or.inr (Or.inr (Or.inr (Or.inr (Or.inr (Or.inr (Or.inr (Or.inl (⟨rfl, hv, by decide, by decide, by decide, rfl⟩)))))))))
theorem PS.v9 (h : PS i gC gR nv nf ns) {v : Nat} (hv : v < nv) : gC 19 i v 9 = gR 1 0 0 (30 * v + 9) := h.2.2.1 19 v 9 _ (ix_v9 hv)
theorem ix_c21 {nv nf ns : Nat} {v c : Nat} (hv : v < nv) (hc : c < 9) : ixR nv nf ns 21 v c (30 * v + 19 + c) := Or.inr (Or.inr (Or.inr (Or.inr (Or.inr (Or.inr (Or.inr (Or.inr (Or.inr (Or.inr (Or.inr (Or.inl (⟨rfl, hv, hc, rfl⟩))))))))))))
theorem PS.c21 (h : PS i gC gR nv nf ns) {v c : Nat} (hv : v < nv) (hc : c < 9) : gC 21 i v c = gR 1 0 0 (30 * v + 19 + c) := h.2.2.1 21 v c _ (ix_c21 hv hc)
theorem ix_f0 {nv nf ns : Nat} {f : Nat} (hf : f < nf) : ixR nv nf ns 22 f 0 (360 + 6 * f) := Or.inr (Or.inr (Or.inr (Or.inr (Or.inr (Or.inr (Or.inr (Or.inr (Or.inr (Or.inr (Or.inr (Or.inr (⟨rfl, hf, by decide, rfl⟩))))))))))))
theorem PS.f0 (h : PS i gC gR nv nf ns) {f : Nat} (hf : f < nf) : gC 22 i f 0 = gR 1 0 0 (360 + 6 * f) := h.2.2.1 22 f 0 _ (ix_f0 hf)
theorem ix_f1 {nv nf ns : Nat} {f : Nat} (hf : f < nf) : ixR nv nf ns 22 f 1 (360 + 6 * f + 1) := Or.inr (Or.inr (Or.inr (Or.inr (Or.inr (Or.inr (Or.inr (Or.inr (Or.inr (Or.inr (Or.inr (Or.inr (⟨rfl, hf, by decide, rfl⟩))))))))))))
theorem PS.f1 (h : PS i gC gR nv nf ns) {f : Nat} (hf : f < nf) : gC 22 i f 1 = gR 1 0 0 (360 + 6 * f + 1) := h.2.2.1 22 f 1 _ (ix_f1 hf)
theorem ix_f2 {nv nf ns : Nat} {f : Nat} (hf : f < nf) : ixR nv nf ns 22 f 2 (360 + 6 * f + 2) := Or.inr (Or.inr (Or.inr (Or.inr (Or.inr (Or.inr (Or.inr (Or.inr (Or.inr (Or.inr (Or.inr (Or.inr (⟨rfl, hf, by decide, rfl⟩))))))))))))
theorem PS.f2 (h : PS i gC gR nv nf ns) {f : Nat} (hf : f < nf) : gC 22 i f 2 = gR 1 0 0 (360 + 6 * f + 2) := h.2.2.1 22 f 2 _ (ix_f2 hf)
theorem ix_f3 {nv nf ns : Nat} {f : Nat} (hf : f < nf) : ixR nv nf ns 22 f 3 (360 + 6 * f + 3) := Or.inr (Or.inr (Or.inr (Or.inr (Or.inr (Or.inr (Or.inr (Or.inr (Or.inr (Or.inr (Or.inr (Or.inr (⟨rfl, hf, by decide, rfl⟩))))))))))))
theorem PS.f3 (h : PS i gC gR nv nf ns) {f : Nat} (hf : f < nf) : gC 22 i f 3 = gR 1 0 0 (360 + 6 * f + 3) := h.2.2.1 22 f 3 _ (ix_f3 hf)
theorem ix_f4 {nv nf ns : Nat} {f : Nat} (hf : f < nf) : ixR nv nf ns 22 f 4 (360 + 6 * f + 4) := Or.inr (Or.inr (Or.inr (Or.inr (Or.inr (Or.inr (Or.inr (Or.inr (Or.inr (Or.inr (Or.inr (Or.inr (⟨rfl, hf, by decide, rfl⟩))))))))))))
theorem PS.f4 (h : PS i gC gR nv nf ns) {f : Nat} (hf : f < nf) : gC 22 i f 4 = gR 1 0 0 (360 + 6 * f + 4) := h.2.2.1 22 f 4 _ (ix_f4 hf)
theorem ix_f5 {nv nf ns : Nat} {f : Nat} (hf : f < nf) : ixR nv nf ns 22 f 5 (360 + 6 * f + 5) := Or.inr (Or.inr (Or.inr (Or.inr (Or.inr (Or.inr (Or.inr (Or.inr (Or.inr (Or.inr (Or.inr (Or.inr (⟨rfl, hf, by decide, rfl⟩))))))))))))
theorem PS.f5 (h : PS i gC gR nv nf ns) {f : Nat} (hf : f < nf) : gC 22 i f 5 = gR 1 0 0 (360 + 6 * f + 5) := h.2.2.1 22 f 5 _ (ix_f5 hf)
end PSR
