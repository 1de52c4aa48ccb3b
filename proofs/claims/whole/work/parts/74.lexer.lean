-- ===== tokens =====
theorem scan (p : Nat → Prop) (K : Nat) : ∀ n a, a + n = K → ∃ b, a ≤ b ∧ b ≤ K ∧ (∀ j, a ≤ j → j < b → p j) ∧ (b = K ∨ ¬ p b) := by
  intro n
  induction n with
  | zero => intro a h; exact ⟨a, Nat.le_refl _, by omega, fun j h1 h2 => absurd h1 (by omega), Or.inl (by omega)⟩
  | succ n ih =>
    intro a h
    by_cases c : p a
    · obtain ⟨b, b1, b2, b3, b4⟩ := ih (a + 1) (by omega)
      refine ⟨b, by omega, b2, fun j h1 h2 => ?_, b4⟩
      by_cases e : j = a
      · subst e; exact c
      · exact b3 j (by omega) h2
    · exact ⟨a, Nat.le_refl _, by omega, fun j h1 h2 => absurd h1 (by omega), Or.inr c⟩
def blk (x : Nat) : Prop := x = 32 ∨ x = 10
def ltr (x : Nat) : Prop := 97 ≤ x ∧ x ≤ 122
def dgt (x : Nat) : Prop := 48 ≤ x ∧ x ≤ 57
def sgn (x : Nat) : Prop := x = 40 ∨ x = 41 ∨ x = 59 ∨ x = 43 ∨ x = 45 ∨ x = 42 ∨ x = 60 ∨ x = 61
/-- the component's tape, and the reference's -/
def TpC (g : Mm) (K : Nat) (tp : Nat → Nat) : Prop := K ≤ 160 ∧ g 3 0 0 1 = nI K ∧ ∀ j, j < K → tp j < 256 ∧ g 4 0 0 j = nI (tp j)
def TpR (g : Mm) (K : Nat) (tp : Nat → Nat) : Prop := K ≤ 160 ∧ g 0 0 0 11 = nI K ∧ ∀ j, j < K → tp j < 256 ∧ g 6 0 0 j = nI (tp j)
theorem TpC.st {g : Mm} {K : Nat} {tp : Nat → Nat} {j : Nat} {x : Int32} (h : TpC g K tp) (hj : j ≠ 1) : TpC (st g 3 0 0 j x) K tp := ⟨h.1, (st_ne (by omega)).trans h.2.1, fun k hk => ⟨(h.2.2 k hk).1, (st_ne (by omega)).trans (h.2.2 k hk).2⟩⟩
theorem TpR.st {g : Mm} {K : Nat} {tp : Nat → Nat} {j : Nat} {x : Int32} (h : TpR g K tp) (hj : j ≠ 11) : TpR (st g 0 0 0 j x) K tp := ⟨h.1, (st_ne (by omega)).trans h.2.1, fun k hk => ⟨(h.2.2 k hk).1, (st_ne (by omega)).trans (h.2.2 k hk).2⟩⟩
theorem nI_ne {a b : Nat} (ha : a < 2 ^ 31) (hb : b < 2 ^ 31) (h : a ≠ b) : ¬ nI a = nI b := fun e => h ((nI_eq ha hb).mp e)
theorem blank_ev {g : Mm} {x : Nat} (hx : x < 256) : (blk x → fX5_isBlank g (nI x) = some 1) ∧ (¬ blk x → fX5_isBlank g (nI x) = some 0) := by
  unfold fX5_isBlank blk
  constructor
  · rintro (rfl | rfl) <;> rfl
  · intro h
    rw [if_neg (show ¬ nI x = 32 from nI_ne (b := 32) (by omega) (by omega) (by omega)), if_neg (show ¬ nI x = 10 from nI_ne (b := 10) (by omega) (by omega) (by omega))]
theorem letter_ev {g : Mm} {x : Nat} (hx : x < 256) : (ltr x → fX5_isLetter g (nI x) = some 1) ∧ (¬ ltr x → fX5_isLetter g (nI x) = some 0) := by
  unfold fX5_isLetter ltr
  by_cases c : x < 97
  · rw [if_pos (show nI x < 97 from nI_lt (b := 97) c (by omega))]
    exact ⟨fun h => absurd h (by omega), fun _ => rfl⟩
  · rw [if_neg (show ¬ nI x < 97 from nI_nlt (b := 97) (by omega) (by omega))]
    by_cases d : 122 < x
    · rw [if_pos (show 122 < nI x from nI_lt (a := 122) d (by omega))]
      exact ⟨fun h => absurd h (by omega), fun _ => rfl⟩
    · rw [if_neg (show ¬ 122 < nI x from nI_nlt (a := 122) (by omega) (by omega))]
      exact ⟨fun _ => rfl, fun h => absurd h (by omega)⟩
theorem digit_ev {g : Mm} {x : Nat} (hx : x < 256) : (dgt x → fX5_isDigit g (nI x) = some 1) ∧ (¬ dgt x → fX5_isDigit g (nI x) = some 0) := by
  unfold fX5_isDigit dgt
  by_cases c : x < 48
  · rw [if_pos (show nI x < 48 from nI_lt (b := 48) c (by omega))]
    exact ⟨fun h => absurd h (by omega), fun _ => rfl⟩
  · rw [if_neg (show ¬ nI x < 48 from nI_nlt (b := 48) (by omega) (by omega))]
    by_cases d : 57 < x
    · rw [if_pos (show 57 < nI x from nI_lt (a := 57) d (by omega))]
      exact ⟨fun h => absurd h (by omega), fun _ => rfl⟩
    · rw [if_neg (show ¬ 57 < nI x from nI_nlt (a := 57) (by omega) (by omega))]
      exact ⟨fun _ => rfl, fun h => absurd h (by omega)⟩
theorem inL_ev {g : Mm} {x : Nat} (hx : x < 256) : (ltr x → fX11_in g (nI x) 97 122 = some 1) ∧ (¬ ltr x → fX11_in g (nI x) 97 122 = some 0) := by
  have e : fX11_in g (nI x) 97 122 = some (if 97 ≤ x ∧ x ≤ 122 then 1 else 0) := in_ev (lo := 97) (hi := 122) (by omega) (by omega) (by omega)
  unfold ltr
  rw [e]
  exact ⟨fun h => by rw [if_pos h], fun h => by rw [if_neg h]⟩
theorem inD_ev {g : Mm} {x : Nat} (hx : x < 256) : (dgt x → fX11_in g (nI x) 48 57 = some 1) ∧ (¬ dgt x → fX11_in g (nI x) 48 57 = some 0) := by
  have e : fX11_in g (nI x) 48 57 = some (if 48 ≤ x ∧ x ≤ 57 then 1 else 0) := in_ev (lo := 48) (hi := 57) (by omega) (by omega) (by omega)
  unfold dgt
  rw [e]
  exact ⟨fun h => by rw [if_pos h], fun h => by rw [if_neg h]⟩
section LEX
variable {g : Mm} {K : Nat} {tp : Nat → Nat}
/-- blanks are passed over: the component -/
theorem skipC {a b : Nat} {t : Mm} (h : TpC g K tp) (ha : g 3 0 0 2 = nI a) (hab : a ≤ b) (hb : b ≤ K) (h1 : ∀ j, a ≤ j → j < b → blk (tp j)) (h2 : b = K ∨ ¬ blk (tp b)) (ht : fX5_next_b39 (st g 3 0 0 2 (nI b)) = some t) : fX5_next g = some t := by
  have hK := h.1
  obtain ⟨t', p1, p2⟩ := wLp_one (f := fun q : Mm => fX5_next_B0 q) (fun t' => t' = t) (fun n s => s = st g 3 0 0 2 (nI (a + n))) (b - a)
    (fun n s hn e => by
      subst e
      left
      have hh := h.st (j := 2) (x := nI (a + n)) (by decide)
      obtain ⟨x1, x2⟩ := hh.2.2 (a + n) (by omega)
      try dsimp only
      unfold fX5_next_B0
      rw [hh.2.1, st_eq, if_neg (nI_ge (show a + n < K by omega) (by omega)), wGi_ok (by omega) (by omega), nI_clamp (by omega), x2, (blank_ev x1).1 (h1 (a + n) (by omega) (by omega)), wBd_e, if_neg c10, wLe_e, nI_1]
      refine ⟨_, rfl, ?_⟩
      funext t' i' v' j'
      unfold st
      by_cases c : t' = 3 ∧ i' = 0 ∧ v' = 0 ∧ j' = 2
      · rw [if_pos c, if_pos c, Nat.add_assoc]
      · rw [if_neg c, if_neg c, if_neg c])
    (fun s e => by
      subst e
      have hh := h.st (j := 2) (x := nI (a + (b - a))) (by decide)
      have eb : a + (b - a) = b := by omega
      rw [eb] at hh ⊢
      try dsimp only
      unfold fX5_next_B0
      rw [hh.2.1, st_eq]
      by_cases c : b = K
      · rw [if_pos (nI_le (show K ≤ b by omega) (by omega)), ht, wEx_e]
        exact ⟨_, rfl, rfl⟩
      · obtain ⟨x1, x2⟩ := hh.2.2 b (by omega)
        rw [if_neg (nI_ge (show b < K by omega) (by omega)), wGi_ok (by omega) (by omega), nI_clamp (by omega), x2, (blank_ev x1).2 (h2.resolve_left c), wBd_e, if_pos rfl, ht, wEx_e]
        exact ⟨_, rfl, rfl⟩)
    (k := 0) (Nat.zero_le _) (s := g) (st_same ha).symm (u := 1000) (by omega)
  subst p2
  exact p1
theorem skipR {a b : Nat} {t : Mm} (h : TpR g K tp) (ha : g 0 0 0 25 = nI a) (hab : a ≤ b) (hb : b ≤ K) (h1 : ∀ j, a ≤ j → j < b → blk (tp j)) (h2 : b = K ∨ ¬ blk (tp b)) (ht : fX11_next_b52 (st g 0 0 0 25 (nI b)) = some t) : fX11_next g = some t := by
  have hK := h.1
  obtain ⟨t', p1, p2⟩ := wLp_one (f := fun q : Mm => fX11_next_B0 q) (fun t' => t' = t) (fun n s => s = st g 0 0 0 25 (nI (a + n))) (b - a)
    (fun n s hn e => by
      subst e
      left
      have hh := h.st (j := 25) (x := nI (a + n)) (by decide)
      obtain ⟨x1, x2⟩ := hh.2.2 (a + n) (by omega)
      have st' : ∃ s', fX11_next_b39 (st g 0 0 0 25 (nI (a + n))) = some (.inl s') ∧ s' = st g 0 0 0 25 (nI (a + (n + 1))) := by
        unfold fX11_next_b39
        rw [st_eq, wLe_e, nI_1]
        refine ⟨_, rfl, ?_⟩
        funext t' i' v' j'
        unfold st
        by_cases c : t' = 0 ∧ i' = 0 ∧ v' = 0 ∧ j' = 25
        · rw [if_pos c, if_pos c, Nat.add_assoc]
        · rw [if_neg c, if_neg c, if_neg c]
      try dsimp only
      unfold fX11_next_B0
      rw [hh.2.1, st_eq, if_neg (nI_ge (show a + n < K by omega) (by omega)), wGi_ok (by omega) (by omega), nI_clamp (by omega), x2]
      rcases h1 (a + n) (by omega) (by omega) with e | e
      · rw [if_pos (show nI (tp (a + n)) = 32 by rw [e]; rfl)]; exact st'
      · rw [if_neg (show ¬ nI (tp (a + n)) = 32 by rw [e]; decide), wGi_ok (by omega) (by omega), if_pos (show nI (tp (a + n)) = 10 by rw [e]; rfl)]; exact st')
    (fun s e => by
      subst e
      have hh := h.st (j := 25) (x := nI (a + (b - a))) (by decide)
      have eb : a + (b - a) = b := by omega
      rw [eb] at hh ⊢
      try dsimp only
      unfold fX11_next_B0
      rw [hh.2.1, st_eq]
      by_cases c : b = K
      · rw [if_pos (nI_le (show K ≤ b by omega) (by omega)), ht, wEx_e]
        exact ⟨_, rfl, rfl⟩
      · obtain ⟨x1, x2⟩ := hh.2.2 b (by omega)
        have nb := h2.resolve_left c
        unfold blk at nb
        rw [if_neg (nI_ge (show b < K by omega) (by omega)), wGi_ok (by omega) (by omega), nI_clamp (by omega), x2, if_neg (show ¬ nI (tp b) = 32 from nI_ne (b := 32) (by omega) (by omega) (by omega)), wGi_ok (by omega) (by omega), if_neg (show ¬ nI (tp b) = 10 from nI_ne (b := 10) (by omega) (by omega) (by omega)), ht, wEx_e]
        exact ⟨_, rfl, rfl⟩)
    (k := 0) (Nat.zero_le _) (s := g) (st_same ha).symm (u := 1000) (by omega)
  subst p2
  exact p1
-- ----- numbers
/-- what some digits come to -/
def dV (tp : Nat → Nat) (b : Nat) : Nat → Nat
  | 0 => 0
  | k + 1 => 10 * dV tp b k + (tp (b + k) - 48)
theorem dV_lt {b k : Nat} (h : ∀ j, b ≤ j → j < b + k → dgt (tp j)) : dV tp b k < 10 ^ k := by
  induction k with
  | zero => exact Nat.one_pos
  | succ k ih =>
    have := ih fun j h1 h2 => h j h1 (by omega)
    have d := h (b + k) (by omega) (by omega)
    unfold dgt at d
    show 10 * dV tp b k + (tp (b + k) - 48) < 10 ^ (k + 1)
    rw [Nat.pow_succ]
    omega
theorem numC {b e : Nat} (h : TpC g K tp) (hb : g 3 0 0 2 = nI b) (h4 : g 3 0 0 4 = nI b) (hbe : b ≤ e) (he : e ≤ K) (h1 : ∀ j, b ≤ j → j < e → dgt (tp j)) (h2 : e = K ∨ ¬ dgt (tp e)) :
    ∃ g', fX5_readNumber g = some g' ∧ (∀ t, t ≠ 3 → g' t = g t) ∧ (∀ j, j ≠ 2 → j ≠ 3 → j ≠ 5 → g' 3 0 0 j = g 3 0 0 j) ∧ g' 3 0 0 2 = nI e ∧ g' 3 0 0 3 = (if e - b ≤ 4 then 258 else 257) ∧ (e - b ≤ 4 → g' 3 0 0 5 = nI (dV tp b (e - b))) := by
  have hK := h.1
  unfold fX5_readNumber
  rw [wLe_e]
  refine wLp_one (f := fun q : Mm => fX5_readNumber_B5 q) (fun g' => (∀ t, t ≠ 3 → g' t = g t) ∧ (∀ j, j ≠ 2 → j ≠ 3 → j ≠ 5 → g' 3 0 0 j = g 3 0 0 j) ∧ g' 3 0 0 2 = nI e ∧ g' 3 0 0 3 = (if e - b ≤ 4 then 258 else 257) ∧ (e - b ≤ 4 → g' 3 0 0 5 = nI (dV tp b (e - b))))
    (fun n s => (∀ t, t ≠ 3 → s t = g t) ∧ (∀ j, j ≠ 2 → j ≠ 5 → s 3 0 0 j = g 3 0 0 j) ∧ s 3 0 0 2 = nI (b + n) ∧ (n ≤ 4 → s 3 0 0 5 = nI (dV tp b n))) (e - b) ?_ ?_ (k := 0) (Nat.zero_le _) ⟨fun t ht => st_kind ht, fun j j2 j5 => st_ne (by omega), (st_ne (by omega)).trans hb, fun _ => st_eq⟩ (by omega)
  · rintro n s hn ⟨a1, a2, a3, a4⟩
    left
    obtain ⟨x1, x2⟩ := h.2.2 (b + n) (by omega)
    have dg := h1 (b + n) (by omega) (by omega)
    have s1 : s 3 0 0 1 = nI K := (a2 1 (by decide) (by decide)).trans h.2.1
    have s4 : s 3 0 0 4 = nI b := (a2 4 (by decide) (by decide)).trans h4
    have s40 : s 4 0 0 (b + n) = nI (tp (b + n)) := by rw [a1 4 (by decide)]; exact x2
    unfold fX5_readNumber_B5 fX5_readNumber_b68
    rw [s1, a3, if_neg (nI_ge (show b + n < K by omega) (by omega)), wGi_ok (by omega) (by omega), nI_clamp (by omega), s40, (digit_ev x1).1 dg, wBd_e, if_neg c10, s4, nI_sub (by omega), show b + n - b = n by omega]
    by_cases c : 4 ≤ n
    · rw [if_pos (show (4 : Int32) ≤ nI n from nI_le (a := 4) c (by omega)), wLe_e, nI_1]
      exact ⟨_, rfl, fun t ht => (st_kind ht).trans (a1 t ht), fun j j2 j5 => (st_ne (by omega)).trans (a2 j j2 j5), st_eq, fun q => absurd q (by omega)⟩
    · have dg' := dg
      unfold dgt at dg'
      have v : nI (dV tp b n) * (10 : Int32) + nI (tp (b + n)) - (48 : Int32) = nI (dV tp b (n + 1)) := by
        rw [show (10 : Int32) = nI 10 from rfl, show (48 : Int32) = nI 48 from rfl, nI_mul, nI_add, nI_sub (by omega)]
        show _ = nI (10 * dV tp b n + (tp (b + n) - 48))
        congr 1
        omega
      rw [if_neg (show ¬ (4 : Int32) ≤ nI n from nI_ge (b := 4) (by omega) (by omega)), wGi_ok (by omega) (by omega), wLe_e, a4 (by omega), v, st_ne (by omega), a3, wLe_e, nI_1]
      refine ⟨_, rfl, fun t ht => by rw [st_kind ht, st_kind ht]; exact a1 t ht, fun j j2 j5 => by rw [st_ne (by omega), st_ne (by omega)]; exact a2 j j2 j5, st_eq, fun q => by rw [st_ne (by omega), st_eq]⟩
  · rintro s ⟨a1, a2, a3, a4⟩
    have s1 : s 3 0 0 1 = nI K := (a2 1 (by decide) (by decide)).trans h.2.1
    have s4 : s 3 0 0 4 = nI b := (a2 4 (by decide) (by decide)).trans h4
    have eb : b + (e - b) = e := by omega
    rw [eb] at a3
    have out : ∃ t, fX5_readNumber_b81 s = some t ∧ (∀ t', t' ≠ 3 → t t' = g t') ∧ (∀ j, j ≠ 2 → j ≠ 3 → j ≠ 5 → t 3 0 0 j = g 3 0 0 j) ∧ t 3 0 0 2 = nI e ∧ t 3 0 0 3 = (if e - b ≤ 4 then 258 else 257) ∧ (e - b ≤ 4 → t 3 0 0 5 = nI (dV tp b (e - b))) := by
      unfold fX5_readNumber_b81
      rw [a3, s4, nI_sub hbe]
      by_cases c : e - b ≤ 4
      · rw [if_pos (show nI (e - b) ≤ (4 : Int32) from nI_le (b := 4) c (by omega)), wLe_e, if_pos c]
        exact ⟨_, rfl, fun t ht => (st_kind ht).trans (a1 t ht), fun j j2 j3 j5 => (st_ne (by omega)).trans (a2 j j2 j5), (st_ne (by omega)).trans a3, st_eq, fun q => (st_ne (by omega)).trans (a4 q)⟩
      · rw [if_neg (show ¬ nI (e - b) ≤ (4 : Int32) from nI_ge (a := 4) (by omega) (by omega)), wLe_e, if_neg c]
        exact ⟨_, rfl, fun t ht => (st_kind ht).trans (a1 t ht), fun j j2 j3 j5 => (st_ne (by omega)).trans (a2 j j2 j5), (st_ne (by omega)).trans a3, st_eq, fun q => absurd q c⟩
    obtain ⟨t, o1, o2⟩ := out
    unfold fX5_readNumber_B5
    rw [s1, a3]
    by_cases c : e = K
    · rw [if_pos (nI_le (show K ≤ e by omega) (by omega)), o1, wEx_e]
      exact ⟨_, rfl, o2⟩
    · obtain ⟨x1, x2⟩ := h.2.2 e (by omega)
      have s40 : s 4 0 0 e = nI (tp e) := by rw [a1 4 (by decide)]; exact x2
      rw [if_neg (nI_ge (show e < K by omega) (by omega)), wGi_ok (by omega) (by omega), nI_clamp (by omega), s40, (digit_ev x1).2 (h2.resolve_left c), wBd_e, if_pos rfl, o1, wEx_e]
      exact ⟨_, rfl, o2⟩
theorem numR {b e : Nat} (h : TpR g K tp) (hb : g 0 0 0 25 = nI b) (h28 : g 0 0 0 28 = 0) (hbe : b ≤ e) (he : e ≤ K) (h1 : ∀ j, b ≤ j → j < e → dgt (tp j)) (h2 : e = K ∨ ¬ dgt (tp e)) :
    ∃ g', fX11_next_L203 g 0 = some g' ∧ (∀ t, t ≠ 0 → g' t = g t) ∧ (∀ j, j ≠ 25 → j ≠ 27 → j ≠ 28 → g' 0 0 0 j = g 0 0 0 j) ∧ g' 0 0 0 25 = nI e ∧ g' 0 0 0 27 = (if e - b ≤ 4 then 1 else -1) ∧ (e - b ≤ 4 → g' 0 0 0 28 = nI (dV tp b (e - b))) := by
  have hK := h.1
  refine wLp_one (f := fun q : Mm × Int32 => fX11_next_B203 q.1 q.2) (fun g' => (∀ t, t ≠ 0 → g' t = g t) ∧ (∀ j, j ≠ 25 → j ≠ 27 → j ≠ 28 → g' 0 0 0 j = g 0 0 0 j) ∧ g' 0 0 0 25 = nI e ∧ g' 0 0 0 27 = (if e - b ≤ 4 then 1 else -1) ∧ (e - b ≤ 4 → g' 0 0 0 28 = nI (dV tp b (e - b))))
    (fun n x => ∃ s, x = (s, nI n) ∧ (∀ t, t ≠ 0 → s t = g t) ∧ (∀ j, j ≠ 25 → j ≠ 28 → s 0 0 0 j = g 0 0 0 j) ∧ s 0 0 0 25 = nI (b + n) ∧ (n ≤ 4 → s 0 0 0 28 = nI (dV tp b n))) (e - b) ?_ ?_ (k := 0) (Nat.zero_le _) ⟨g, rfl, fun _ _ => rfl, fun _ _ _ => rfl, hb, fun _ => h28⟩ (by omega)
  · rintro n x hn ⟨s, ex, a1, a2, a3, a4⟩
    subst ex
    left
    obtain ⟨x1, x2⟩ := h.2.2 (b + n) (by omega)
    have dg := h1 (b + n) (by omega) (by omega)
    have s1 : s 0 0 0 11 = nI K := (a2 11 (by decide) (by decide)).trans h.2.1
    have s6 : s 6 0 0 (b + n) = nI (tp (b + n)) := by rw [a1 6 (by decide)]; exact x2
    dsimp only
    unfold fX11_next_B203 fX11_next_b263
    rw [s1, a3, if_neg (nI_ge (show b + n < K by omega) (by omega)), wGi_ok (by omega) (by omega), nI_clamp (by omega), s6, (inD_ev x1).1 dg, wBd_e, if_neg c10]
    by_cases c : 4 ≤ n
    · rw [if_pos (show (4 : Int32) ≤ nI n from nI_le (a := 4) c (by omega)), wLe_e, wLe_e, nI_1, st_ne (by omega), a3, wLe_e, nI_1]
      exact ⟨_, rfl, _, rfl, fun t ht => by rw [st_kind ht, st_kind ht]; exact a1 t ht, fun j j2 j5 => by rw [st_ne (by omega), st_ne (by omega)]; exact a2 j j2 j5, st_eq, fun q => absurd q (by omega)⟩
    · have dg' := dg
      unfold dgt at dg'
      have v : (10 : Int32) * nI (dV tp b n) + nI (tp (b + n)) - (48 : Int32) = nI (dV tp b (n + 1)) := by
        rw [show (10 : Int32) = nI 10 from rfl, show (48 : Int32) = nI 48 from rfl, nI_mul, nI_add, nI_sub (by omega)]
        show _ = nI (10 * dV tp b n + (tp (b + n) - 48))
        congr 1
        omega
      rw [if_neg (show ¬ (4 : Int32) ≤ nI n from nI_ge (b := 4) (by omega) (by omega)), wGi_ok (by omega) (by omega), a4 (by omega), v, wLe_e, wLe_e, nI_1, st_ne (by omega), a3, wLe_e, nI_1]
      exact ⟨_, rfl, _, rfl, fun t ht => by rw [st_kind ht, st_kind ht]; exact a1 t ht, fun j j2 j5 => by rw [st_ne (by omega), st_ne (by omega)]; exact a2 j j2 j5, st_eq, fun q => by rw [st_ne (by omega), st_eq]⟩
  · rintro x ⟨s, ex, a1, a2, a3, a4⟩
    subst ex
    have s1 : s 0 0 0 11 = nI K := (a2 11 (by decide) (by decide)).trans h.2.1
    have eb : b + (e - b) = e := by omega
    rw [eb] at a3
    have out : ∃ t, fX11_next_b282 s (nI (e - b)) = some t ∧ (∀ t', t' ≠ 0 → t t' = g t') ∧ (∀ j, j ≠ 25 → j ≠ 27 → j ≠ 28 → t 0 0 0 j = g 0 0 0 j) ∧ t 0 0 0 25 = nI e ∧ t 0 0 0 27 = (if e - b ≤ 4 then 1 else -1) ∧ (e - b ≤ 4 → t 0 0 0 28 = nI (dV tp b (e - b))) := by
      unfold fX11_next_b282
      by_cases c : e - b ≤ 4
      · rw [if_pos (show nI (e - b) ≤ (4 : Int32) from nI_le (b := 4) c (by omega)), wLe_e, if_pos c]
        exact ⟨_, rfl, fun t ht => (st_kind ht).trans (a1 t ht), fun j j2 j3 j5 => (st_ne (by omega)).trans (a2 j j2 j5), (st_ne (by omega)).trans a3, st_eq, fun q => (st_ne (by omega)).trans (a4 q)⟩
      · rw [if_neg (show ¬ nI (e - b) ≤ (4 : Int32) from nI_ge (a := 4) (by omega) (by omega)), wLe_e, if_neg c]
        exact ⟨_, rfl, fun t ht => (st_kind ht).trans (a1 t ht), fun j j2 j3 j5 => (st_ne (by omega)).trans (a2 j j2 j5), (st_ne (by omega)).trans a3, st_eq, fun q => absurd q c⟩
    obtain ⟨t, o1, o2⟩ := out
    dsimp only
    unfold fX11_next_B203
    rw [s1, a3]
    by_cases c : e = K
    · rw [if_pos (nI_le (show K ≤ e by omega) (by omega)), o1, wEx_e]
      exact ⟨_, rfl, o2⟩
    · obtain ⟨x1, x2⟩ := h.2.2 e (by omega)
      have s6 : s 6 0 0 e = nI (tp e) := by rw [a1 6 (by decide)]; exact x2
      rw [if_neg (nI_ge (show e < K by omega) (by omega)), wGi_ok (by omega) (by omega), nI_clamp (by omega), s6, (inD_ev x1).2 (h2.resolve_left c), wBd_e, if_pos rfl, o1, wEx_e]
      exact ⟨_, rfl, o2⟩
end LEX
