-- ===== tokens, both sides =====
/-- tokens: 0 end, 1 number v, 2 name v, 3 key v, 4 or, 5 and, 6 not, 7 none, or the sign's byte -/
def okk (k v : Nat) : Prop := (k ≤ 7 ∨ sgn k) ∧ (k = 1 → v < 10000) ∧ (k = 2 → v < 8) ∧ (k = 3 → v < 3)
def tkC (k : Nat) : Int32 := if k = 0 then 256 else if k = 1 then 258 else if k < 7 then 259 else if k = 7 then 257 else nI k
def tvC (k v : Nat) : Int32 := if k = 2 then nI (v + 6) else if 4 ≤ k ∧ k ≤ 6 then nI (k - 1) else nI v
def tkR (k : Nat) : Int32 := if k = 7 then -1 else nI k
def NxC (K : Nat) (tp : Nat → Nat) (a k v b e : Nat) : Prop := ∀ g, TpC g K tp → g 3 0 0 2 = nI a → ∃ g', fX5_next g = some g' ∧ (∀ t, t ≠ 3 → g' t = g t) ∧ (∀ j, j ≠ 2 → j ≠ 3 → j ≠ 4 → j ≠ 5 → g' 3 0 0 j = g 3 0 0 j) ∧ g' 3 0 0 2 = nI e ∧ g' 3 0 0 4 = nI b ∧ g' 3 0 0 3 = tkC k ∧ (1 ≤ k → k ≤ 6 → g' 3 0 0 5 = tvC k v)
def NxR (K : Nat) (tp : Nat → Nat) (a k v b e : Nat) : Prop := ∀ g, TpR g K tp → WD g → g 0 0 0 25 = nI a → ∃ g', fX11_next g = some g' ∧ (∀ t, t ≠ 0 → g' t = g t) ∧ (∀ j, j ≠ 25 → j ≠ 26 → j ≠ 27 → j ≠ 28 → g' 0 0 0 j = g 0 0 0 j) ∧ g' 0 0 0 25 = nI e ∧ g' 0 0 0 26 = nI b ∧ g' 0 0 0 27 = tkR k ∧ (1 ≤ k → k ≤ 3 → g' 0 0 0 28 = nI v)
def Tok (K : Nat) (tp : Nat → Nat) (a k v b e : Nat) : Prop := a ≤ b ∧ b ≤ e ∧ e ≤ K ∧ (k ≠ 0 → b < e) ∧ okk k v ∧ NxC K tp a k v b e ∧ NxR K tp a k v b e
def nbC (g4 : Mm) : Option Mm :=
  if (g4 3 0 0 2) < (g4 3 0 0 1) then (wGi (g4 3 0 0 2) 160 (wBd (fX5_isLetter g4 (g4 4 0 0 (g4 3 0 0 2).toNatClampNeg)) fun y9 => if y9 = 0 then (wGi (g4 3 0 0 2) 160 (wBd (fX5_isDigit g4 (g4 4 0 0 (g4 3 0 0 2).toNatClampNeg)) fun y13 => if y13 = 0 then (wGi (g4 3 0 0 2) 160 (wBd (fX100_indexOf 1 (((g4 4 0 0 (g4 3 0 0 2).toNatClampNeg).toUInt32 % 65536).toInt32)) fun y17 => if 0 ≤ y17 then (wGi (g4 3 0 0 2) 160 (fX5_next_b146 g4 (g4 4 0 0 (g4 3 0 0 2).toNatClampNeg))) else (fX5_next_b146 g4 (257 : Int32)))) else (wBd (fX5_readNumber g4) fun g26 => some g26))) else (wBd (fX5_readWord g4) fun g29 => some g29))) else (wLe (st g4 3 0 0 3 (256 : Int32)) fun g30 => some g30)
theorem nbC_e (s : Mm) : fX5_next_b39 s = nbC (st s 3 0 0 4 (s 3 0 0 2)) := rfl
def nbR (g8 : Mm) : Option Mm :=
  if (g8 0 0 0 25) = (g8 0 0 0 11) then (some g8) else (wGi (g8 0 0 0 25) 160 (wLe (g8 6 0 0 (g8 0 0 0 25).toNatClampNeg) fun y12 => wBd (fX11_in g8 y12 (97 : Int32) (122 : Int32)) fun y15 => if y15 = 0 then (wBd (fX11_in g8 y12 (48 : Int32) (57 : Int32)) fun y18 => if y18 = 0 then (if y12 = (40 : Int32) then (fX11_next_b347 g8 y12) else (if y12 = (41 : Int32) then (fX11_next_b347 g8 y12) else (if y12 = (59 : Int32) then (fX11_next_b347 g8 y12) else (if y12 = (43 : Int32) then (fX11_next_b347 g8 y12) else (if y12 = (45 : Int32) then (fX11_next_b347 g8 y12) else (if y12 = (42 : Int32) then (fX11_next_b347 g8 y12) else (if y12 = (60 : Int32) then (fX11_next_b347 g8 y12) else (if y12 = (61 : Int32) then (fX11_next_b347 g8 y12) else (fX11_next_b352 g8 y12 (0 : Int32)))))))))) else (wLe (0 : Int32) fun y33 => fX11_next_L203 g8 y33)) else (wB2 (fX11_letters g8) fun g59 y58 => wLe (0 : Int32) fun y60 => fX11_next_L110 g59 y58 y60)))
theorem nbR_e (s : Mm) : fX11_next_b52 s = nbR (st (st (st s 0 0 0 26 (s 0 0 0 25)) 0 0 0 27 0) 0 0 0 28 0) := rfl
section TOK
variable {K : Nat} {tp : Nat → Nat} {a b : Nat}
theorem NxC_mk {k v e : Nat} (hab : a ≤ b) (hb : b ≤ K) (h1 : ∀ j, a ≤ j → j < b → blk (tp j)) (h2 : b = K ∨ ¬ blk (tp b))
    (H : ∀ z, TpC z K tp → z 3 0 0 2 = nI b → z 3 0 0 4 = nI b → ∃ g', nbC z = some g' ∧ (∀ t, t ≠ 3 → g' t = z t) ∧ (∀ j, j ≠ 2 → j ≠ 3 → j ≠ 5 → g' 3 0 0 j = z 3 0 0 j) ∧ g' 3 0 0 2 = nI e ∧ g' 3 0 0 3 = tkC k ∧ (1 ≤ k → k ≤ 6 → g' 3 0 0 5 = tvC k v)) : NxC K tp a k v b e := by
  intro g hg ha
  obtain ⟨g', p1, p2, p3, p4, p5, p6⟩ := H (st (st g 3 0 0 2 (nI b)) 3 0 0 4 (nI b)) ((hg.st (j := 2) (by decide)).st (j := 4) (by decide)) ((st_ne (by omega)).trans st_eq) st_eq
  refine ⟨g', skipC hg ha hab hb h1 h2 ?_, fun t ht => by rw [p2 t ht, st_kind ht, st_kind ht], fun j j2 j3 j4 j5 => by rw [p3 j j2 j3 j5, st_ne (by omega), st_ne (by omega)], p4, ?_, p5, p6⟩
  · rw [nbC_e, st_eq]; exact p1
  · rw [p3 4 (by decide) (by decide) (by decide)]; exact st_eq
theorem NxR_mk {k v e : Nat} (hab : a ≤ b) (hb : b ≤ K) (h1 : ∀ j, a ≤ j → j < b → blk (tp j)) (h2 : b = K ∨ ¬ blk (tp b))
    (H : ∀ z, TpR z K tp → WD z → z 0 0 0 25 = nI b → z 0 0 0 27 = 0 → z 0 0 0 28 = 0 → ∃ g', nbR z = some g' ∧ (∀ t, t ≠ 0 → g' t = z t) ∧ (∀ j, j ≠ 25 → j ≠ 27 → j ≠ 28 → g' 0 0 0 j = z 0 0 0 j) ∧ g' 0 0 0 25 = nI e ∧ g' 0 0 0 27 = tkR k ∧ (1 ≤ k → k ≤ 3 → g' 0 0 0 28 = nI v)) : NxR K tp a k v b e := by
  intro g hg hw ha
  have hw' : WD (st (st (st (st g 0 0 0 25 (nI b)) 0 0 0 26 (nI b)) 0 0 0 27 0) 0 0 0 28 0) := fun k hk => by
    rw [st_ne (by omega), st_ne (by omega), st_ne (by omega), st_ne (by omega)]; exact hw k hk
  obtain ⟨g', p1, p2, p3, p4, p5, p6⟩ := H (st (st (st (st g 0 0 0 25 (nI b)) 0 0 0 26 (nI b)) 0 0 0 27 0) 0 0 0 28 0) ((((hg.st (j := 25) (by decide)).st (j := 26) (by decide)).st (j := 27) (by decide)).st (j := 28) (by decide)) hw' (by rw [st_ne (by omega), st_ne (by omega), st_ne (by omega)]; exact st_eq) (by rw [st_ne (by omega)]; exact st_eq) st_eq
  refine ⟨g', skipR hg ha hab hb h1 h2 ?_, fun t ht => by rw [p2 t ht, st_kind ht, st_kind ht, st_kind ht, st_kind ht], fun j j2 j3 j4 j5 => by rw [p3 j j2 j4 j5, st_ne (by omega), st_ne (by omega), st_ne (by omega), st_ne (by omega)], p4, ?_, p5, p6⟩
  · rw [nbR_e, st_eq]; exact p1
  · rw [p3 26 (by decide) (by decide) (by decide), st_ne (by omega), st_ne (by omega)]; exact st_eq
/-- the end -/
theorem tok_end (hab : a ≤ K) (h1 : ∀ j, a ≤ j → j < K → blk (tp j)) : Tok K tp a 0 0 K K := by
  refine ⟨hab, Nat.le_refl _, Nat.le_refl _, fun h => absurd rfl h, ⟨Or.inl (by omega), fun h => absurd h (by decide), fun h => absurd h (by decide), fun h => absurd h (by decide)⟩, NxC_mk hab (Nat.le_refl _) h1 (Or.inl rfl) fun z hz q2 q4 => ?_, NxR_mk hab (Nat.le_refl _) h1 (Or.inl rfl) fun z hz hw q5 q7 q8 => ?_⟩
  · have hK := hz.1
    unfold nbC
    rw [q2, hz.2.1, if_neg (nI_nlt (Nat.le_refl _) (by omega)), wLe_e]
    exact ⟨_, rfl, fun t ht => st_kind ht, fun j j2 j3 j5 => st_ne (by omega), (st_ne (by omega)).trans q2, st_eq, fun h => absurd h (by decide)⟩
  · unfold nbR
    rw [q5, hz.2.1, if_pos rfl]
    exact ⟨_, rfl, fun t ht => rfl, fun j j2 j3 j5 => rfl, q5, q7, fun h => absurd h (by decide)⟩
theorem not_ltr_blk {x : Nat} (h : ltr x) : ¬ blk x := by unfold ltr at h; unfold blk; omega
theorem not_dgt_blk {x : Nat} (h : dgt x) : ¬ blk x := by unfold dgt at h; unfold blk; omega
theorem not_dgt_ltr {x : Nat} (h : dgt x) : ¬ ltr x := by unfold dgt at h; unfold ltr; omega
/-- a number -/
theorem tok_num {e : Nat} (hab : a ≤ b) (h1 : ∀ j, a ≤ j → j < b → blk (tp j)) (hbe : b < e) (he : e ≤ K) (hd : ∀ j, b ≤ j → j < e → dgt (tp j)) (hs : e = K ∨ ¬ dgt (tp e)) : ∃ k v, Tok K tp a k v b e := by
  have d0 := hd b (Nat.le_refl _) hbe
  have nb : b = K ∨ ¬ blk (tp b) := Or.inr (not_dgt_blk d0)
  have lt := dV_lt (tp := tp) (b := b) (k := e - b) fun j j1 j2 => hd j j1 (by omega)
  have lt4 : e - b ≤ 4 → dV tp b (e - b) < 10000 := fun q => Nat.lt_of_lt_of_le lt (Nat.pow_le_pow_right (n := 10) (by omega) q)
  refine ⟨if e - b ≤ 4 then 1 else 7, dV tp b (e - b), hab, by omega, he, fun _ => hbe, ?_, NxC_mk hab (by omega) h1 nb fun z hz q2 q4 => ?_, NxR_mk hab (by omega) h1 nb fun z hz hw q5 q7 q8 => ?_⟩
  · by_cases c : e - b ≤ 4
    · rw [if_pos c]; exact ⟨Or.inl (by omega), fun _ => lt4 c, fun h => absurd h (by decide), fun h => absurd h (by decide)⟩
    · rw [if_neg c]; exact ⟨Or.inl (by omega), fun h => absurd h (by decide), fun h => absurd h (by decide), fun h => absurd h (by decide)⟩
  · have hK := hz.1
    obtain ⟨x1, x2⟩ := hz.2.2 b (by omega)
    obtain ⟨g', p1, p2, p3, p4, p5, p6⟩ := numC hz q2 q4 (by omega) he hd hs
    unfold nbC
    rw [q2, hz.2.1, if_pos (nI_lt (by omega) (by omega)), wGi_ok (by omega) (by omega), nI_clamp (by omega), x2, (letter_ev x1).2 (not_dgt_ltr d0), wBd_e, if_pos rfl, wGi_ok (by omega) (by omega), (digit_ev x1).1 d0, wBd_e, if_neg c10, p1, wBd_e]
    refine ⟨g', rfl, p2, p3, p4, ?_, fun k1 k6 => ?_⟩
    · rw [p5]
      by_cases c : e - b ≤ 4
      · rw [if_pos c, if_pos c]; rfl
      · rw [if_neg c, if_neg c]; rfl
    · by_cases c : e - b ≤ 4
      · rw [p6 c, if_pos c]; rfl
      · rw [if_neg c] at k6; exact absurd k6 (by decide)
  · have hK := hz.1
    obtain ⟨x1, x2⟩ := hz.2.2 b (by omega)
    obtain ⟨g', p1, p2, p3, p4, p5, p6⟩ := numR hz q5 q8 (by omega) he hd hs
    unfold nbR
    rw [q5, hz.2.1, if_neg (nI_ne (by omega) (by omega) (by omega)), wGi_ok (by omega) (by omega), nI_clamp (by omega), x2, wLe_e, (inL_ev x1).2 (not_dgt_ltr d0), wBd_e, if_pos rfl, (inD_ev x1).1 d0, wBd_e, if_neg c10, wLe_e, p1]
    refine ⟨g', rfl, p2, p3, p4, ?_, fun k1 k3 => ?_⟩
    · rw [p5]
      by_cases c : e - b ≤ 4
      · rw [if_pos c, if_pos c]; rfl
      · rw [if_neg c, if_neg c]; rfl
    · by_cases c : e - b ≤ 4
      · exact p6 c
      · rw [if_neg c] at k3; exact absurd k3 (by decide)
-- ----- signs
set_option maxRecDepth 100000 in
theorem sign_all : ∀ x, x < 256 → (fX100_indexOf 1 (((nI x).toUInt32 % 65536).toInt32)).map (fun y => decide (0 ≤ y)) = some (decide (x = 40 ∨ x = 41 ∨ x = 59 ∨ x = 43 ∨ x = 45 ∨ x = 42 ∨ x = 60 ∨ x = 61)) := by decide +kernel
theorem sign_ev {x : Nat} (hx : x < 256) : ∃ y, fX100_indexOf 1 (((nI x).toUInt32 % 65536).toInt32) = some y ∧ (sgn x → 0 ≤ y) ∧ (¬ sgn x → ¬ 0 ≤ y) := by
  have h := sign_all x hx
  cases e : fX100_indexOf 1 (((nI x).toUInt32 % 65536).toInt32) with
  | none => rw [e] at h; exact absurd h (by simp)
  | some y =>
    rw [e] at h
    have h' : decide (0 ≤ y) = decide (x = 40 ∨ x = 41 ∨ x = 59 ∨ x = 43 ∨ x = 45 ∨ x = 42 ∨ x = 60 ∨ x = 61) := Option.some.inj h
    refine ⟨y, rfl, fun q => ?_, fun q => ?_⟩
    · have : decide (x = 40 ∨ x = 41 ∨ x = 59 ∨ x = 43 ∨ x = 45 ∨ x = 42 ∨ x = 60 ∨ x = 61) = true := decide_eq_true q
      rw [this] at h'; exact of_decide_eq_true h'
    · have : decide (x = 40 ∨ x = 41 ∨ x = 59 ∨ x = 43 ∨ x = 45 ∨ x = 42 ∨ x = 60 ∨ x = 61) = false := decide_eq_false q
      rw [this] at h'; exact of_decide_eq_false h'
/-- a sign, or no token -/
theorem tok_sign (hab : a ≤ b) (h1 : ∀ j, a ≤ j → j < b → blk (tp j)) (hb : b < K) (hn : ¬ blk (tp b)) (hl : ¬ ltr (tp b)) (hd : ¬ dgt (tp b)) : ∃ k v, Tok K tp a k v b (b + 1) := by
  obtain ⟨q, hq⟩ : ∃ q, (sgn (tp b) ∧ q = tp b) ∨ (¬ sgn (tp b) ∧ q = 7) := by
    by_cases c : sgn (tp b)
    · exact ⟨_, Or.inl ⟨c, rfl⟩⟩
    · exact ⟨_, Or.inr ⟨c, rfl⟩⟩
  refine ⟨q, 0, hab, by omega, hb, fun _ => by omega, ?_, NxC_mk hab (by omega) h1 (Or.inr hn) fun z hz q2 q4 => ?_, NxR_mk hab (by omega) h1 (Or.inr hn) fun z hz hw q5 q7 q8 => ?_⟩
  · rcases hq with ⟨c, rfl⟩ | ⟨c, rfl⟩
    · exact ⟨Or.inr c, by unfold sgn at c; omega, by unfold sgn at c; omega, by unfold sgn at c; omega⟩
    · exact ⟨Or.inl (by omega), fun h => absurd h (by decide), fun h => absurd h (by decide), fun h => absurd h (by decide)⟩
  · have hK := hz.1
    obtain ⟨x1, x2⟩ := hz.2.2 b hb
    obtain ⟨y, y1, y2, y3⟩ := sign_ev x1
    have fin : ∀ w : Int32, w = tkC q → ∃ g', fX5_next_b146 z w = some g' ∧ (∀ t, t ≠ 3 → g' t = z t) ∧ (∀ j, j ≠ 2 → j ≠ 3 → j ≠ 5 → g' 3 0 0 j = z 3 0 0 j) ∧ g' 3 0 0 2 = nI (b + 1) ∧ g' 3 0 0 3 = tkC q ∧ (1 ≤ q → q ≤ 6 → g' 3 0 0 5 = tvC q 0) := fun w hw => by
      unfold fX5_next_b146
      rw [wLe_e, st_ne (by omega), q2, nI_1, wLe_e]
      refine ⟨_, rfl, fun t ht => by rw [st_kind ht, st_kind ht], fun j j2 j3 j5 => by rw [st_ne (by omega), st_ne (by omega)], st_eq, by rw [st_ne (by omega), st_eq, hw], fun k1 k6 => ?_⟩
      rcases hq with ⟨c, rfl⟩ | ⟨c, rfl⟩
      · unfold sgn at c; omega
      · omega
    unfold nbC
    rw [q2, hz.2.1, if_pos (nI_lt (by omega) (by omega)), wGi_ok (by omega) (by omega), nI_clamp (by omega), x2, (letter_ev x1).2 hl, wBd_e, if_pos rfl, wGi_ok (by omega) (by omega), (digit_ev x1).2 hd, wBd_e, if_pos rfl, wGi_ok (by omega) (by omega), y1, wBd_e]
    rcases hq with ⟨c, rfl⟩ | ⟨c, rfl⟩
    · rw [if_pos (y2 c), wGi_ok (by omega) (by omega)]
      refine fin _ ?_
      unfold tkC
      unfold sgn at c
      rw [if_neg (by omega), if_neg (by omega), if_neg (by omega), if_neg (by omega)]
    · rw [if_neg (y3 c)]
      exact fin _ rfl
  · have hK := hz.1
    obtain ⟨x1, x2⟩ := hz.2.2 b hb
    have fin : ∀ w : Int32, w = tkR q → ∃ g', fX11_next_b363 z w = some g' ∧ (∀ t, t ≠ 0 → g' t = z t) ∧ (∀ j, j ≠ 25 → j ≠ 27 → j ≠ 28 → g' 0 0 0 j = z 0 0 0 j) ∧ g' 0 0 0 25 = nI (b + 1) ∧ g' 0 0 0 27 = tkR q ∧ (1 ≤ q → q ≤ 3 → g' 0 0 0 28 = nI 0) := fun w hw => by
      unfold fX11_next_b363
      rw [wLe_e, st_ne (by omega), q5, nI_1, wLe_e]
      refine ⟨_, rfl, fun t ht => by rw [st_kind ht, st_kind ht], fun j j2 j3 j5 => by rw [st_ne (by omega), st_ne (by omega)], st_eq, by rw [st_ne (by omega), st_eq, hw], fun k1 k6 => ?_⟩
      rcases hq with ⟨c, rfl⟩ | ⟨c, rfl⟩
      · unfold sgn at c; omega
      · omega
    unfold nbR
    rw [q5, hz.2.1, if_neg (nI_ne (by omega) (by omega) (by omega)), wGi_ok (by omega) (by omega), nI_clamp (by omega), x2, wLe_e, (inL_ev x1).2 hl, wBd_e, if_pos rfl, (inD_ev x1).2 hd, wBd_e, if_pos rfl]
    rcases hq with ⟨c, rfl⟩ | ⟨c, rfl⟩
    · have yes : fX11_next_b347 z (nI (tp b)) = fX11_next_b363 z (nI (tp b)) := rfl
      obtain ⟨g', p⟩ := fin (nI (tp b)) (by
        unfold tkR
        unfold sgn at c
        rw [if_neg (by omega)])
      refine ⟨g', ?_, p.2⟩
      rw [yes, p.1]
      unfold sgn at c
      by_cases c1 : nI (tp b) = 40
      · rw [if_pos c1]
      rw [if_neg c1]
      by_cases c2 : nI (tp b) = 41
      · rw [if_pos c2]
      rw [if_neg c2]
      by_cases c3 : nI (tp b) = 59
      · rw [if_pos c3]
      rw [if_neg c3]
      by_cases c4 : nI (tp b) = 43
      · rw [if_pos c4]
      rw [if_neg c4]
      by_cases c5 : nI (tp b) = 45
      · rw [if_pos c5]
      rw [if_neg c5]
      by_cases c6 : nI (tp b) = 42
      · rw [if_pos c6]
      rw [if_neg c6]
      by_cases c7 : nI (tp b) = 60
      · rw [if_pos c7]
      rw [if_neg c7]
      by_cases c8 : nI (tp b) = 61
      · rw [if_pos c8]
      exfalso
      rcases c with c | c | c | c | c | c | c | c <;> rw [c] at c1 c2 c3 c4 c5 c6 c7 c8 <;> first | exact c1 rfl | exact c2 rfl | exact c3 rfl | exact c4 rfl | exact c5 rfl | exact c6 rfl | exact c7 rfl | exact c8 rfl
    · have no : fX11_next_b352 z (nI (tp b)) 0 = fX11_next_b363 z (-1) := rfl
      obtain ⟨g', p⟩ := fin (-1) rfl
      refine ⟨g', ?_, p.2⟩
      unfold sgn at c
      rw [if_neg (show ¬ nI (tp b) = 40 from nI_ne (b := 40) (by omega) (by omega) (by omega)), if_neg (show ¬ nI (tp b) = 41 from nI_ne (b := 41) (by omega) (by omega) (by omega)), if_neg (show ¬ nI (tp b) = 59 from nI_ne (b := 59) (by omega) (by omega) (by omega)), if_neg (show ¬ nI (tp b) = 43 from nI_ne (b := 43) (by omega) (by omega) (by omega)), if_neg (show ¬ nI (tp b) = 45 from nI_ne (b := 45) (by omega) (by omega) (by omega)), if_neg (show ¬ nI (tp b) = 42 from nI_ne (b := 42) (by omega) (by omega) (by omega)), if_neg (show ¬ nI (tp b) = 60 from nI_ne (b := 60) (by omega) (by omega) (by omega)), if_neg (show ¬ nI (tp b) = 61 from nI_ne (b := 61) (by omega) (by omega) (by omega)), no]
      exact p.1
-- ----- words
theorem words_pr {g t : Mm} {P k : Nat} (hw : WD g) (hP : P < 2 ^ 31) (hk : k ≤ 14) (h1 : ∀ j, j < k → kW.getD j 0 ≠ P) (h2 : k = 14 ∨ kW.getD k 0 = P) (ht : fX11_next_b132 g (nI k) = some t) : fX11_next_L110 g (nI P) 0 = some t := by
  obtain ⟨t', p1, p2⟩ := wLp_one (f := fun q : Mm × Int32 => fX11_next_B110 q.1 (nI P) q.2) (fun t' => t' = t) (fun n s => s = (g, nI n)) k
    (fun n s hn e => by
      subst e
      left
      dsimp only
      unfold fX11_next_B110
      rw [if_neg (show ¬ (14 : Int32) ≤ nI n from nI_ge (b := 14) (by omega) (by omega)), wGi_ok (by omega) (by omega), nI_clamp (by omega), hw n (by omega), if_neg (nI_ne (kW_pos n (by omega)).2 hP (h1 n hn)), wLe_e, nI_1]
      exact ⟨_, rfl, rfl⟩)
    (fun s e => by
      subst e
      dsimp only
      unfold fX11_next_B110
      rw [ht]
      by_cases c : k = 14
      · rw [if_pos (show (14 : Int32) ≤ nI k from nI_le (a := 14) (by omega) (by omega)), wEx_e]
        exact ⟨_, rfl, rfl⟩
      · rw [if_neg (show ¬ (14 : Int32) ≤ nI k from nI_ge (b := 14) (by omega) (by omega)), wGi_ok (by omega) (by omega), nI_clamp (by omega), hw k (by omega), if_pos (by rw [h2.resolve_left c]), wEx_e]
        exact ⟨_, rfl, rfl⟩)
    (k := 0) (Nat.zero_le _) (s := (g, 0)) rfl (u := 1000) (by omega)
  subst p2
  exact p1
theorem pkN_31 {n : Nat} (h4 : n ≤ 4) (h1 : ∀ j, b ≤ j → j < b + n → ltr (tp j)) : pkN tp b n < 2 ^ 31 := by
  by_cases c : n = 4
  · subst c
    have l0 := h1 (b + 0) (by omega) (by omega)
    have l1 := h1 (b + 1) (by omega) (by omega)
    have l2 := h1 (b + 2) (by omega) (by omega)
    have l3 := h1 (b + 3) (by omega) (by omega)
    unfold ltr at l0 l1 l2 l3
    show (((0 * 256 + tp (b + 0)) * 256 + tp (b + 1)) * 256 + tp (b + 2)) * 256 + tp (b + 3) < 2 ^ 31
    omega
  · have := pkN_lt h1
    have q : (256 : Nat) ^ n ≤ 256 ^ 3 := Nat.pow_le_pow_right (by omega) (by omega)
    have q2 : (256 : Nat) ^ 3 < 2 ^ 31 := by decide
    exact Nat.lt_trans (Nat.lt_of_lt_of_le this q) q2
/-- which token word w is -/
def wk (w : Nat) : Nat := if w < 3 then 3 else if w < 6 then w + 1 else 2
def wv (w : Nat) : Nat := if w < 3 then w else w - 6
theorem wk_ok : ∀ w, w < 14 → wk w ≤ 6 ∧ 1 < wk w ∧ (wk w = 2 → wv w < 8) ∧ (wk w = 3 → wv w < 3) ∧ tkC (wk w) = 259 ∧ tvC (wk w) (wv w) = nI w := by decide
/-- where the reference finds a word, and what it then writes -/
theorem b132_ev {g : Mm} {w : Nat} (hw : w < 14) : ∃ g', fX11_next_b132 g (nI (kof w)) = some g' ∧ (∀ t, t ≠ 0 → g' t = g t) ∧ (∀ j, j ≠ 27 → j ≠ 28 → g' 0 0 0 j = g 0 0 0 j) ∧ g' 0 0 0 27 = tkR (wk w) ∧ (wk w ≤ 3 → g' 0 0 0 28 = nI (wv w)) := by
  have fin : ∀ k t v : Int32, t = tkR (wk w) → (wk w ≤ 3 → (if (3 : Int32) ≤ k then k - 3 else k) = nI (wv w)) → ∃ g', fX11_next_b168 g k t = some g' ∧ (∀ t, t ≠ 0 → g' t = g t) ∧ (∀ j, j ≠ 27 → j ≠ 28 → g' 0 0 0 j = g 0 0 0 j) ∧ g' 0 0 0 27 = tkR (wk w) ∧ (wk w ≤ 3 → g' 0 0 0 28 = nI (wv w)) := fun k t v ht hv => by
    unfold fX11_next_b168
    rw [wLe_e]
    by_cases c : (3 : Int32) ≤ k
    · rw [if_pos c, wLe_e]
      refine ⟨_, rfl, fun t ht => by rw [st_kind ht, st_kind ht], fun j j7 j8 => by rw [st_ne (by omega), st_ne (by omega)], by rw [st_ne (by omega), st_eq, ht], fun q => ?_⟩
      rw [st_eq]; have := hv q; rw [if_pos c] at this; exact this
    · rw [if_neg c, wLe_e]
      refine ⟨_, rfl, fun t ht => by rw [st_kind ht, st_kind ht], fun j j7 j8 => by rw [st_ne (by omega), st_ne (by omega)], by rw [st_ne (by omega), st_eq, ht], fun q => ?_⟩
      rw [st_eq]; have := hv q; rw [if_neg c] at this; exact this
  rcases (show w = 0 ∨ w = 1 ∨ w = 2 ∨ w = 3 ∨ w = 4 ∨ w = 5 ∨ w = 6 ∨ w = 7 ∨ w = 8 ∨ w = 9 ∨ w = 10 ∨ w = 11 ∨ w = 12 ∨ w = 13 by omega) with rfl | rfl | rfl | rfl | rfl | rfl | rfl | rfl | rfl | rfl | rfl | rfl | rfl | rfl
  · exact fin (nI (kof 0)) (tkR (wk 0)) 0 rfl (by decide)
  · exact fin (nI (kof 1)) (tkR (wk 1)) 0 rfl (by decide)
  · exact fin (nI (kof 2)) (tkR (wk 2)) 0 rfl (by decide)
  · exact fin (nI (kof 3)) (tkR (wk 3)) 0 rfl (by decide)
  · exact fin (nI (kof 4)) (tkR (wk 4)) 0 rfl (by decide)
  · exact fin (nI (kof 5)) (tkR (wk 5)) 0 rfl (by decide)
  · exact fin (nI (kof 6)) (tkR (wk 6)) 0 rfl (by decide)
  · exact fin (nI (kof 7)) (tkR (wk 7)) 0 rfl (by decide)
  · exact fin (nI (kof 8)) (tkR (wk 8)) 0 rfl (by decide)
  · exact fin (nI (kof 9)) (tkR (wk 9)) 0 rfl (by decide)
  · exact fin (nI (kof 10)) (tkR (wk 10)) 0 rfl (by decide)
  · exact fin (nI (kof 11)) (tkR (wk 11)) 0 rfl (by decide)
  · exact fin (nI (kof 12)) (tkR (wk 12)) 0 rfl (by decide)
  · exact fin (nI (kof 13)) (tkR (wk 13)) 0 rfl (by decide)
theorem b132_no {g : Mm} : ∃ g', fX11_next_b132 g (nI 14) = some g' ∧ (∀ t, t ≠ 0 → g' t = g t) ∧ (∀ j, j ≠ 27 → j ≠ 28 → g' 0 0 0 j = g 0 0 0 j) ∧ g' 0 0 0 27 = -1 := by
  refine ⟨_, rfl, fun t ht => ?_, fun j j7 j8 => ?_, rfl⟩
  · funext i v j
    exact (if_neg (fun h => ht h.1)).trans (if_neg (fun h => ht h.1))
  · exact (if_neg (fun h => j8 h.2.2.2)).trans (if_neg (fun h => j7 h.2.2.2))
/-- a word -/
theorem tok_word {e : Nat} (hK : K ≤ 160) (hab : a ≤ b) (h1 : ∀ j, a ≤ j → j < b → blk (tp j)) (hbe : b < e) (he : e ≤ K) (hl : ∀ j, b ≤ j → j < e → ltr (tp j)) (hs : e = K ∨ ¬ ltr (tp e)) : ∃ k v, Tok K tp a k v b e := by
  have l0 := hl b (Nat.le_refl _) hbe
  have nb : b = K ∨ ¬ blk (tp b) := Or.inr (not_ltr_blk l0)
  have hl' : ∀ j, b ≤ j → j < b + (e - b) → ltr (tp j) := fun j j1 j2 => hl j j1 (by omega)
  -- the component
  have C : ∀ z, TpC z K tp → z 3 0 0 2 = nI b → z 3 0 0 4 = nI b → ∃ g', nbC z = some g' ∧ (∀ t, t ≠ 3 → g' t = z t) ∧ (∀ j, j ≠ 2 → j ≠ 3 → j ≠ 5 → g' 3 0 0 j = z 3 0 0 j) ∧ g' 3 0 0 2 = nI e ∧ ((g' 3 0 0 3 = 257 ∧ (e - b < 5 → ∀ w, w < 14 → ¬ Wm tp b (e - b) w)) ∨ (e - b < 5 ∧ ∃ w, w < 14 ∧ g' 3 0 0 3 = 259 ∧ g' 3 0 0 5 = nI w ∧ Wm tp b (e - b) w)) := fun z hz q2 q4 => by
    obtain ⟨x1, x2⟩ := hz.2.2 b (by omega)
    obtain ⟨g', p1, p2⟩ := readWord_pr hz q2 q4 (by omega) he hl hs
    unfold nbC
    rw [q2, hz.2.1, if_pos (nI_lt (by omega) (by omega)), wGi_ok (by omega) (by omega), nI_clamp (by omega), x2, (letter_ev x1).1 l0, wBd_e, if_neg c10, p1, wBd_e]
    exact ⟨g', rfl, p2⟩
  -- the reference
  have R : ∀ (k : Nat) (z t : Mm), k ≤ 14 → TpR z K tp → WD z → z 0 0 0 25 = nI b → (∀ j, j < k → kW.getD j 0 ≠ (if e - b ≤ 4 then pkN tp b (e - b) else 0)) → (k = 14 ∨ kW.getD k 0 = (if e - b ≤ 4 then pkN tp b (e - b) else 0)) → ∃ y, (∀ t', t' ≠ 0 → y t' = z t') ∧ (∀ j, j ≠ 25 → y 0 0 0 j = z 0 0 0 j) ∧ y 0 0 0 25 = nI e ∧ ∀ t, fX11_next_b132 y (nI k) = some t → nbR z = some t := fun k z t hk hz hw q5 k1 k2 => by
    obtain ⟨x1, x2⟩ := hz.2.2 b (by omega)
    obtain ⟨y, y1, y2, y3, y4⟩ := letters_pr hz q5 (by omega) he hl hs
    refine ⟨y, y2, y3, y4, fun t ht => ?_⟩
    have hwy : WD y := fun k hk => by rw [y2 18 (by decide)]; exact hw k hk
    have ey : (if e - b ≤ 4 then nI (pkN tp b (e - b)) else 0) = nI (if e - b ≤ 4 then pkN tp b (e - b) else 0) := by
      by_cases c : e - b ≤ 4
      · rw [if_pos c, if_pos c]
      · rw [if_neg c, if_neg c]; rfl
    have P31 : (if e - b ≤ 4 then pkN tp b (e - b) else 0) < 2 ^ 31 := by
      by_cases c : e - b ≤ 4
      · rw [if_pos c]; exact pkN_31 c hl'
      · rw [if_neg c]; decide
    unfold nbR
    rw [q5, hz.2.1, if_neg (nI_ne (by omega) (by omega) (by omega)), wGi_ok (by omega) (by omega), nI_clamp (by omega), x2, wLe_e, (inL_ev x1).1 l0, wBd_e, if_neg c10, y1, wB2_e, wLe_e, ey]
    exact words_pr hwy P31 hk k1 k2 ht
  by_cases F : e - b < 5 ∧ ∃ w, w < 14 ∧ Wm tp b (e - b) w
  · obtain ⟨n5, w, hw, wm⟩ := F
    have n4 : e - b ≤ 4 := by omega
    have eq := (Wm_pk hw (by omega) n4 hl').mp wm
    obtain ⟨ok1, ok2, ok3, ok4, ok5, ok6⟩ := wk_ok w hw
    obtain ⟨kf1, kf2⟩ := kof_wof w hw
    refine ⟨wk w, wv w, hab, by omega, he, fun _ => hbe, ⟨Or.inl (by omega), fun h => by omega, ok3, ok4⟩, NxC_mk hab (by omega) h1 nb fun z hz q2 q4 => ?_, NxR_mk hab (by omega) h1 nb fun z hz hwd q5 q7 q8 => ?_⟩
    · obtain ⟨g', p1, p2, p3, p4, p5⟩ := C z hz q2 q4
      rcases p5 with ⟨-, p⟩ | ⟨-, w', hw', p5, p6, wm'⟩
      · exact absurd wm (p n5 w hw)
      · have eq' := (Wm_pk hw' (by omega) n4 hl').mp wm'
        obtain ⟨kf1', kf2'⟩ := kof_wof w' hw'
        have : kof w = kof w' := kW_inj _ kf1 _ kf1' (eq.trans eq'.symm)
        have ew : w' = w := by rw [← kf2, ← kf2', this]
        subst ew
        exact ⟨g', p1, p2, p3, p4, p5.trans ok5.symm, fun _ _ => p6.trans ok6.symm⟩
    · obtain ⟨y, y1, y2, y3, y4⟩ := R (kof w) z z (by omega) hz hwd q5 (fun j hj => by
        rw [if_pos n4, ← eq]
        intro q
        have := kW_inj j (by omega) (kof w) kf1 q
        omega) (Or.inr (by rw [if_pos n4]; exact eq))
      obtain ⟨g', p1, p2, p3, p4, p5⟩ := b132_ev (g := y) hw
      exact ⟨g', y4 g' p1, fun t ht => (p2 t ht).trans (y1 t ht), fun j j5 j7 j8 => (p3 j j7 j8).trans (y2 j j5), (p3 25 (by decide) (by decide)).trans y3, p4, fun _ k3 => p5 k3⟩
  · have no : e - b < 5 → ∀ w, w < 14 → ¬ Wm tp b (e - b) w := fun n5 w hw q => F ⟨n5, w, hw, q⟩
    refine ⟨7, 0, hab, by omega, he, fun _ => hbe, ⟨Or.inl (by omega), fun h => absurd h (by decide), fun h => absurd h (by decide), fun h => absurd h (by decide)⟩, NxC_mk hab (by omega) h1 nb fun z hz q2 q4 => ?_, NxR_mk hab (by omega) h1 nb fun z hz hwd q5 q7 q8 => ?_⟩
    · obtain ⟨g', p1, p2, p3, p4, p5⟩ := C z hz q2 q4
      rcases p5 with ⟨p, -⟩ | ⟨n5, w', hw', p5, p6, wm'⟩
      · exact ⟨g', p1, p2, p3, p4, p, fun _ h => absurd h (by decide)⟩
      · exact absurd wm' (no n5 w' hw')
    · obtain ⟨y, y1, y2, y3, y4⟩ := R 14 z z (by omega) hz hwd q5 (fun j hj => by
        by_cases n4 : e - b ≤ 4
        · rw [if_pos n4]
          intro q
          obtain ⟨w1, w2⟩ := wof_kof j hj
          exact no (by omega) (wof j) w1 ((Wm_pk w1 (by omega) n4 hl').mpr (by rw [w2]; exact q))
        · rw [if_neg n4]
          have := (kW_pos j hj).1
          omega) (Or.inl rfl)
      obtain ⟨g', p1, p2, p3, p4⟩ := b132_no (g := y)
      exact ⟨g', y4 g' p1, fun t ht => (p2 t ht).trans (y1 t ht), fun j j5 j7 j8 => (p3 j j7 j8).trans (y2 j j5), (p3 25 (by decide) (by decide)).trans y3, p4, fun _ h => absurd h (by decide)⟩
/-- from every place there is a token, the same on both sides -/
theorem lex (hK : K ≤ 160) (ha : a ≤ K) : ∃ k v b e, Tok K tp a k v b e := by
  obtain ⟨b, b1, b2, b3, b4⟩ := scan (fun j => blk (tp j)) K (K - a) a (by omega)
  by_cases c : b = K
  · subst c; exact ⟨0, 0, b, b, tok_end b1 b3⟩
  · have nb := b4.resolve_left c
    by_cases cl : ltr (tp b)
    · obtain ⟨e, e1, e2, e3, e4⟩ := scan (fun j => ltr (tp j)) K (K - b) b (by omega)
      have lt : b < e := by
        rcases Nat.lt_or_ge b e with h | h
        · exact h
        · have : e = b := by omega
          subst this
          exact absurd cl (e4.resolve_left c)
      obtain ⟨k, v, h⟩ := tok_word hK b1 b3 lt e2 e3 e4
      exact ⟨k, v, b, e, h⟩
    · by_cases cd : dgt (tp b)
      · obtain ⟨e, e1, e2, e3, e4⟩ := scan (fun j => dgt (tp j)) K (K - b) b (by omega)
        have lt : b < e := by
          rcases Nat.lt_or_ge b e with h | h
          · exact h
          · have : e = b := by omega
            subst this
            exact absurd cd (e4.resolve_left c)
        obtain ⟨k, v, h⟩ := tok_num b1 b3 lt e2 e3 e4
        exact ⟨k, v, b, e, h⟩
      · obtain ⟨k, v, h⟩ := tok_sign b1 b3 (show b < K by omega) nb cl cd
        exact ⟨k, v, b, b + 1, h⟩
end TOK
