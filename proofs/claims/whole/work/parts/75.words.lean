-- ===== words =====
def wcN (p : Nat) : Nat := (kC 2 p).toNatClampNeg
set_option maxRecDepth 100000 in
theorem char_all : ∀ p, p < 70 → fX100_charAt 2 (nI p) = some (nI (wcN p)) ∧ wcN p < 128 := by decide +kernel
/-- word w stands there, n letters long -/
def Wm (tp : Nat → Nat) (b n w : Nat) : Prop := ∀ i, i < 5 → wcN (w * 5 + i) = if i < n then tp (b + i) else 32
section WRD
variable {g : Mm} {K : Nat} {tp : Nat → Nat}
theorem word_in {b n w : Nat} (h : TpC g K tp) (hb : b + n ≤ K) (hn : n < 5) (hw : w < 14) : ∃ t, fX5_wordOf_L19 g (nI b) (nI n) (nI w) 1 0 = some t ∧ ((t = .inr (nI w) ∧ Wm tp b n w) ∨ (t = .inl (nI (w + 1)) ∧ ¬ Wm tp b n w)) := by
  have hK := h.1
  refine wLp_one (f := fun q : Int32 × Int32 => fX5_wordOf_B19 g (nI b) (nI n) (nI w) q.1 q.2) (fun t => (t = .inr (nI w) ∧ Wm tp b n w) ∨ (t = .inl (nI (w + 1)) ∧ ¬ Wm tp b n w)) (fun i s => (s = (1, nI i) ∧ ∀ j, j < i → wcN (w * 5 + j) = if j < n then tp (b + j) else 32) ∨ (s = (0, nI i) ∧ ¬ Wm tp b n w)) 5 ?_ ?_ (k := 0) (Nat.zero_le _) (Or.inl ⟨rfl, fun j hj => absurd hj (by omega)⟩) (by omega)
  · rintro i s hi (⟨e, a⟩ | ⟨e, a⟩)
    · subst e
      left
      obtain ⟨c1, c2⟩ := char_all (w * 5 + i) (by omega)
      have idx : nI w * (5 : Int32) + nI i = nI (w * 5 + i) := by rw [show (5 : Int32) = nI 5 from rfl, nI_mul, nI_add]
      -- what is compared with
      have cmp : ∀ x : Nat, x < 256 → x = (if i < n then tp (b + i) else 32) → ∃ s', fX5_wordOf_b50 g (nI b) (nI n) (nI w) (nI i) (nI x) = some (.inl s') ∧ ((s' = (1, nI (i + 1)) ∧ ∀ j, j < i + 1 → wcN (w * 5 + j) = if j < n then tp (b + j) else 32) ∨ (s' = (0, nI (i + 1)) ∧ ¬ Wm tp b n w)) := fun x hx ex => by
        unfold fX5_wordOf_b50 fX5_wordOf_b73
        rw [idx, c1, wBd_e]
        by_cases c : wcN (w * 5 + i) = x
        · rw [if_pos (by rw [c]), wLe_e, nI_1]
          refine ⟨_, rfl, Or.inl ⟨rfl, fun j hj => ?_⟩⟩
          by_cases ej : j = i
          · subst ej; rw [c]; exact ex
          · exact a j (by omega)
        · rw [if_neg (nI_ne (by omega) (by omega) c), wLe_e, nI_1]
          exact ⟨_, rfl, Or.inr ⟨rfl, fun q => c (by rw [ex]; exact q i hi)⟩⟩
      dsimp only
      unfold fX5_wordOf_B19
      rw [if_neg (show ¬ (5 : Int32) ≤ nI i from nI_ge (b := 5) hi (by omega)), if_neg c10]
      by_cases ni : n ≤ i
      · rw [if_pos (nI_le ni (by omega))]
        exact cmp 32 (by omega) (if_neg (by omega)).symm
      · obtain ⟨x1, x2⟩ := h.2.2 (b + i) (by omega)
        rw [if_neg (nI_ge (by omega) (by omega)), nI_add, wGi_ok (by omega) (by omega), nI_clamp (by omega), x2]
        exact cmp _ x1 (if_pos (by omega)).symm
    · subst e
      right
      dsimp only
      unfold fX5_wordOf_B19 fX5_wordOf_b81
      rw [if_neg (show ¬ (5 : Int32) ≤ nI i from nI_ge (b := 5) hi (by omega)), if_pos rfl, if_pos rfl, wLe_e, nI_1, wEx_e]
      exact ⟨_, rfl, Or.inr ⟨rfl, a⟩⟩
  · rintro s (⟨e, a⟩ | ⟨e, a⟩)
    · subst e
      dsimp only
      unfold fX5_wordOf_B19 fX5_wordOf_b81
      rw [if_pos (show (5 : Int32) ≤ nI 5 by decide), if_neg c10, wEx_e, wEx_e]
      exact ⟨_, rfl, Or.inl ⟨rfl, a⟩⟩
    · subst e
      dsimp only
      unfold fX5_wordOf_B19 fX5_wordOf_b81
      rw [if_pos (show (5 : Int32) ≤ nI 5 by decide), if_pos rfl, wLe_e, nI_1, wEx_e]
      exact ⟨_, rfl, Or.inr ⟨rfl, a⟩⟩
theorem wordOf_pr {b n : Nat} (h : TpC g K tp) (hb : b + n ≤ K) : ∃ r, fX5_wordOf g (nI b) (nI n) = some r ∧ ((r = -1 ∧ (n < 5 → ∀ w, w < 14 → ¬ Wm tp b n w)) ∨ (n < 5 ∧ ∃ w, w < 14 ∧ r = nI w ∧ Wm tp b n w)) := by
  have hK := h.1
  unfold fX5_wordOf
  rw [wLe_e]
  refine wLp_one (f := fun q : Int32 => fX5_wordOf_B2 g (nI b) (nI n) q) (fun r => (r = -1 ∧ (n < 5 → ∀ w, w < 14 → ¬ Wm tp b n w)) ∨ (n < 5 ∧ ∃ w, w < 14 ∧ r = nI w ∧ Wm tp b n w)) (fun k s => s = nI k ∧ (n < 5 → ∀ w, w < k → ¬ Wm tp b n w)) 14 ?_ ?_ (k := 0) (Nat.zero_le _) ⟨rfl, fun _ w hw => absurd hw (by omega)⟩ (by omega)
  · rintro k s hk ⟨e, a⟩
    subst e
    unfold fX5_wordOf_B2
    rw [if_neg (show ¬ (14 : Int32) ≤ nI k from nI_ge (b := 14) hk (by omega))]
    by_cases c : 5 ≤ n
    · rw [if_pos (show (5 : Int32) ≤ nI n from nI_le (a := 5) c (by omega)), wEx_e]
      exact Or.inr ⟨_, rfl, Or.inl ⟨rfl, fun q => absurd q (by omega)⟩⟩
    · obtain ⟨t, t1, t2⟩ := word_in h hb (show n < 5 by omega) hk
      rw [if_neg (show ¬ (5 : Int32) ≤ nI n from nI_ge (b := 5) (by omega) (by omega)), wLe_e, wLe_e, t1]
      rcases t2 with ⟨rfl, q⟩ | ⟨rfl, q⟩
      · exact Or.inr ⟨_, rfl, Or.inr ⟨by omega, k, hk, rfl, q⟩⟩
      · refine Or.inl ⟨_, rfl, rfl, fun hn w hw => ?_⟩
        by_cases e : w = k
        · subst e; exact q
        · exact a hn w (by omega)
  · rintro s ⟨e, a⟩
    subst e
    unfold fX5_wordOf_B2
    rw [if_pos (show (14 : Int32) ≤ nI 14 by decide), wEx_e]
    exact ⟨_, rfl, Or.inl ⟨rfl, a⟩⟩
theorem readWord_pr {b e : Nat} (h : TpC g K tp) (hb : g 3 0 0 2 = nI b) (h4 : g 3 0 0 4 = nI b) (hbe : b ≤ e) (he : e ≤ K) (h1 : ∀ j, b ≤ j → j < e → ltr (tp j)) (h2 : e = K ∨ ¬ ltr (tp e)) :
    ∃ g', fX5_readWord g = some g' ∧ (∀ t, t ≠ 3 → g' t = g t) ∧ (∀ j, j ≠ 2 → j ≠ 3 → j ≠ 5 → g' 3 0 0 j = g 3 0 0 j) ∧ g' 3 0 0 2 = nI e ∧ ((g' 3 0 0 3 = 257 ∧ (e - b < 5 → ∀ w, w < 14 → ¬ Wm tp b (e - b) w)) ∨ (e - b < 5 ∧ ∃ w, w < 14 ∧ g' 3 0 0 3 = 259 ∧ g' 3 0 0 5 = nI w ∧ Wm tp b (e - b) w)) := by
  have hK := h.1
  refine wLp_one (f := fun q : Mm => fX5_readWord_B0 q) (fun g' => (∀ t, t ≠ 3 → g' t = g t) ∧ (∀ j, j ≠ 2 → j ≠ 3 → j ≠ 5 → g' 3 0 0 j = g 3 0 0 j) ∧ g' 3 0 0 2 = nI e ∧ ((g' 3 0 0 3 = 257 ∧ (e - b < 5 → ∀ w, w < 14 → ¬ Wm tp b (e - b) w)) ∨ (e - b < 5 ∧ ∃ w, w < 14 ∧ g' 3 0 0 3 = 259 ∧ g' 3 0 0 5 = nI w ∧ Wm tp b (e - b) w)))
    (fun n s => (∀ t, t ≠ 3 → s t = g t) ∧ (∀ j, j ≠ 2 → s 3 0 0 j = g 3 0 0 j) ∧ s 3 0 0 2 = nI (b + n)) (e - b) ?_ ?_ (k := 0) (Nat.zero_le _) ⟨fun _ _ => rfl, fun _ _ => rfl, hb⟩ (by omega)
  · rintro n s hn ⟨a1, a2, a3⟩
    left
    obtain ⟨x1, x2⟩ := h.2.2 (b + n) (by omega)
    have s1 : s 3 0 0 1 = nI K := (a2 1 (by decide)).trans h.2.1
    have s40 : s 4 0 0 (b + n) = nI (tp (b + n)) := by rw [a1 4 (by decide)]; exact x2
    unfold fX5_readWord_B0
    rw [s1, a3, if_neg (nI_ge (show b + n < K by omega) (by omega)), wGi_ok (by omega) (by omega), nI_clamp (by omega), s40, (letter_ev x1).1 (h1 (b + n) (by omega) (by omega)), wBd_e, if_neg c10, wLe_e, nI_1]
    exact ⟨_, rfl, fun t ht => (st_kind ht).trans (a1 t ht), fun j j2 => (st_ne (by omega)).trans (a2 j j2), st_eq⟩
  · rintro s ⟨a1, a2, a3⟩
    have s1 : s 3 0 0 1 = nI K := (a2 1 (by decide)).trans h.2.1
    have s4 : s 3 0 0 4 = nI b := (a2 4 (by decide)).trans h4
    have eb : b + (e - b) = e := by omega
    rw [eb] at a3
    have hs : TpC s K tp := ⟨hK, s1, fun k hk => ⟨(h.2.2 k hk).1, by rw [a1 4 (by decide)]; exact (h.2.2 k hk).2⟩⟩
    obtain ⟨r, r1, r2⟩ := wordOf_pr (b := b) (n := e - b) hs (by omega)
    have out : ∃ t, fX5_readWord_b39 s = some t ∧ (∀ t', t' ≠ 3 → t t' = g t') ∧ (∀ j, j ≠ 2 → j ≠ 3 → j ≠ 5 → t 3 0 0 j = g 3 0 0 j) ∧ t 3 0 0 2 = nI e ∧ ((t 3 0 0 3 = 257 ∧ (e - b < 5 → ∀ w, w < 14 → ¬ Wm tp b (e - b) w)) ∨ (e - b < 5 ∧ ∃ w, w < 14 ∧ t 3 0 0 3 = 259 ∧ t 3 0 0 5 = nI w ∧ Wm tp b (e - b) w)) := by
      unfold fX5_readWord_b39
      rw [a3, s4, nI_sub hbe, r1, wBd_e, wLe_e, st_eq]
      rcases r2 with ⟨rfl, q⟩ | ⟨q1, w, q2, rfl, q3⟩
      · rw [if_neg (by decide), wLe_e]
        refine ⟨_, rfl, fun t ht => by rw [st_kind ht, st_kind ht]; exact a1 t ht, fun j j2 j3 j5 => by rw [st_ne (by omega), st_ne (by omega)]; exact a2 j j2, by rw [st_ne (by omega), st_ne (by omega)]; exact a3, Or.inl ⟨st_eq, q⟩⟩
      · rw [if_pos (nI_pos' (by omega)), wLe_e]
        refine ⟨_, rfl, fun t ht => by rw [st_kind ht, st_kind ht]; exact a1 t ht, fun j j2 j3 j5 => by rw [st_ne (by omega), st_ne (by omega)]; exact a2 j j2, by rw [st_ne (by omega), st_ne (by omega)]; exact a3, Or.inr ⟨q1, w, q2, st_eq, by rw [st_ne (by omega), st_eq], q3⟩⟩
    obtain ⟨t, o1, o2⟩ := out
    unfold fX5_readWord_B0
    rw [s1, a3]
    by_cases c : e = K
    · rw [if_pos (nI_le (show K ≤ e by omega) (by omega)), o1, wEx_e]
      exact ⟨_, rfl, o2⟩
    · obtain ⟨x1, x2⟩ := hs.2.2 e (by omega)
      rw [if_neg (nI_ge (show e < K by omega) (by omega)), wGi_ok (by omega) (by omega), nI_clamp (by omega), x2, (letter_ev x1).2 (h2.resolve_left c), wBd_e, if_pos rfl, o1, wEx_e]
      exact ⟨_, rfl, o2⟩
-- ----- the reference packs a word
def pkN (tp : Nat → Nat) (b : Nat) : Nat → Nat
  | 0 => 0
  | m + 1 => pkN tp b m * 256 + tp (b + m)
theorem pkN_lt {b m : Nat} (h : ∀ j, b ≤ j → j < b + m → ltr (tp j)) : pkN tp b m < 256 ^ m := by
  induction m with
  | zero => exact Nat.one_pos
  | succ m ih =>
    have := ih fun j h1 h2 => h j h1 (by omega)
    have d := h (b + m) (by omega) (by omega)
    unfold ltr at d
    show pkN tp b m * 256 + tp (b + m) < 256 ^ (m + 1)
    rw [Nat.pow_succ]
    omega
theorem shl_or {p x : Nat} (hp : p < 2 ^ 24) (hx : x < 256) : ((lN p <<< ((8 : Int32).toInt64 &&& 63)) ||| (nI x).toInt64) = lN (p * 256 + x) := by
  have e8 : ((8 : Int32).toInt64 &&& 63).toBitVec.smod 64#64 = 8#64 := by decide
  rw [nI_l (by omega)]
  apply Int64.toBitVec_inj.mp
  rw [Int64.toBitVec_or]
  have s : (lN p <<< ((8 : Int32).toInt64 &&& 63)).toBitVec = (BitVec.ofNat 64 p) <<< 8 := by
    show (lN p).toBitVec <<< (((8 : Int32).toInt64 &&& 63).toBitVec.smod 64#64) = _
    rw [e8]
    rfl
  rw [s]
  show (BitVec.ofNat 64 p) <<< 8 ||| BitVec.ofNat 64 x = BitVec.ofNat 64 (p * 256 + x)
  apply BitVec.eq_of_toNat_eq
  rw [BitVec.toNat_or, BitVec.toNat_shiftLeft, BitVec.toNat_ofNat, BitVec.toNat_ofNat, BitVec.toNat_ofNat, Nat.mod_eq_of_lt (show p < 2 ^ 64 by omega), Nat.mod_eq_of_lt (show x < 2 ^ 64 by omega), Nat.mod_eq_of_lt (show p * 256 + x < 2 ^ 64 by omega), Nat.mod_eq_of_lt (show p <<< 8 < 2 ^ 64 by rw [Nat.shiftLeft_eq]; omega), ← Nat.shiftLeft_add_eq_or_of_lt (show x < 2 ^ 8 by omega), Nat.shiftLeft_eq]
theorem letters_pr {b e : Nat} (h : TpR g K tp) (hb : g 0 0 0 25 = nI b) (hbe : b ≤ e) (he : e ≤ K) (h1 : ∀ j, b ≤ j → j < e → ltr (tp j)) (h2 : e = K ∨ ¬ ltr (tp e)) :
    ∃ g', fX11_letters g = some (g', if e - b ≤ 4 then nI (pkN tp b (e - b)) else 0) ∧ (∀ t, t ≠ 0 → g' t = g t) ∧ (∀ j, j ≠ 25 → g' 0 0 0 j = g 0 0 0 j) ∧ g' 0 0 0 25 = nI e := by
  have hK := h.1
  unfold fX11_letters
  rw [wLe_e, wLe_e]
  obtain ⟨⟨g', r⟩, p1, p2, p3⟩ := wLp_one (f := fun q : Mm × Int64 × Int32 => fX11_letters_B4 q.1 q.2.1 q.2.2) (fun t => t.2 = (if e - b ≤ 4 then nI (pkN tp b (e - b)) else 0) ∧ (∀ t', t' ≠ 0 → t.1 t' = g t') ∧ (∀ j, j ≠ 25 → t.1 0 0 0 j = g 0 0 0 j) ∧ t.1 0 0 0 25 = nI e)
    (fun n x => ∃ s w, x = (s, w, nI n) ∧ (∀ t, t ≠ 0 → s t = g t) ∧ (∀ j, j ≠ 25 → s 0 0 0 j = g 0 0 0 j) ∧ s 0 0 0 25 = nI (b + n) ∧ (n ≤ 4 → w = lN (pkN tp b n))) (e - b)
    (fun n x hn ⟨s, w, ex, a1, a2, a3, a4⟩ => by
      subst ex
      left
      obtain ⟨x1, x2⟩ := h.2.2 (b + n) (by omega)
      have s1 : s 0 0 0 11 = nI K := (a2 11 (by decide)).trans h.2.1
      have s6 : s 6 0 0 (b + n) = nI (tp (b + n)) := by rw [a1 6 (by decide)]; exact x2
      have nx : ∀ z : Int64, (n + 1 ≤ 4 → z = lN (pkN tp b (n + 1))) → ∃ s', fX11_letters_b59 s (nI n) z = some (.inl s') ∧ ∃ s0 w, s' = (s0, w, nI (n + 1)) ∧ (∀ t, t ≠ 0 → s0 t = g t) ∧ (∀ j, j ≠ 25 → s0 0 0 0 j = g 0 0 0 j) ∧ s0 0 0 0 25 = nI (b + (n + 1)) ∧ (n + 1 ≤ 4 → w = lN (pkN tp b (n + 1))) := fun z hz => by
        unfold fX11_letters_b59
        rw [wLe_e, nI_1, a3, nI_1, wLe_e]
        exact ⟨_, rfl, _, z, rfl, fun t ht => (st_kind ht).trans (a1 t ht), fun j hj => (st_ne (by omega)).trans (a2 j hj), st_eq, hz⟩
      dsimp only
      unfold fX11_letters_B4
      rw [s1, a3, if_neg (nI_ge (show b + n < K by omega) (by omega)), wGi_ok (by omega) (by omega), nI_clamp (by omega), s6, (inL_ev x1).1 (h1 (b + n) (by omega) (by omega)), wBd_e, if_neg c10]
      by_cases c : 8 ≤ n
      · rw [if_pos (show (8 : Int32) ≤ nI n from nI_le (a := 8) c (by omega))]
        exact nx _ (fun q => absurd q (by omega))
      · rw [if_neg (show ¬ (8 : Int32) ≤ nI n from nI_ge (b := 8) (by omega) (by omega)), wGi_ok (by omega) (by omega)]
        refine nx _ (fun q => ?_)
        have pl := pkN_lt (tp := tp) (b := b) (m := n) fun j q1 q2 => h1 j q1 (by omega)
        have p3 : pkN tp b n < 2 ^ 24 := Nat.lt_of_lt_of_le pl (by
          have : (256 : Nat) ^ n ≤ 256 ^ 3 := Nat.pow_le_pow_right (by omega) (by omega)
          exact this)
        rw [a4 (by omega), shl_or p3 x1]
        rfl)
    (fun x ⟨s, w, ex, a1, a2, a3, a4⟩ => by
      subst ex
      have s1 : s 0 0 0 11 = nI K := (a2 11 (by decide)).trans h.2.1
      have eb : b + (e - b) = e := by omega
      rw [eb] at a3
      have o1 : fX11_letters_b76 s w (nI (e - b)) = some (s, if e - b ≤ 4 then nI (pkN tp b (e - b)) else 0) := by
        unfold fX11_letters_b76
        by_cases c : e - b ≤ 4
        · rw [if_pos (show nI (e - b) ≤ (4 : Int32) from nI_le (b := 4) c (by omega)), if_pos c, a4 c, lN_i]
        · rw [if_neg (show ¬ nI (e - b) ≤ (4 : Int32) from nI_ge (a := 4) (by omega) (by omega)), if_neg c]
      dsimp only
      unfold fX11_letters_B4
      rw [s1, a3]
      by_cases c : e = K
      · rw [if_pos (nI_le (show K ≤ e by omega) (by omega)), o1, wEx_e]
        exact ⟨_, rfl, rfl, a1, a2, a3⟩
      · obtain ⟨x1, x2⟩ := h.2.2 e (by omega)
        have s6 : s 6 0 0 e = nI (tp e) := by rw [a1 6 (by decide)]; exact x2
        rw [if_neg (nI_ge (show e < K by omega) (by omega)), wGi_ok (by omega) (by omega), nI_clamp (by omega), s6, (inL_ev x1).2 (h2.resolve_left c), wBd_e, if_pos rfl, o1, wEx_e]
        exact ⟨_, rfl, rfl, a1, a2, a3⟩)
    (k := 0) (Nat.zero_le _) (s := (g, 0, 0)) ⟨g, 0, rfl, fun _ _ => rfl, fun _ _ => rfl, hb, fun _ => rfl⟩ (u := 1000) (by omega)
  have p2 : r = _ := p2
  subst p2
  exact ⟨g', p1, p3⟩
end WRD
/-- where the reference has the component's word -/
def kof (w : Nat) : Nat := if w < 3 then w else if w < 6 then w + 8 else w - 3
def wof (k : Nat) : Nat := if k < 3 then k else if k < 11 then k + 3 else k - 8
theorem wof_kof : ∀ k, k < 14 → wof k < 14 ∧ kof (wof k) = k := by decide
theorem kof_wof : ∀ w, w < 14 → kof w < 14 ∧ wof (kof w) = w := by decide
theorem kW_inj : ∀ k, k < 14 → ∀ k', k' < 14 → kW.getD k 0 = kW.getD k' 0 → k = k' := by decide
theorem kW_pos : ∀ k, k < 14 → 0 < kW.getD k 0 ∧ kW.getD k 0 < 2 ^ 31 := by decide
def wtN : List (List Nat) := (List.range 14).map fun w => (List.range 5).map fun i => wcN (w * 5 + i)
theorem wt_all : wtN = [[112, 114, 105, 111, 32], [115, 101, 112, 32, 32], [104, 111, 108, 100, 32], [111, 114, 32, 32, 32], [97, 110, 100, 32, 32], [110, 111, 116, 32, 32], [105, 110, 32, 32, 32], [108, 97, 116, 101, 32], [107, 105, 110, 100, 32], [119, 97, 105, 116, 32], [112, 114, 101, 118, 32], [102, 111, 103, 32, 32], [98, 97, 103, 115, 32], [99, 114, 101, 119, 32]] := by decide +kernel
/-- a word is the same packed -/
theorem Wm_pk {tp : Nat → Nat} {b n w : Nat} (hw : w < 14) (hn : 0 < n) (h4 : n ≤ 4) (h1 : ∀ j, b ≤ j → j < b + n → ltr (tp j)) : Wm tp b n w ↔ kW.getD (kof w) 0 = pkN tp b n := by
  have l : ∀ i, i < n → 97 ≤ tp (b + i) ∧ tp (b + i) ≤ 122 := fun i hi => h1 (b + i) (by omega) (by omega)
  have wt : ∀ i, i < 5 → wcN (w * 5 + i) = ((wtN.getD w []).getD i 0) := fun i hi => by
    unfold wtN
    simp [List.getD, hw, hi]
  have five : Wm tp b n w ↔ (wcN (w * 5 + 0) = (if 0 < n then tp (b + 0) else 32) ∧ wcN (w * 5 + 1) = (if 1 < n then tp (b + 1) else 32) ∧ wcN (w * 5 + 2) = (if 2 < n then tp (b + 2) else 32) ∧ wcN (w * 5 + 3) = (if 3 < n then tp (b + 3) else 32) ∧ wcN (w * 5 + 4) = (if 4 < n then tp (b + 4) else 32)) := by
    constructor
    · intro h
      exact ⟨h 0 (by omega), h 1 (by omega), h 2 (by omega), h 3 (by omega), h 4 (by omega)⟩
    · rintro ⟨a0, a1, a2, a3, a4⟩ i hi
      rcases (show i = 0 ∨ i = 1 ∨ i = 2 ∨ i = 3 ∨ i = 4 by omega) with rfl | rfl | rfl | rfl | rfl <;> assumption
  rw [five, wt 0 (by omega), wt 1 (by omega), wt 2 (by omega), wt 3 (by omega), wt 4 (by omega), wt_all]
  have l0 := l 0 (by omega)
  rcases (show n = 1 ∨ n = 2 ∨ n = 3 ∨ n = 4 by omega) with rfl | rfl | rfl | rfl
  · have p : pkN tp b 1 = tp (b + 0) := by show 0 * 256 + tp (b + 0) = _; omega
    rw [p]
    clear p five wt l
    rcases (show w = 0 ∨ w = 1 ∨ w = 2 ∨ w = 3 ∨ w = 4 ∨ w = 5 ∨ w = 6 ∨ w = 7 ∨ w = 8 ∨ w = 9 ∨ w = 10 ∨ w = 11 ∨ w = 12 ∨ w = 13 by omega) with rfl | rfl | rfl | rfl | rfl | rfl | rfl | rfl | rfl | rfl | rfl | rfl | rfl | rfl
    · show (112 = tp (b + 0) ∧ 114 = 32 ∧ 105 = 32 ∧ 111 = 32 ∧ 32 = 32) ↔ 1886546287 = tp (b + 0)
      omega
    · show (115 = tp (b + 0) ∧ 101 = 32 ∧ 112 = 32 ∧ 32 = 32 ∧ 32 = 32) ↔ 7562608 = tp (b + 0)
      omega
    · show (104 = tp (b + 0) ∧ 111 = 32 ∧ 108 = 32 ∧ 100 = 32 ∧ 32 = 32) ↔ 1752132708 = tp (b + 0)
      omega
    · show (111 = tp (b + 0) ∧ 114 = 32 ∧ 32 = 32 ∧ 32 = 32 ∧ 32 = 32) ↔ 28530 = tp (b + 0)
      omega
    · show (97 = tp (b + 0) ∧ 110 = 32 ∧ 100 = 32 ∧ 32 = 32 ∧ 32 = 32) ↔ 6385252 = tp (b + 0)
      omega
    · show (110 = tp (b + 0) ∧ 111 = 32 ∧ 116 = 32 ∧ 32 = 32 ∧ 32 = 32) ↔ 7237492 = tp (b + 0)
      omega
    · show (105 = tp (b + 0) ∧ 110 = 32 ∧ 32 = 32 ∧ 32 = 32 ∧ 32 = 32) ↔ 26990 = tp (b + 0)
      omega
    · show (108 = tp (b + 0) ∧ 97 = 32 ∧ 116 = 32 ∧ 101 = 32 ∧ 32 = 32) ↔ 1818326117 = tp (b + 0)
      omega
    · show (107 = tp (b + 0) ∧ 105 = 32 ∧ 110 = 32 ∧ 100 = 32 ∧ 32 = 32) ↔ 1802071652 = tp (b + 0)
      omega
    · show (119 = tp (b + 0) ∧ 97 = 32 ∧ 105 = 32 ∧ 116 = 32 ∧ 32 = 32) ↔ 2002872692 = tp (b + 0)
      omega
    · show (112 = tp (b + 0) ∧ 114 = 32 ∧ 101 = 32 ∧ 118 = 32 ∧ 32 = 32) ↔ 1886545270 = tp (b + 0)
      omega
    · show (102 = tp (b + 0) ∧ 111 = 32 ∧ 103 = 32 ∧ 32 = 32 ∧ 32 = 32) ↔ 6713191 = tp (b + 0)
      omega
    · show (98 = tp (b + 0) ∧ 97 = 32 ∧ 103 = 32 ∧ 115 = 32 ∧ 32 = 32) ↔ 1650550643 = tp (b + 0)
      omega
    · show (99 = tp (b + 0) ∧ 114 = 32 ∧ 101 = 32 ∧ 119 = 32 ∧ 32 = 32) ↔ 1668441463 = tp (b + 0)
      omega
  · have l1 := l 1 (by omega)
    have p : pkN tp b 2 = tp (b + 0) * 256 + tp (b + 1) := by show (0 * 256 + tp (b + 0)) * 256 + tp (b + 1) = _; omega
    rw [p]
    clear p five wt l
    rcases (show w = 0 ∨ w = 1 ∨ w = 2 ∨ w = 3 ∨ w = 4 ∨ w = 5 ∨ w = 6 ∨ w = 7 ∨ w = 8 ∨ w = 9 ∨ w = 10 ∨ w = 11 ∨ w = 12 ∨ w = 13 by omega) with rfl | rfl | rfl | rfl | rfl | rfl | rfl | rfl | rfl | rfl | rfl | rfl | rfl | rfl
    · show (112 = tp (b + 0) ∧ 114 = tp (b + 1) ∧ 105 = 32 ∧ 111 = 32 ∧ 32 = 32) ↔ 1886546287 = tp (b + 0) * 256 + tp (b + 1)
      omega
    · show (115 = tp (b + 0) ∧ 101 = tp (b + 1) ∧ 112 = 32 ∧ 32 = 32 ∧ 32 = 32) ↔ 7562608 = tp (b + 0) * 256 + tp (b + 1)
      omega
    · show (104 = tp (b + 0) ∧ 111 = tp (b + 1) ∧ 108 = 32 ∧ 100 = 32 ∧ 32 = 32) ↔ 1752132708 = tp (b + 0) * 256 + tp (b + 1)
      omega
    · show (111 = tp (b + 0) ∧ 114 = tp (b + 1) ∧ 32 = 32 ∧ 32 = 32 ∧ 32 = 32) ↔ 28530 = tp (b + 0) * 256 + tp (b + 1)
      omega
    · show (97 = tp (b + 0) ∧ 110 = tp (b + 1) ∧ 100 = 32 ∧ 32 = 32 ∧ 32 = 32) ↔ 6385252 = tp (b + 0) * 256 + tp (b + 1)
      omega
    · show (110 = tp (b + 0) ∧ 111 = tp (b + 1) ∧ 116 = 32 ∧ 32 = 32 ∧ 32 = 32) ↔ 7237492 = tp (b + 0) * 256 + tp (b + 1)
      omega
    · show (105 = tp (b + 0) ∧ 110 = tp (b + 1) ∧ 32 = 32 ∧ 32 = 32 ∧ 32 = 32) ↔ 26990 = tp (b + 0) * 256 + tp (b + 1)
      omega
    · show (108 = tp (b + 0) ∧ 97 = tp (b + 1) ∧ 116 = 32 ∧ 101 = 32 ∧ 32 = 32) ↔ 1818326117 = tp (b + 0) * 256 + tp (b + 1)
      omega
    · show (107 = tp (b + 0) ∧ 105 = tp (b + 1) ∧ 110 = 32 ∧ 100 = 32 ∧ 32 = 32) ↔ 1802071652 = tp (b + 0) * 256 + tp (b + 1)
      omega
    · show (119 = tp (b + 0) ∧ 97 = tp (b + 1) ∧ 105 = 32 ∧ 116 = 32 ∧ 32 = 32) ↔ 2002872692 = tp (b + 0) * 256 + tp (b + 1)
      omega
    · show (112 = tp (b + 0) ∧ 114 = tp (b + 1) ∧ 101 = 32 ∧ 118 = 32 ∧ 32 = 32) ↔ 1886545270 = tp (b + 0) * 256 + tp (b + 1)
      omega
    · show (102 = tp (b + 0) ∧ 111 = tp (b + 1) ∧ 103 = 32 ∧ 32 = 32 ∧ 32 = 32) ↔ 6713191 = tp (b + 0) * 256 + tp (b + 1)
      omega
    · show (98 = tp (b + 0) ∧ 97 = tp (b + 1) ∧ 103 = 32 ∧ 115 = 32 ∧ 32 = 32) ↔ 1650550643 = tp (b + 0) * 256 + tp (b + 1)
      omega
    · show (99 = tp (b + 0) ∧ 114 = tp (b + 1) ∧ 101 = 32 ∧ 119 = 32 ∧ 32 = 32) ↔ 1668441463 = tp (b + 0) * 256 + tp (b + 1)
      omega
  · have l1 := l 1 (by omega)
    have l2 := l 2 (by omega)
    have p : pkN tp b 3 = (tp (b + 0) * 256 + tp (b + 1)) * 256 + tp (b + 2) := by show ((0 * 256 + tp (b + 0)) * 256 + tp (b + 1)) * 256 + tp (b + 2) = _; omega
    rw [p]
    clear p five wt l
    rcases (show w = 0 ∨ w = 1 ∨ w = 2 ∨ w = 3 ∨ w = 4 ∨ w = 5 ∨ w = 6 ∨ w = 7 ∨ w = 8 ∨ w = 9 ∨ w = 10 ∨ w = 11 ∨ w = 12 ∨ w = 13 by omega) with rfl | rfl | rfl | rfl | rfl | rfl | rfl | rfl | rfl | rfl | rfl | rfl | rfl | rfl
    · show (112 = tp (b + 0) ∧ 114 = tp (b + 1) ∧ 105 = tp (b + 2) ∧ 111 = 32 ∧ 32 = 32) ↔ 1886546287 = (tp (b + 0) * 256 + tp (b + 1)) * 256 + tp (b + 2)
      omega
    · show (115 = tp (b + 0) ∧ 101 = tp (b + 1) ∧ 112 = tp (b + 2) ∧ 32 = 32 ∧ 32 = 32) ↔ 7562608 = (tp (b + 0) * 256 + tp (b + 1)) * 256 + tp (b + 2)
      omega
    · show (104 = tp (b + 0) ∧ 111 = tp (b + 1) ∧ 108 = tp (b + 2) ∧ 100 = 32 ∧ 32 = 32) ↔ 1752132708 = (tp (b + 0) * 256 + tp (b + 1)) * 256 + tp (b + 2)
      omega
    · show (111 = tp (b + 0) ∧ 114 = tp (b + 1) ∧ 32 = tp (b + 2) ∧ 32 = 32 ∧ 32 = 32) ↔ 28530 = (tp (b + 0) * 256 + tp (b + 1)) * 256 + tp (b + 2)
      omega
    · show (97 = tp (b + 0) ∧ 110 = tp (b + 1) ∧ 100 = tp (b + 2) ∧ 32 = 32 ∧ 32 = 32) ↔ 6385252 = (tp (b + 0) * 256 + tp (b + 1)) * 256 + tp (b + 2)
      omega
    · show (110 = tp (b + 0) ∧ 111 = tp (b + 1) ∧ 116 = tp (b + 2) ∧ 32 = 32 ∧ 32 = 32) ↔ 7237492 = (tp (b + 0) * 256 + tp (b + 1)) * 256 + tp (b + 2)
      omega
    · show (105 = tp (b + 0) ∧ 110 = tp (b + 1) ∧ 32 = tp (b + 2) ∧ 32 = 32 ∧ 32 = 32) ↔ 26990 = (tp (b + 0) * 256 + tp (b + 1)) * 256 + tp (b + 2)
      omega
    · show (108 = tp (b + 0) ∧ 97 = tp (b + 1) ∧ 116 = tp (b + 2) ∧ 101 = 32 ∧ 32 = 32) ↔ 1818326117 = (tp (b + 0) * 256 + tp (b + 1)) * 256 + tp (b + 2)
      omega
    · show (107 = tp (b + 0) ∧ 105 = tp (b + 1) ∧ 110 = tp (b + 2) ∧ 100 = 32 ∧ 32 = 32) ↔ 1802071652 = (tp (b + 0) * 256 + tp (b + 1)) * 256 + tp (b + 2)
      omega
    · show (119 = tp (b + 0) ∧ 97 = tp (b + 1) ∧ 105 = tp (b + 2) ∧ 116 = 32 ∧ 32 = 32) ↔ 2002872692 = (tp (b + 0) * 256 + tp (b + 1)) * 256 + tp (b + 2)
      omega
    · show (112 = tp (b + 0) ∧ 114 = tp (b + 1) ∧ 101 = tp (b + 2) ∧ 118 = 32 ∧ 32 = 32) ↔ 1886545270 = (tp (b + 0) * 256 + tp (b + 1)) * 256 + tp (b + 2)
      omega
    · show (102 = tp (b + 0) ∧ 111 = tp (b + 1) ∧ 103 = tp (b + 2) ∧ 32 = 32 ∧ 32 = 32) ↔ 6713191 = (tp (b + 0) * 256 + tp (b + 1)) * 256 + tp (b + 2)
      omega
    · show (98 = tp (b + 0) ∧ 97 = tp (b + 1) ∧ 103 = tp (b + 2) ∧ 115 = 32 ∧ 32 = 32) ↔ 1650550643 = (tp (b + 0) * 256 + tp (b + 1)) * 256 + tp (b + 2)
      omega
    · show (99 = tp (b + 0) ∧ 114 = tp (b + 1) ∧ 101 = tp (b + 2) ∧ 119 = 32 ∧ 32 = 32) ↔ 1668441463 = (tp (b + 0) * 256 + tp (b + 1)) * 256 + tp (b + 2)
      omega
  · have l1 := l 1 (by omega)
    have l2 := l 2 (by omega)
    have l3 := l 3 (by omega)
    have p : pkN tp b 4 = ((tp (b + 0) * 256 + tp (b + 1)) * 256 + tp (b + 2)) * 256 + tp (b + 3) := by show (((0 * 256 + tp (b + 0)) * 256 + tp (b + 1)) * 256 + tp (b + 2)) * 256 + tp (b + 3) = _; omega
    rw [p]
    clear p five wt l
    rcases (show w = 0 ∨ w = 1 ∨ w = 2 ∨ w = 3 ∨ w = 4 ∨ w = 5 ∨ w = 6 ∨ w = 7 ∨ w = 8 ∨ w = 9 ∨ w = 10 ∨ w = 11 ∨ w = 12 ∨ w = 13 by omega) with rfl | rfl | rfl | rfl | rfl | rfl | rfl | rfl | rfl | rfl | rfl | rfl | rfl | rfl
    · show (112 = tp (b + 0) ∧ 114 = tp (b + 1) ∧ 105 = tp (b + 2) ∧ 111 = tp (b + 3) ∧ 32 = 32) ↔ 1886546287 = ((tp (b + 0) * 256 + tp (b + 1)) * 256 + tp (b + 2)) * 256 + tp (b + 3)
      omega
    · show (115 = tp (b + 0) ∧ 101 = tp (b + 1) ∧ 112 = tp (b + 2) ∧ 32 = tp (b + 3) ∧ 32 = 32) ↔ 7562608 = ((tp (b + 0) * 256 + tp (b + 1)) * 256 + tp (b + 2)) * 256 + tp (b + 3)
      omega
    · show (104 = tp (b + 0) ∧ 111 = tp (b + 1) ∧ 108 = tp (b + 2) ∧ 100 = tp (b + 3) ∧ 32 = 32) ↔ 1752132708 = ((tp (b + 0) * 256 + tp (b + 1)) * 256 + tp (b + 2)) * 256 + tp (b + 3)
      omega
    · show (111 = tp (b + 0) ∧ 114 = tp (b + 1) ∧ 32 = tp (b + 2) ∧ 32 = tp (b + 3) ∧ 32 = 32) ↔ 28530 = ((tp (b + 0) * 256 + tp (b + 1)) * 256 + tp (b + 2)) * 256 + tp (b + 3)
      omega
    · show (97 = tp (b + 0) ∧ 110 = tp (b + 1) ∧ 100 = tp (b + 2) ∧ 32 = tp (b + 3) ∧ 32 = 32) ↔ 6385252 = ((tp (b + 0) * 256 + tp (b + 1)) * 256 + tp (b + 2)) * 256 + tp (b + 3)
      omega
    · show (110 = tp (b + 0) ∧ 111 = tp (b + 1) ∧ 116 = tp (b + 2) ∧ 32 = tp (b + 3) ∧ 32 = 32) ↔ 7237492 = ((tp (b + 0) * 256 + tp (b + 1)) * 256 + tp (b + 2)) * 256 + tp (b + 3)
      omega
    · show (105 = tp (b + 0) ∧ 110 = tp (b + 1) ∧ 32 = tp (b + 2) ∧ 32 = tp (b + 3) ∧ 32 = 32) ↔ 26990 = ((tp (b + 0) * 256 + tp (b + 1)) * 256 + tp (b + 2)) * 256 + tp (b + 3)
      omega
    · show (108 = tp (b + 0) ∧ 97 = tp (b + 1) ∧ 116 = tp (b + 2) ∧ 101 = tp (b + 3) ∧ 32 = 32) ↔ 1818326117 = ((tp (b + 0) * 256 + tp (b + 1)) * 256 + tp (b + 2)) * 256 + tp (b + 3)
      omega
    · show (107 = tp (b + 0) ∧ 105 = tp (b + 1) ∧ 110 = tp (b + 2) ∧ 100 = tp (b + 3) ∧ 32 = 32) ↔ 1802071652 = ((tp (b + 0) * 256 + tp (b + 1)) * 256 + tp (b + 2)) * 256 + tp (b + 3)
      omega
    · show (119 = tp (b + 0) ∧ 97 = tp (b + 1) ∧ 105 = tp (b + 2) ∧ 116 = tp (b + 3) ∧ 32 = 32) ↔ 2002872692 = ((tp (b + 0) * 256 + tp (b + 1)) * 256 + tp (b + 2)) * 256 + tp (b + 3)
      omega
    · show (112 = tp (b + 0) ∧ 114 = tp (b + 1) ∧ 101 = tp (b + 2) ∧ 118 = tp (b + 3) ∧ 32 = 32) ↔ 1886545270 = ((tp (b + 0) * 256 + tp (b + 1)) * 256 + tp (b + 2)) * 256 + tp (b + 3)
      omega
    · show (102 = tp (b + 0) ∧ 111 = tp (b + 1) ∧ 103 = tp (b + 2) ∧ 32 = tp (b + 3) ∧ 32 = 32) ↔ 6713191 = ((tp (b + 0) * 256 + tp (b + 1)) * 256 + tp (b + 2)) * 256 + tp (b + 3)
      omega
    · show (98 = tp (b + 0) ∧ 97 = tp (b + 1) ∧ 103 = tp (b + 2) ∧ 115 = tp (b + 3) ∧ 32 = 32) ↔ 1650550643 = ((tp (b + 0) * 256 + tp (b + 1)) * 256 + tp (b + 2)) * 256 + tp (b + 3)
      omega
    · show (99 = tp (b + 0) ∧ 114 = tp (b + 1) ∧ 101 = tp (b + 2) ∧ 119 = tp (b + 3) ∧ 32 = 32) ↔ 1668441463 = ((tp (b + 0) * 256 + tp (b + 1)) * 256 + tp (b + 2)) * 256 + tp (b + 3)
      omega
