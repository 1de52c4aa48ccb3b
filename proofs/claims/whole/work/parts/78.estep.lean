-- ===== one token of an expression, in the reference =====
theorem tkR_e {k : Nat} (h : k ≠ 7) : tkR k = nI k := if_neg h
theorem tkR_ne {k n : Nat} (hk : k < 256) (hn : n < 256) (h : k ≠ n) (h7 : n ≠ 7) : ¬ tkR k = nI n := by
  unfold tkR
  by_cases c : k = 7
  · rw [if_pos c]
    intro q
    exact (nI_m1 (n := n) (by omega)).mp q.symm
  · rw [if_neg c]
    exact nI_ne (by omega) (by omega) h
theorem okk_lt {k v : Nat} (h : okk k v) : k < 256 := by
  obtain ⟨h1, -⟩ := h
  unfold sgn at h1
  omega
/-- the code of an operand -/
def cod (k v : Nat) : Nat := if k = 1 then 100000 + v else v
/-- the sign of an operator's token -/
def opc (k : Nat) : Nat := if k = 4 then 11 else if k = 5 then 12 else if k = 60 then 14 else if k = 61 then 15 else if k = 43 then 16 else if k = 45 then 17 else 18
def isop (k : Nat) : Prop := k = 4 ∨ k = 5 ∨ k = 60 ∨ k = 61 ∨ k = 43 ∨ k = 45 ∨ k = 42
section ES
variable {g0 g : Mm} {T K a k v b e p : Nat} {tp : Nat → Nat} {C O H P Q : List Nat} {x2 : Int32}
theorem signOf_ev (h : g 0 0 0 27 = tkR k) (ho : isop k) : fX11_signOf g = some (nI (opc k)) := by
  unfold fX11_signOf
  rw [h]
  rcases ho with rfl | rfl | rfl | rfl | rfl | rfl | rfl <;> rfl
theorem signOf_no (h : g 0 0 0 27 = tkR k) (hk : k < 256) (ho : ¬ isop k) : fX11_signOf g = some (-1) := by
  unfold isop at ho
  unfold fX11_signOf
  rw [h, if_neg (show ¬ tkR k = 4 from tkR_ne (n := 4) hk (by omega) (by omega) (by omega)), if_neg (show ¬ tkR k = 5 from tkR_ne (n := 5) hk (by omega) (by omega) (by omega)), if_neg (show ¬ tkR k = 60 from tkR_ne (n := 60) hk (by omega) (by omega) (by omega)), if_neg (show ¬ tkR k = 61 from tkR_ne (n := 61) hk (by omega) (by omega) (by omega)), if_neg (show ¬ tkR k = 43 from tkR_ne (n := 43) hk (by omega) (by omega) (by omega)), if_neg (show ¬ tkR k = 45 from tkR_ne (n := 45) hk (by omega) (by omega) (by omega)), if_neg (show ¬ tkR k = 42 from tkR_ne (n := 42) hk (by omega) (by omega) (by omega))]
theorem RSt.ft (h : RSt g0 T K tp a O H p g) : FT T g0 g := h.2.2.2.2.2.2.2.2.2
/-- an operand -/
theorem e_one (hT : T < 6) (h : RSt g0 T K tp a O (Q ++ H) (opn (Q ++ H)) g) (ht : Tok K tp a k v b e) (hk : k = 1 ∨ k = 2) (hQ : ∀ c, c ∈ Q → c = 19) (hh : ∀ c, c ∈ H → okh c) (hH : topR H < 7) (hs : O.length + (Q ++ H).length ≤ a) :
    ∃ g', fX11_eRead_B14 g 1 x2 = some (.inl (g', 0, x2)) ∧ RSt g0 T K tp e (Q.reverse ++ (cod k v :: O)) H (opn H) g' := by
  have hK := h.1.1
  have lt : b < e := ht.2.2.2.1 (by omega)
  have h1 := ht.1
  have h3 := ht.2.2.1
  obtain ⟨g1, p1, p2, p3, p4, p5⟩ := r_next h ht
  obtain ⟨g2, q1, q2, q3⟩ := r_puts (c := cod k v) hT p2 (by omega)
  have lQ : (Q ++ H).length = Q.length + H.length := List.length_append ..
  obtain ⟨g3, w1, w2, w3⟩ := r_unwinds (r := 7) hT (by omega) (by omega) (fun c hc => by rw [hQ c hc]; decide) hh hH q2 (by show O.length + 1 + (Q ++ H).length ≤ 160; omega) (by omega)
  have fin : ∀ z : Int32, z = nI (cod k v) → fX11_eRead_b61 g1 x2 z = some (.inl (g3, 0, x2)) := fun z hz => by
    unfold fX11_eRead_b61
    rw [hz, q1, wBd_e, show (7 : Int32) = nI 7 from rfl, w1, wBd_e, wLe_e]
  refine ⟨g3, ?_, w2⟩
  unfold fX11_eRead_B14
  rw [p1, wBd_e, if_neg c10, p4]
  rcases hk with rfl | rfl
  · rw [if_pos (show tkR 1 = 1 from rfl)]
    unfold fX11_eRead_b38
    rw [p4, if_pos (show tkR 1 = 1 from rfl)]
    refine fin _ ?_
    rw [p5 (by omega) (by omega), show (100000 : Int32) = nI 100000 from rfl, nI_add]
    rfl
  · rw [if_neg (show ¬ tkR 2 = 1 by decide), if_pos (show tkR 2 = 2 from rfl)]
    unfold fX11_eRead_b38
    rw [p4, if_neg (show ¬ tkR 2 = 1 by decide)]
    refine fin _ ?_
    rw [p5 (by omega) (by omega)]
    rfl
theorem opn_1 {c : Nat} (h : c = 0 ∨ c = 13 ∨ c = 19) : opn (c :: H) = opn H + 1 := by
  show opn H + (if c = 0 ∨ c = 13 ∨ c = 19 then 1 else 0) = _
  rw [if_pos h]
theorem opn_0 {c : Nat} (h : ¬ (c = 0 ∨ c = 13 ∨ c = 19)) : opn (c :: H) = opn H := by
  show opn H + (if c = 0 ∨ c = 13 ∨ c = 19 then 1 else 0) = _
  rw [if_neg h]
  rfl
/-- a paren, a minus, a not, where an operand may stand -/
theorem e_open (h : RSt g0 T K tp a O H (opn H) g) (ht : Tok K tp a k v b e) (hp : opn H < 5) (hk : k = 40 ∨ k = 45 ∨ (k = 6 ∧ x2 = 1)) (hs : O.length + H.length ≤ a) :
    ∃ g', fX11_eRead_B14 g 1 x2 = some (.inl (g', 1, if k = 45 then 0 else 1)) ∧ RSt g0 T K tp e O ((if k = 40 then 0 else if k = 45 then 19 else 13) :: H) (opn H + 1) g' := by
  have hK := h.1.1
  have lt : b < e := ht.2.2.2.1 (by omega)
  have h1 := ht.1
  have h3 := ht.2.2.1
  obtain ⟨g1, p1, p2, p3, p4, p5⟩ := r_next h ht
  unfold fX11_eRead_B14
  rw [p1, wBd_e, if_neg c10, p4]
  rcases hk with rfl | rfl | ⟨rfl, rfl⟩
  · obtain ⟨g2, q1, q2, q3⟩ := r_open (c := 0) p2 (by omega) hp
    rw [if_neg (show ¬ tkR 40 = 1 by decide), if_neg (show ¬ tkR 40 = 2 by decide), if_neg (show ¬ tkR 40 = 6 by decide)]
    unfold fX11_eRead_b99
    rw [p4, if_neg (show ¬ tkR 40 = 45 by decide), if_pos (show tkR 40 = 40 from rfl), show (0 : Int32) = nI 0 from rfl, q1, wB2_e, if_neg (show ¬ (1 : Int32) = nI 0 by decide), wLe_e]
    exact ⟨g2, rfl, q2⟩
  · obtain ⟨g2, q1, q2, q3⟩ := r_open (c := 19) p2 (by omega) hp
    rw [if_neg (show ¬ tkR 45 = 1 by decide), if_neg (show ¬ tkR 45 = 2 by decide), if_neg (show ¬ tkR 45 = 6 by decide)]
    unfold fX11_eRead_b99
    rw [p4, if_pos (show tkR 45 = 45 from rfl), show (19 : Int32) = nI 19 from rfl, q1, wB2_e, if_neg (show ¬ (1 : Int32) = 0 by decide), wLe_e]
    exact ⟨g2, rfl, q2⟩
  · obtain ⟨g2, q1, q2, q3⟩ := r_open (c := 13) p2 (by omega) hp
    rw [if_neg (show ¬ tkR 6 = 1 by decide), if_neg (show ¬ tkR 6 = 2 by decide), if_pos (show tkR 6 = 6 from rfl), if_neg c10, show (13 : Int32) = nI 13 from rfl, q1, wB2_e, if_neg (show ¬ (1 : Int32) = 0 by decide)]
    exact ⟨g2, rfl, q2⟩
/-- no operand -/
theorem e_none (h : RSt g0 T K tp a O H (opn H) g) (ht : Tok K tp a k v b e) (h1 : k ≠ 1) (h2 : k ≠ 2) (h6 : k = 6 → x2 = 0 ∨ opn H = 5) (h4 : k = 40 ∨ k = 45 → opn H = 5) :
    ∃ g', fX11_eRead_B14 g 1 x2 = some (.inr (g', 0)) ∧ FT T g0 g' ∧ g' 0 0 0 26 = nI b := by
  have hk := okk_lt ht.2.2.2.2.1
  obtain ⟨g1, p1, p2, p3, p4, p5⟩ := r_next h ht
  have fin : fX11_eRead_b99 g1 1 = some (.inr (g1, 0)) := by
    unfold fX11_eRead_b99
    rw [p4]
    by_cases c : k = 45
    · rw [if_pos (show tkR k = 45 by rw [c]; rfl), show (19 : Int32) = nI 19 from rfl, r_open5 (by rw [← h4 (Or.inr c)]; exact p2), wB2_e, if_pos rfl, wEx_e]
    · rw [if_neg (show ¬ tkR k = 45 from tkR_ne (n := 45) hk (by omega) c (by omega))]
      by_cases c : k = 40
      · have := r_open5 (c := 0) (show RSt g0 T K tp e O H 5 g1 by rw [← h4 (Or.inl c)]; exact p2)
        rw [if_pos (show tkR k = 40 by rw [c]; rfl), show fX11_opensOne g1 0 = some (g1, 0) from this, wB2_e, if_pos rfl, wEx_e]
      · rw [if_neg (show ¬ tkR k = 40 from tkR_ne (n := 40) hk (by omega) c (by omega)), wEx_e]
  refine ⟨g1, ?_, p2.ft, p3⟩
  unfold fX11_eRead_B14
  rw [p1, wBd_e, if_neg c10, p4, if_neg (show ¬ tkR k = 1 from tkR_ne (n := 1) hk (by omega) h1 (by omega)), if_neg (show ¬ tkR k = 2 from tkR_ne (n := 2) hk (by omega) h2 (by omega))]
  by_cases c : k = 6
  · rw [if_pos (show tkR k = 6 by rw [c]; rfl)]
    by_cases d : x2 = 0
    · rw [if_pos d]; exact fin
    · have := r_open5 (c := 13) (show RSt g0 T K tp e O H 5 g1 by rw [← (h6 c).resolve_left d]; exact p2)
      rw [if_neg d, show fX11_opensOne g1 13 = some (g1, 0) from this, wB2_e, if_pos rfl, wEx_e]
  · rw [if_neg (show ¬ tkR k = 6 from tkR_ne (n := 6) hk (by omega) c (by omega))]
    exact fin
-- ----- signs between
theorem betw (hT : T < 6) {c r : Nat} (hc : (c = 11 ∧ r = 1) ∨ (c = 12 ∧ r = 2) ∨ (c = 16 ∧ r = 5) ∨ (c = 17 ∧ r = 5) ∨ (c = 18 ∧ r = 6) ∨ (c = 14 ∧ r = 5) ∨ (c = 15 ∧ r = 5))
    (h : RSt g0 T K tp a O (P ++ H) (opn (P ++ H)) g) (hP : ∀ c, c ∈ P → 11 ≤ c ∧ c ≤ 19 ∧ r ≤ rk c) (hh : ∀ c, c ∈ H → okh c) (ht : topR H < r) (h4 : c = 14 ∨ c = 15 → topR H < 4) (hs : O.length + (P ++ H).length < 160) :
    ∃ g', fX11_between g (nI c) = some (g', 1) ∧ RSt g0 T K tp a (P.reverse ++ O) (c :: H) (opn (c :: H)) g' := by
  have lP : (P ++ H).length = P.length + H.length := List.length_append ..
  obtain ⟨g1, w1, w2, w3⟩ := r_unwinds (r := r) hT (by omega) (by omega) hP hh ht h (by omega) (by omega)
  have e0 : opn (c :: H) = opn H := opn_0 (by omega)
  obtain ⟨g2, q1, q2, q3⟩ := r_holds (c := c) w2 (by omega)
  have ok : okh c := by unfold okh; omega
  obtain ⟨k1, k2⟩ := rank_ev (g := g1) ok
  obtain ⟨k3, -⟩ := rank_ev (g := g) ok
  have fin : fX11_between_b17 g (nI c) (nI r) = some (g2, 1) := by
    unfold fX11_between_b17
    rw [w1, wBd_e, k1, wBd_e]
    by_cases d : c = 14 ∨ c = 15
    · have h4 := h4 d
      rw [if_pos (show nI (rk c) = 4 by rcases d with rfl | rfl <;> rfl), w2.2.2.2.2.1]
      cases H with
      | nil => rw [if_pos (show nI ([] : List Nat).length ≤ 0 by decide), q1, wBd_e]
      | cons d0 H =>
        obtain ⟨k4, k5⟩ := rank_ev (g := g1) (hh d0 (List.mem_cons_self ..))
        have hl : (d0 :: H).length = H.length + 1 := rfl
        rw [hl] at lP ⊢
        rw [if_neg (show ¬ nI (H.length + 1) ≤ 0 from nI_ge (a := 0) (by omega) (by omega)), show nI (H.length + 1) - 1 = nI H.length from nI_s1 _, wGi_ok (show H.length < 200 by omega) (by omega), nI_clamp (by omega), w2.2.2.2.2.2.2.2.1.1, k4, wBd_e, if_neg (show ¬ nI (rk d0) = 4 from nI_ne (b := 4) (by omega) (by omega) (by have : rk d0 < 4 := h4; omega)), q1, wBd_e]
    · rw [if_neg (show ¬ nI (rk c) = 4 by rcases hc with ⟨rfl, _⟩ | ⟨rfl, _⟩ | ⟨rfl, _⟩ | ⟨rfl, _⟩ | ⟨rfl, _⟩ | ⟨rfl, _⟩ | ⟨rfl, _⟩ <;> first | decide | omega), q1, wBd_e]
  refine ⟨g2, ?_, by rw [e0]; exact q2⟩
  unfold fX11_between
  rw [k3, wBd_e]
  rcases hc with ⟨rfl, rfl⟩ | ⟨rfl, rfl⟩ | ⟨rfl, rfl⟩ | ⟨rfl, rfl⟩ | ⟨rfl, rfl⟩ | ⟨rfl, rfl⟩ | ⟨rfl, rfl⟩
  · rw [if_neg (by decide), wBd_e]; exact fin
  · rw [if_neg (by decide), wBd_e]; exact fin
  · rw [if_neg (by decide), wBd_e]; exact fin
  · rw [if_neg (by decide), wBd_e]; exact fin
  · rw [if_neg (by decide), wBd_e]; exact fin
  · rw [if_pos (by decide)]; exact fin
  · rw [if_pos (by decide)]; exact fin
theorem betw_no (hT : T < 6) {c d : Nat} (hc : c = 14 ∨ c = 15)
    (h : RSt g0 T K tp a O (P ++ d :: H) (opn (P ++ d :: H)) g) (hP : ∀ c, c ∈ P → 11 ≤ c ∧ c ≤ 19 ∧ 5 ≤ rk c) (hh : ∀ c, c ∈ d :: H → okh c) (hd : rk d = 4) (hs : O.length + (P ++ d :: H).length < 160) :
    ∃ g', fX11_between g (nI c) = some (g', 0) ∧ FT T g0 g' ∧ FK0 g g' := by
  have lP : (P ++ d :: H).length = P.length + (H.length + 1) := List.length_append ..
  obtain ⟨g1, w1, w2, w3⟩ := r_unwinds (r := 5) hT (by omega) (by omega) hP hh (show rk d < 5 by omega) h (by omega) (show H.length + 1 < 160 by omega)
  have ok : okh c := by unfold okh; omega
  obtain ⟨k1, k2⟩ := rank_ev (g := g1) ok
  obtain ⟨k3, -⟩ := rank_ev (g := g) ok
  obtain ⟨k4, k5⟩ := rank_ev (g := g1) (hh d (List.mem_cons_self ..))
  refine ⟨g1, ?_, w2.ft, w3⟩
  unfold fX11_between
  rw [k3, wBd_e, if_pos (show nI (rk c) = 4 by rcases hc with rfl | rfl <;> rfl)]
  unfold fX11_between_b17
  have hl : (d :: H).length = H.length + 1 := rfl
  rw [show (5 : Int32) = nI 5 from rfl, w1, wBd_e, k1, wBd_e, if_pos (show nI (rk c) = 4 by rcases hc with rfl | rfl <;> rfl), w2.2.2.2.2.1, hl, if_neg (show ¬ nI (H.length + 1) ≤ 0 from nI_ge (a := 0) (by omega) (by omega)), show nI (H.length + 1) - 1 = nI H.length from nI_s1 _, wGi_ok (show H.length < 200 by omega) (by omega), nI_clamp (by omega), w2.2.2.2.2.2.2.2.1.1, k4, wBd_e, if_pos (show nI (rk d) = 4 by rw [hd]; rfl)]
/-- a sign behind an operand -/
theorem e_sign (hT : T < 6) {r : Nat} (h : RSt g0 T K tp a O (P ++ H) (opn (P ++ H)) g) (ht : Tok K tp a k v b e) (hk : (k = 4 ∧ r = 1) ∨ (k = 5 ∧ r = 2) ∨ (k = 43 ∧ r = 5) ∨ (k = 45 ∧ r = 5) ∨ (k = 42 ∧ r = 6) ∨ (k = 60 ∧ r = 5) ∨ (k = 61 ∧ r = 5))
    (hP : ∀ c, c ∈ P → 11 ≤ c ∧ c ≤ 19 ∧ r ≤ rk c) (hh : ∀ c, c ∈ H → okh c) (hr : topR H < r) (h4 : k = 60 ∨ k = 61 → topR H < 4) (hs : O.length + (P ++ H).length ≤ a) :
    ∃ g', fX11_eRead_B14 g 0 x2 = some (.inl (g', 1, if k ≤ 5 then 1 else 0)) ∧ RSt g0 T K tp e (P.reverse ++ O) (opc k :: H) (opn (opc k :: H)) g' := by
  have hK := h.1.1
  have lt : b < e := ht.2.2.2.1 (by omega)
  have h1 := ht.1
  have h3 := ht.2.2.1
  obtain ⟨g1, p1, p2, p3, p4, p5⟩ := r_next h ht
  have io : isop k := by unfold isop; omega
  obtain ⟨g2, q1, q2⟩ := betw hT (c := opc k) (r := r) (by rcases hk with ⟨rfl, rfl⟩ | ⟨rfl, rfl⟩ | ⟨rfl, rfl⟩ | ⟨rfl, rfl⟩ | ⟨rfl, rfl⟩ | ⟨rfl, rfl⟩ | ⟨rfl, rfl⟩ <;> decide) p2 hP hh hr (by
    rcases hk with ⟨rfl, rfl⟩ | ⟨rfl, rfl⟩ | ⟨rfl, rfl⟩ | ⟨rfl, rfl⟩ | ⟨rfl, rfl⟩ | ⟨rfl, rfl⟩ | ⟨rfl, rfl⟩
    · intro q; exact absurd q (by decide)
    · intro q; exact absurd q (by decide)
    · intro q; exact absurd q (by decide)
    · intro q; exact absurd q (by decide)
    · intro q; exact absurd q (by decide)
    · intro _; exact h4 (by decide)
    · intro _; exact h4 (by decide)) (by omega)
  refine ⟨g2, ?_, q2⟩
  unfold fX11_eRead_B14
  rw [p1, wBd_e, if_pos rfl, p4, if_neg (show ¬ tkR k = 59 from tkR_ne (n := 59) (by omega) (by omega) (by omega) (by omega)), if_neg (show ¬ tkR k = 41 from tkR_ne (n := 41) (by omega) (by omega) (by omega) (by omega)), signOf_ev p4 io, wBd_e, if_neg (show ¬ nI (opc k) = -1 by rcases io with rfl | rfl | rfl | rfl | rfl | rfl | rfl <;> decide), q1, wB2_e, if_neg c10, wLe_e]
  unfold fX11_eRead_b262
  rcases hk with ⟨rfl, rfl⟩ | ⟨rfl, rfl⟩ | ⟨rfl, rfl⟩ | ⟨rfl, rfl⟩ | ⟨rfl, rfl⟩ | ⟨rfl, rfl⟩ | ⟨rfl, rfl⟩ <;> rfl
/-- a closing paren -/
theorem e_close (hT : T < 6) (h : RSt g0 T K tp a O (P ++ 0 :: (Q ++ H)) (opn (P ++ 0 :: (Q ++ H))) g) (ht : Tok K tp a 41 v b e) (hP : ∀ c, c ∈ P → 11 ≤ c ∧ c ≤ 19 ∧ 1 ≤ rk c) (hQ : ∀ c, c ∈ Q → c = 19) (hh : ∀ c, c ∈ H → okh c) (hH : topR H < 7) (hs : O.length + (P ++ 0 :: (Q ++ H)).length ≤ a) :
    ∃ g', fX11_eRead_B14 g 0 x2 = some (.inl (g', 0, x2)) ∧ RSt g0 T K tp e (Q.reverse ++ (P.reverse ++ O)) H (opn H) g' := by
  have hK := h.1.1
  have lt : b < e := ht.2.2.2.1 (by omega)
  have h1 := ht.1
  have h3 := ht.2.2.1
  have lQ : (Q ++ H).length = Q.length + H.length := List.length_append ..
  have lP : (P ++ 0 :: (Q ++ H)).length = P.length + ((Q ++ H).length + 1) := List.length_append ..
  obtain ⟨g1, p1, p2, p3, p4, p5⟩ := r_next h ht
  obtain ⟨g2, q1, q2, q3⟩ := r_unwinds (r := 1) hT (by omega) (by omega) hP (fun c hc => by
    rcases List.mem_cons.mp hc with rfl | hc
    · exact Or.inl rfl
    · rcases List.mem_append.mp hc with hc | hc
      · rw [hQ c hc]; exact Or.inr (by omega)
      · exact hh c hc) (H := 0 :: (Q ++ H)) (show rk 0 < 1 by decide) p2 (by omega) (show (Q ++ H).length + 1 < 160 by omega)
  have o1 : opn (0 :: (Q ++ H)) = opn (Q ++ H) + 1 := opn_1 (Or.inl rfl)
  rw [o1] at q2
  obtain ⟨r1, r2, r3, r4, r5, r6, r7, r8, r9, r10⟩ := q2
  have r5 : g2 0 0 0 31 = nI ((Q ++ H).length + 1) := r5
  have s : RSt g0 T K tp e (P.reverse ++ O) (Q ++ H) (opn (Q ++ H)) (st (st g2 0 0 0 31 (nI (Q ++ H).length)) 0 0 0 32 (nI (opn (Q ++ H)))) := ⟨(r1.st (by decide)).st (by decide), (r2.st (by decide)).st (by decide), ((st_ne (by omega)).trans (st_ne (by omega))).trans r3, ((st_ne (by omega)).trans (st_ne (by omega))).trans r4, (st_ne (by omega)).trans st_eq, st_eq, ((st_ne (by omega)).trans (st_ne (by omega))).trans r7, r8.2.cg fun q hq => (st_ne (by omega)).trans (st_ne (by omega)), r9.cg fun q hq => (st_ne (by omega)).trans (st_ne (by omega)), (r10.st (by omega)).st (by omega)⟩
  have lO : (P.reverse ++ O).length = P.length + O.length := by rw [List.length_append, List.length_reverse]
  obtain ⟨g3, w1, w2, w3⟩ := r_unwinds (r := 7) hT (by omega) (by omega) (fun c hc => by rw [hQ c hc]; decide) hh hH s (by omega) (by omega)
  refine ⟨g3, ?_, w2⟩
  unfold fX11_eRead_B14
  rw [p1, wBd_e, if_pos rfl, p4, if_neg (show ¬ tkR 41 = 59 by decide), if_pos (show tkR 41 = 41 from rfl), show (1 : Int32) = nI 1 from rfl, q1, wBd_e, r5, if_neg (show ¬ nI ((Q ++ H).length + 1) = 0 from nI_ne (b := 0) (by omega) (by omega) (by omega)), wLe_e, show nI ((Q ++ H).length + 1) - nI 1 = nI (Q ++ H).length from nI_s1 _, st_ne (by omega), r6, show nI (opn (Q ++ H) + 1) - nI 1 = nI (opn (Q ++ H)) from nI_s1 _, wLe_e, show (7 : Int32) = nI 7 from rfl, w1, wBd_e]
/-- what stands behind an expression is refused, inside parens (n = true) and outside -/
theorem e_bad (hT : T < 6) (h : RSt g0 T K tp a O (P ++ H) (opn (P ++ H)) g) (ht : Tok K tp a k v b e) (hP : ∀ c, c ∈ P → 11 ≤ c ∧ c ≤ 19 ∧ 1 ≤ rk c) (hh : ∀ c, c ∈ H → okh c)
    (h0 : H = [] ∨ ∃ H', H = 0 :: H') (hk : k ≠ 4 ∧ k ≠ 5 ∧ k ≠ 43 ∧ k ≠ 45 ∧ k ≠ 42) (h59 : k = 59 → H ≠ []) (h41 : k = 41 → H = [])
    (h60 : k = 60 ∨ k = 61 → ∃ P1 d P2, P = P1 ++ d :: P2 ∧ rk d = 4 ∧ ∀ c, c ∈ P1 → 5 ≤ rk c) (hs : O.length + (P ++ H).length ≤ a) :
    ∃ g', fX11_eRead_B14 g 0 x2 = some (.inr (g', 0)) ∧ FT T g0 g' ∧ g' 0 0 0 26 = nI b := by
  have hK := h.1.1
  have hk' := okk_lt ht.2.2.2.2.1
  have h1 := ht.1
  have h2 := ht.2.1
  have h3 := ht.2.2.1
  have lP : (P ++ H).length = P.length + H.length := List.length_append ..
  obtain ⟨g1, p1, p2, p3, p4, p5⟩ := r_next h ht
  unfold fX11_eRead_B14
  rw [p1, wBd_e, if_pos rfl, p4]
  have tp0 : topR H < 1 := by
    rcases h0 with rfl | ⟨H', rfl⟩
    · exact Nat.one_pos
    · exact (by decide : rk 0 < 1)
  by_cases c59 : k = 59
  · obtain ⟨H', rfl⟩ := h0.resolve_left (h59 c59)
    have lt : b < e := ht.2.2.2.1 (by omega)
    obtain ⟨g2, q1, q2, q3⟩ := r_unwinds (r := 1) hT (by omega) (by omega) hP hh tp0 p2 (by omega) (show H'.length + 1 < 160 by have : (0 :: H').length = H'.length + 1 := rfl; omega)
    rw [if_pos (show tkR k = 59 by rw [c59]; rfl), show fX11_unwinds g1 1 = some g2 from q1, wBd_e, q2.2.2.2.2.1, if_neg (show ¬ nI (0 :: H').length = 0 from nI_ne (b := 0) (show H'.length + 1 < 2 ^ 31 by have : (0 :: H').length = H'.length + 1 := rfl; omega) (by omega) (Nat.succ_ne_zero _)), wEx_e]
    exact ⟨g2, rfl, q2.ft, (q3 26 (by decide) (by decide) (by decide)).trans p3⟩
  rw [if_neg (show ¬ tkR k = 59 from tkR_ne (n := 59) hk' (by omega) c59 (by omega))]
  by_cases c41 : k = 41
  · have hn := h41 c41
    subst hn
    have lt : b < e := ht.2.2.2.1 (by omega)
    obtain ⟨g2, q1, q2, q3⟩ := r_unwinds (r := 1) hT (by omega) (by omega) hP hh tp0 p2 (by omega) (by decide)
    rw [if_pos (show tkR k = 41 by rw [c41]; rfl), show fX11_unwinds g1 1 = some g2 from q1, wBd_e, q2.2.2.2.2.1, if_pos (show nI ([] : List Nat).length = 0 from rfl), wEx_e]
    exact ⟨g2, rfl, q2.ft, (q3 26 (by decide) (by decide) (by decide)).trans p3⟩
  rw [if_neg (show ¬ tkR k = 41 from tkR_ne (n := 41) hk' (by omega) c41 (by omega))]
  by_cases c60 : k = 60 ∨ k = 61
  · have io : isop k := by unfold isop; omega
    obtain ⟨P1, d, P2, rfl, hd, hP1⟩ := h60 c60
    have eq : P1 ++ d :: P2 ++ H = P1 ++ d :: (P2 ++ H) := by rw [List.append_assoc]; rfl
    rw [eq] at p2 lP
    have lt : b < e := ht.2.2.2.1 (by omega)
    obtain ⟨g2, q1, q2, q3⟩ := betw_no hT (c := opc k) (by rcases c60 with rfl | rfl <;> decide) p2 (fun c hc => ⟨(hP c (List.mem_append_left _ hc)).1, (hP c (List.mem_append_left _ hc)).2.1, hP1 c hc⟩) (fun c hc => by
      rcases List.mem_cons.mp hc with rfl | hc
      · exact Or.inr ⟨(hP c (List.mem_append_right _ (List.mem_cons_self ..))).1, (hP c (List.mem_append_right _ (List.mem_cons_self ..))).2.1⟩
      · rcases List.mem_append.mp hc with hc | hc
        · have := hP c (List.mem_append_right _ (List.mem_cons_of_mem _ hc))
          exact Or.inr ⟨this.1, this.2.1⟩
        · exact hh c hc) hd (by rw [eq] at hs; omega)
    rw [signOf_ev p4 io, wBd_e, if_neg (show ¬ nI (opc k) = -1 by rcases c60 with rfl | rfl <;> decide), q1, wB2_e, if_pos rfl, wEx_e]
    exact ⟨g2, rfl, q2, (q3 26 (by decide) (by decide) (by decide)).trans p3⟩
  · have no : ¬ isop k := by
      clear h60
      unfold isop
      omega
    rw [signOf_no p4 hk' no, wBd_e, if_pos rfl, wEx_e]
    exact ⟨g1, rfl, p2.ft, p3⟩
/-- the end of a part -/
theorem e_end (hT : T < 6) (h : RSt g0 T K tp a O (P ++ []) (opn (P ++ [])) g) (ht : Tok K tp a 59 v b e) (hP : ∀ c, c ∈ P → 11 ≤ c ∧ c ≤ 19 ∧ 1 ≤ rk c) (hs : O.length + (P ++ []).length ≤ a) :
    ∃ g', fX11_eRead_B14 g 0 x2 = some (.inr (g', 1)) ∧ RSt g0 T K tp e (P.reverse ++ O) [] 0 g' ∧ g' 0 0 0 26 = nI b := by
  have hK := h.1.1
  have lt : b < e := ht.2.2.2.1 (by omega)
  have h1 := ht.1
  have h3 := ht.2.2.1
  obtain ⟨g1, p1, p2, p3, p4, p5⟩ := r_next h ht
  obtain ⟨g2, q1, q2, q3⟩ := r_unwinds (r := 1) hT (by omega) (by omega) hP (fun c hc => absurd hc List.not_mem_nil) Nat.one_pos p2 (by omega) (by decide)
  unfold fX11_eRead_B14
  rw [p1, wBd_e, if_pos rfl, p4, if_pos (show tkR 59 = 59 from rfl), show fX11_unwinds g1 1 = some g2 from q1, wBd_e, q2.2.2.2.2.1, if_pos (show nI ([] : List Nat).length = 0 from rfl), wEx_e]
  exact ⟨g2, rfl, q2, (q3 26 (by decide) (by decide) (by decide)).trans p3⟩
end ES
