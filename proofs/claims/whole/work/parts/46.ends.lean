-- ===== an act ends: what is alike between two writes =====
/-- all but what is kept of the array itself -/
def PS0 (i : Nat) (gC gR : Mm) (nv nf ns : Nat) : Prop :=
  (gC 9 i 0 1 = nI ns ∧ gC 9 i 0 2 = nI nv ∧ gC 9 i 0 3 = nI nf) ∧ (gR 0 0 0 1 = nI nv ∧ gR 0 0 0 2 = nI nf ∧ gR 0 0 0 3 = nI ns) ∧ EQ i gC (gR 1 0 0) nv nf ns ∧ UI i gC (gR 1 0 0) nv ∧ (nv ≤ 12 ∧ nf ≤ 16 ∧ ns ≤ 6) ∧ KR gR
theorem PS.s0 {i : Nat} {gC gR : Mm} {nv nf ns : Nat} (h : PS i gC gR nv nf ns) : PS0 i gC gR nv nf ns := ⟨h.1, h.2.1, h.2.2.1, h.2.2.2.1, h.2.2.2.2.1.1, h.2.2.2.2.2⟩
theorem PS0.full {i : Nat} {gC gR : Mm} {nv nf ns : Nat} (h : PS0 i gC gR nv nf ns) (hp : PI (gR 1 0 0) nv nf ns) : PS i gC gR nv nf ns := ⟨h.1, h.2.1, h.2.2.1, h.2.2.2.1, hp, h.2.2.2.2.2⟩
theorem PS0.set {i : Nat} {gC gR : Mm} {nv nf ns t v j n : Nat} {x : Int32} (h : PS0 i gC gR nv nf ns) (hx : ixR nv nf ns t v j n) : PS0 i (st gC t i v j x) (st gR 1 0 0 n x) nv nf ns := by
  obtain ⟨⟨a1, a2, a3⟩, ⟨b1, b2, b3⟩, hE, hU, ⟨hv, hf, hs⟩, hK⟩ := h
  have off : ∀ j', j' ≠ 0 → st gC t i v j x 9 i 0 j' = gC 9 i 0 j' := fun j' hj' => st_ne fun q => by
    obtain ⟨q1, -, q3, q4⟩ := q
    unfold ixR at hx
    omega
  refine ⟨⟨(off 1 (by decide)).trans a1, (off 2 (by decide)).trans a2, (off 3 (by decide)).trans a3⟩, ⟨b1, b2, b3⟩, ?_, ?_, ⟨hv, hf, hs⟩, hK⟩
  · rw [st_p]
    exact hE.set hv hf hs hx
  · rw [st_p]
    have hu : ∀ v0, v0 < nv → ¬ (30 * v0 + 10 ≤ n ∧ n ≤ 30 * v0 + 18) := fun v0 hv0 q => by
      unfold ixR at hx
      omega
    refine hU.congr (fun v0 j0 hv0 hj => st_ne fun q => ?_) (fun v0 a hv0 ha => ?_) (fun v0 m hv0 h1 h2 => upd_n fun q => hu v0 hv0 (by omega))
    · obtain ⟨q1, -, q3, q4⟩ := q
      unfold ixR at hx
      omega
    · exact st_ne fun q => by
        obtain ⟨q1, -, q3, q4⟩ := q
        unfold ixR at hx
        omega
/-- neither EQ nor the counts know of these -/
theorem PS0.offs {i : Nat} {gC gC' gR : Mm} {nv nf ns n : Nat} {x : Int32} (h : PS0 i gC gR nv nf ns) (ho : ∀ t v j, t ≠ 20 → (t ≠ 19 ∨ (j ≠ 10 ∧ j ≠ 12)) → gC' t i v j = gC t i v j) (hn : ∃ v, v < nv ∧ 30 * v + 10 ≤ n ∧ n ≤ 30 * v + 18) (hU : UI i gC' (upd (gR 1 0 0) n x) nv) : PS0 i gC' (st gR 1 0 0 n x) nv nf ns := by
  obtain ⟨⟨a1, a2, a3⟩, ⟨b1, b2, b3⟩, hE, -, ⟨hv, hf, hs⟩, hK⟩ := h
  obtain ⟨v0, hv0, hn1, hn2⟩ := hn
  refine ⟨⟨(ho 9 0 1 (by decide) (Or.inl (by decide))).trans a1, (ho 9 0 2 (by decide) (Or.inl (by decide))).trans a2, (ho 9 0 3 (by decide) (Or.inl (by decide))).trans a3⟩, ⟨b1, b2, b3⟩, ?_, ?_, ⟨hv, hf, hs⟩, hK⟩
  · rw [st_p]
    intro t v j m q
    rw [ho t v j (by unfold ixR at q; omega) (by unfold ixR at q; omega), upd_n (by unfold ixR at q; omega)]
    exact hE t v j m q
  · rw [st_p]
    exact hU
/-- an act under way goes on -/
theorem PS0.goes {i : Nat} {gC gR : Mm} {nv nf ns v a m n : Nat} (h : PS0 i gC gR nv nf ns) (hv : v < nv) (ha : a < 8) (hm : m < 256) (em : gC 19 i v 10 = nI m) (hb : m.testBit a = true) (hn : nI n ≠ 0) : PS0 i (st gC 20 i v a (nI n)) (st gR 1 0 0 (30 * v + 11 + a) (nI n)) nv nf ns := by
  refine h.offs (fun t v' j h1 h2 => st_ne (by omega)) ⟨v, hv, by omega, by omega⟩ ?_
  intro v' hv'
  obtain ⟨⟨m', h1, h2, h3⟩, h4⟩ := h.2.2.2.1 v' hv'
  have q12 : st gC 20 i v a (nI n) 19 i v' 12 = gC 19 i v' 12 := st_ne (by omega)
  have q10 : st gC 20 i v a (nI n) 19 i v' 10 = gC 19 i v' 10 := st_ne (by omega)
  rw [upd_n (by omega), q12, q10]
  refine ⟨⟨m', h1, h2, fun b hb' => ?_⟩, h4⟩
  by_cases e : v' = v ∧ b = a
  · obtain ⟨rfl, rfl⟩ := e
    rw [upd_e, st_eq]
    rw [em, nI_eq (by omega) (by omega)] at h2
    subst h2
    exact ⟨⟨fun _ => hn, fun _ => hb⟩, fun _ => rfl⟩
  · rw [upd_n (by omega), st_ne (by omega)]
    exact h3 b hb'
set_option maxRecDepth 100000 in
theorem bit_off : ∀ m, m < 256 → ∀ a, a < 8 → (nI m &&& ((nI 1 <<< (nI a &&& nI 31)) ^^^ (-1 : Int32)) = nI (m &&& (255 - 2 ^ a)) ∧ (m &&& (255 - 2 ^ a)) < 256 ∧ ∀ b, b < 8 → (m &&& (255 - 2 ^ a)).testBit b = (m.testBit b && !(b == a))) := by decide +kernel
/-- an act under way has ended -/
theorem PS0.ends {i : Nat} {gC gR : Mm} {nv nf ns v a m : Nat} (h : PS0 i gC gR nv nf ns) (hv : v < nv) (ha : a < 8) (hm : m < 256) (em : gC 19 i v 10 = nI m) : PS0 i (st (st gC 20 i v a (nI 0)) 19 i v 10 (nI (m &&& (255 - 2 ^ a)))) (st gR 1 0 0 (30 * v + 11 + a) (nI 0)) nv nf ns := by
  refine h.offs (fun t v' j h1 h2 => by rw [st_ne (by omega), st_ne (by omega)]) ⟨v, hv, by omega, by omega⟩ ?_
  intro v' hv'
  obtain ⟨⟨m', h1, h2, h3⟩, h4⟩ := h.2.2.2.1 v' hv'
  have q12 : st (st gC 20 i v a (nI 0)) 19 i v 10 (nI (m &&& (255 - 2 ^ a))) 19 i v' 12 = gC 19 i v' 12 := (st_ne (by omega)).trans (st_ne (by omega))
  rw [upd_n (by omega), q12]
  by_cases e : v' = v
  · subst e
    rw [em, nI_eq (by omega) (by omega)] at h2
    subst h2
    obtain ⟨-, g2, g3⟩ := bit_off m hm a ha
    refine ⟨⟨_, g2, st_eq, fun b hb => ?_⟩, h4⟩
    rw [g3 b hb]
    by_cases e : b = a
    · subst e
      rw [upd_e]
      simp [nI]
    · rw [upd_n (by omega), st_ne (by omega), st_ne (by omega)]
      have q : (m.testBit b && !(b == a)) = m.testBit b := by simp [e]
      rw [q]
      exact h3 b hb
  · have q10 : st (st gC 20 i v a (nI 0)) 19 i v 10 (nI (m &&& (255 - 2 ^ a))) 19 i v' 10 = gC 19 i v' 10 := (st_ne (by omega)).trans (st_ne (by omega))
    rw [q10]
    refine ⟨⟨m', h1, h2, fun b hb => ?_⟩, h4⟩
    rw [upd_n (by omega), st_ne (by omega), st_ne (by omega)]
    exact h3 b hb
theorem or_128 {x : Int32} {a : Nat} (ha : a < 7) (h : x &&& 128 = 0) : (x ||| (nI 1 <<< (nI a &&& nI 31))) &&& 128 = 0 := by
  have h1 : (nI 1 <<< (nI a &&& nI 31)) &&& (128 : Int32) = 0 := by
    rcases (show a = 0 ∨ a = 1 ∨ a = 2 ∨ a = 3 ∨ a = 4 ∨ a = 5 ∨ a = 6 by omega) with rfl | rfl | rfl | rfl | rfl | rfl | rfl <;> rfl
  have e : (x ||| (nI 1 <<< (nI a &&& nI 31))) &&& 128 = (x &&& 128) ||| ((nI 1 <<< (nI a &&& nI 31)) &&& 128) := by
    rw [Int32.and_comm _ (128 : Int32), Int32.and_comm x, Int32.and_comm _ (128 : Int32)]
    apply Int32.toBitVec_inj.mp
    rw [Int32.toBitVec_and, Int32.toBitVec_or, Int32.toBitVec_or, Int32.toBitVec_and, Int32.toBitVec_and]
    exact BitVec.and_or_distrib_left
  rw [e, h, h1]
  rfl
/-- an act has ended and is done: all but the push -/
theorem PI.done {p : Nat → Int32} {nv nf ns v a : Nat} (h : PI p nv nf ns) (hv : v < nv) (ha : a < 7) : PI (upd (upd p (30 * v + 11 + a) (nI 0)) (30 * v + 9) (p (30 * v + 9) ||| (nI 1 <<< (nI a &&& nI 31)))) nv nf ns := by
  obtain ⟨h1, h2, h3, h4, h5, h6, h7, h8, h9⟩ := h
  have hv12 := h1.1
  have hf16 := h1.2.1
  have off : ∀ m, m ≠ 30 * v + 11 + a → m ≠ 30 * v + 9 → upd (upd p (30 * v + 11 + a) (nI 0)) (30 * v + 9) (p (30 * v + 9) ||| (nI 1 <<< (nI a &&& nI 31))) m = p m := fun m h1 h2 => by rw [upd_n h2, upd_n h1]
  refine ⟨h1, ?_, ?_, ?_, ?_, ?_, ?_, ?_, ?_⟩
  · rw [off _ (by omega) (by omega)]; exact h2
  · rw [off _ (by omega) (by omega)]; exact h3
  · intro r hr; rw [off _ (by omega) (by omega)]; exact h4 r hr
  · intro v' hv'
    rw [off _ (by omega) (by omega), off _ (by omega) (by omega), off _ (by omega) (by omega), off _ (by omega) (by omega)]
    exact h5 v' hv'
  · intro v' hv'
    rw [off _ (by omega) (by omega)]
    refine ⟨(h6 v' hv').1, fun b hb => ?_⟩
    by_cases e : v' = v ∧ b = a
    · obtain ⟨rfl, rfl⟩ := e
      rw [upd_n (by omega), upd_e]
      exact ⟨0, by omega, rfl⟩
    · rw [off _ (by omega) (by omega)]
      exact (h6 v' hv').2 b hb
  · intro v' hv'
    rw [off (30 * v' + 6) (by omega) (by omega), off (30 * v' + 8) (by omega) (by omega), off (30 * v' + 18) (by omega) (by omega)]
    refine ⟨(h7 v' hv').1, fun n g1 g2 => ?_, (h7 v' hv').2.2⟩
    by_cases e : v' = v
    · subst e
      rw [upd_e]
      exact or_128 ha ((h7 v' hv').2.1 n g1 g2)
    · rw [off _ (by omega) (by omega)]
      exact (h7 v' hv').2.1 n g1 g2
  · intro f hf
    rw [off _ (by omega) (by omega), off _ (by omega) (by omega)]; exact h8 f hf
  · intro s hs
    rw [off _ (by omega) (by omega)]; exact h9 s hs
