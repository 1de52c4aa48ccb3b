-- ===== the array after a write, by the write's role =====
theorem PI.mk' {p p' : Nat → Int32} {nv nf ns : Nat} (h : PI p nv nf ns)
    (e1 : p' 480 = p 480 ∨ ∃ t : Nat, t ≤ 10000 ∧ p' 480 = nI t) (e2 : p' 484 = p 484 ∨ p' 484 = 1 ∨ p' 484 = 2)
    (e3 : ∀ r, r < 2 → p' (462 + r) = p (462 + r) ∨ p' (462 + r) = -1 ∨ ∃ n : Nat, n < 6 ∧ p' (462 + r) = nI n)
    (e4 : ∀ v, v < nv → p' (30 * v) = p (30 * v)) (e5 : ∀ v, v < nv → p' (30 * v + 4) = p (30 * v + 4) ∨ p' (30 * v + 4) = -1 ∨ ∃ n : Nat, n < ns ∧ p' (30 * v + 4) = nI n)
    (e6 : ∀ v, v < nv → p' (30 * v + 10) = p (30 * v + 10)) (e7 : ∀ v, v < nv → ∀ a, a < 8 → p' (30 * v + 11 + a) = p (30 * v + 11 + a) ∨ ∃ n : Nat, n ≤ 40 ∧ p' (30 * v + 11 + a) = nI n)
    (e8 : ∀ v, v < nv → p' (30 * v + 6) = p (30 * v + 6)) (e9 : ∀ v, v < nv → p' (30 * v + 8) = p (30 * v + 8) ∨ ∃ s : Nat, s < ns ∧ p' (30 * v + 8) = nI s)
    (e10 : ∀ v, v < nv → p' (30 * v + 9) = p (30 * v + 9) ∨ (∀ n, n ≤ 4 → p (30 * v + 6) = nI n → p' (30 * v + 9) &&& 128 = 0)) (e11 : ∀ v, v < nv → p' (30 * v + 18) = p (30 * v + 18) ∨ (p' (30 * v + 18) ≠ 0 → p (30 * v + 6) = nI 4))
    (e12 : ∀ f, f < nf → p' (360 + 6 * f) = p (360 + 6 * f) ∧ p' (360 + 6 * f + 1) = p (360 + 6 * f + 1)) (e13 : ∀ s, s < 6 → p' (496 + s) = p (496 + s) ∨ p' (496 + s) = -1 ∨ ∃ n : Nat, (s < ns ∧ n < 12) ∧ p' (496 + s) = nI n) : PI p' nv nf ns := by
  obtain ⟨h1, h2, h3, h4, h5, h6, h7, h8, h9⟩ := h
  refine ⟨h1, ?_, ?_, ?_, ?_, ?_, ?_, ?_, ?_⟩
  · rcases e1 with e | e
    · rw [e]; exact h2
    · exact e
  · rcases e2 with e | e
    · rw [e]; exact h3
    · exact e
  · intro r hr
    rcases e3 r hr with e | e
    · rw [e]; exact h4 r hr
    · exact e
  · intro v hv
    obtain ⟨k1, k2, k3, k4⟩ := h5 v hv
    rw [e4 v hv, e8 v hv]
    refine ⟨k1, ?_, k3, ?_⟩
    · rcases e5 v hv with e | e
      · rw [e]; exact k2
      · exact e
    · rcases e9 v hv with e | e
      · rw [e]; exact k4
      · exact Or.inr e
  · intro v hv
    rw [e6 v hv]
    refine ⟨(h6 v hv).1, fun a ha => ?_⟩
    rcases e7 v hv a ha with e | e
    · rw [e]; exact (h6 v hv).2 a ha
    · exact e
  · intro v hv
    obtain ⟨k1, k2, k3⟩ := h7 v hv
    rw [e8 v hv]
    refine ⟨fun n a b c => ?_, fun n a b => ?_, fun a => ?_⟩
    · rcases e9 v hv with e | e
      · rw [e]; exact k1 n a b c
      · exact e
    · rcases e10 v hv with e | e
      · rw [e]; exact k2 n a b
      · exact e n a b
    · rcases e11 v hv with e | e
      · rw [e] at a; exact k3 a
      · exact e a
  · intro f hf
    rw [(e12 f hf).1, (e12 f hf).2]; exact h8 f hf
  · intro s hs
    rcases e13 s hs with e | e
    · rw [e]; exact h9 s hs
    · exact e
/-- a write at one place, seen through -/
theorem upd_or {p : Nat → Int32} {n m : Nat} {x : Int32} {C : Int32 → Prop} (h : m = n → C x) : upd p n x m = p m ∨ C (upd p n x m) := by
  by_cases e : m = n
  · subst e; rw [upd_e]; exact Or.inr (h rfl)
  · exact Or.inl (upd_n e)
theorem PI.wish {p : Nat → Int32} {nv nf ns v : Nat} {x : Int32} (h : PI p nv nf ns) (hv : v < nv) (hx : x = -1 ∨ ∃ n : Nat, n < ns ∧ x = nI n) : PI (upd p (30 * v + 4) x) nv nf ns := by
  have hv12 := h.1.1
  have hf16 := h.1.2.1
  exact h.mk' (Or.inl (upd_n (by omega))) (Or.inl (upd_n (by omega))) (fun r hr => Or.inl (upd_n (by omega))) (fun v' hv' => upd_n (by omega)) (fun v' hv' => upd_or (C := fun z => z = -1 ∨ ∃ n : Nat, n < ns ∧ z = nI n) (fun _ => hx)) (fun v' hv' => upd_n (by omega)) (fun v' hv' a ha => Or.inl (upd_n (by omega)))
    (fun v' hv' => upd_n (by omega)) (fun v' hv' => Or.inl (upd_n (by omega))) (fun v' hv' => Or.inl (upd_n (by omega))) (fun v' hv' => Or.inl (upd_n (by omega))) (fun f hf => ⟨upd_n (by omega), upd_n (by omega)⟩) (fun s hs => Or.inl (upd_n (by omega)))
theorem PI.act {p : Nat → Int32} {nv nf ns v a n : Nat} (h : PI p nv nf ns) (hv : v < nv) (ha : a < 8) (hn : n ≤ 40) (h7 : a = 7 → n ≠ 0 → p (30 * v + 6) = nI 4) : PI (upd p (30 * v + 11 + a) (nI n)) nv nf ns := by
  have hv12 := h.1.1
  have hf16 := h.1.2.1
  refine h.mk' (Or.inl (upd_n (by omega))) (Or.inl (upd_n (by omega))) (fun r hr => Or.inl (upd_n (by omega))) (fun v' hv' => upd_n (by omega)) (fun v' hv' => Or.inl (upd_n (by omega))) (fun v' hv' => upd_n (by omega)) (fun v' hv' a' ha' => upd_or (C := fun z => ∃ n : Nat, n ≤ 40 ∧ z = nI n) (fun _ => ⟨n, hn, rfl⟩))
    (fun v' hv' => upd_n (by omega)) (fun v' hv' => Or.inl (upd_n (by omega))) (fun v' hv' => Or.inl (upd_n (by omega))) (fun v' hv' => upd_or (C := fun z => z ≠ 0 → p (30 * v' + 6) = nI 4) (fun e q => ?_)) (fun f hf => ⟨upd_n (by omega), upd_n (by omega)⟩) (fun s hs => Or.inl (upd_n (by omega)))
  have e1 : v' = v := by omega
  subst e1
  exact h7 (by omega) (fun z => q (by rw [z]; rfl))
theorem PI.dones {p : Nat → Int32} {nv nf ns v : Nat} {x : Int32} (h : PI p nv nf ns) (hv : v < nv) (hx : ∀ n, n ≤ 4 → p (30 * v + 6) = nI n → x &&& 128 = 0) : PI (upd p (30 * v + 9) x) nv nf ns := by
  have hv12 := h.1.1
  have hf16 := h.1.2.1
  refine h.mk' (Or.inl (upd_n (by omega))) (Or.inl (upd_n (by omega))) (fun r hr => Or.inl (upd_n (by omega))) (fun v' hv' => upd_n (by omega)) (fun v' hv' => Or.inl (upd_n (by omega))) (fun v' hv' => upd_n (by omega)) (fun v' hv' a ha => Or.inl (upd_n (by omega)))
    (fun v' hv' => upd_n (by omega)) (fun v' hv' => Or.inl (upd_n (by omega))) (fun v' hv' => upd_or (C := fun z => ∀ n, n ≤ 4 → p (30 * v' + 6) = nI n → z &&& 128 = 0) (fun e => ?_)) (fun v' hv' => Or.inl (upd_n (by omega))) (fun f hf => ⟨upd_n (by omega), upd_n (by omega)⟩) (fun s hs => Or.inl (upd_n (by omega)))
  have e1 : v' = v := by omega
  subst e1
  exact hx
theorem PI.stands {p : Nat → Int32} {nv nf ns v s : Nat} (h : PI p nv nf ns) (hv : v < nv) (hs : s < ns) : PI (upd p (30 * v + 8) (nI s)) nv nf ns := by
  have hv12 := h.1.1
  have hf16 := h.1.2.1
  exact h.mk' (Or.inl (upd_n (by omega))) (Or.inl (upd_n (by omega))) (fun r hr => Or.inl (upd_n (by omega))) (fun v' hv' => upd_n (by omega)) (fun v' hv' => Or.inl (upd_n (by omega))) (fun v' hv' => upd_n (by omega)) (fun v' hv' a ha => Or.inl (upd_n (by omega)))
    (fun v' hv' => upd_n (by omega)) (fun v' hv' => upd_or (C := fun z => ∃ s : Nat, s < ns ∧ z = nI s) (fun _ => ⟨s, hs, rfl⟩)) (fun v' hv' => Or.inl (upd_n (by omega))) (fun v' hv' => Or.inl (upd_n (by omega))) (fun f hf => ⟨upd_n (by omega), upd_n (by omega)⟩) (fun s hs => Or.inl (upd_n (by omega)))
theorem PI.owner {p : Nat → Int32} {nv nf ns s n : Nat} (h : PI p nv nf ns) (hs : s < ns) (hn : n < 12) : PI (upd p (496 + s) (nI n)) nv nf ns := by
  have hv12 := h.1.1
  have hf16 := h.1.2.1
  exact h.mk' (Or.inl (upd_n (by omega))) (Or.inl (upd_n (by omega))) (fun r hr => Or.inl (upd_n (by omega))) (fun v' hv' => upd_n (by omega)) (fun v' hv' => Or.inl (upd_n (by omega))) (fun v' hv' => upd_n (by omega)) (fun v' hv' a ha => Or.inl (upd_n (by omega)))
    (fun v' hv' => upd_n (by omega)) (fun v' hv' => Or.inl (upd_n (by omega))) (fun v' hv' => Or.inl (upd_n (by omega))) (fun v' hv' => Or.inl (upd_n (by omega))) (fun f hf => ⟨upd_n (by omega), upd_n (by omega)⟩) (fun s' hs' => upd_or (C := fun z => z = -1 ∨ ∃ n : Nat, (s' < ns ∧ n < 12) ∧ z = nI n) (fun e => Or.inr ⟨n, ⟨by omega, hn⟩, rfl⟩))
theorem PI.prev {p : Nat → Int32} {nv nf ns r n : Nat} (h : PI p nv nf ns) (hr : r < 2) (hn : n < 6) : PI (upd p (462 + r) (nI n)) nv nf ns := by
  have hv12 := h.1.1
  have hf16 := h.1.2.1
  exact h.mk' (Or.inl (upd_n (by omega))) (Or.inl (upd_n (by omega))) (fun r hr => upd_or (C := fun z => z = -1 ∨ ∃ n : Nat, n < 6 ∧ z = nI n) (fun _ => Or.inr ⟨n, hn, rfl⟩)) (fun v' hv' => upd_n (by omega)) (fun v' hv' => Or.inl (upd_n (by omega))) (fun v' hv' => upd_n (by omega)) (fun v' hv' a ha => Or.inl (upd_n (by omega)))
    (fun v' hv' => upd_n (by omega)) (fun v' hv' => Or.inl (upd_n (by omega))) (fun v' hv' => Or.inl (upd_n (by omega))) (fun v' hv' => Or.inl (upd_n (by omega))) (fun f hf => ⟨upd_n (by omega), upd_n (by omega)⟩) (fun s hs => Or.inl (upd_n (by omega)))
theorem PI.tick {p : Nat → Int32} {nv nf ns t : Nat} (h : PI p nv nf ns) (ht : t ≤ 10000) : PI (upd p 480 (nI t)) nv nf ns := by
  have hv12 := h.1.1
  have hf16 := h.1.2.1
  exact h.mk' (Or.inr ⟨t, ht, upd_e⟩) (Or.inl (upd_n (by omega))) (fun r hr => Or.inl (upd_n (by omega))) (fun v' hv' => upd_n (by omega)) (fun v' hv' => Or.inl (upd_n (by omega))) (fun v' hv' => upd_n (by omega)) (fun v' hv' a ha => Or.inl (upd_n (by omega)))
    (fun v' hv' => upd_n (by omega)) (fun v' hv' => Or.inl (upd_n (by omega))) (fun v' hv' => Or.inl (upd_n (by omega))) (fun v' hv' => Or.inl (upd_n (by omega))) (fun f hf => ⟨upd_n (by omega), upd_n (by omega)⟩) (fun s hs => Or.inl (upd_n (by omega)))
theorem PI.runways {p : Nat → Int32} {nv nf ns : Nat} {x : Int32} (h : PI p nv nf ns) (hx : x = 1 ∨ x = 2) : PI (upd p 484 x) nv nf ns := by
  have hv12 := h.1.1
  have hf16 := h.1.2.1
  exact h.mk' (Or.inl (upd_n (by omega))) (Or.inr (by rw [upd_e]; exact hx)) (fun r hr => Or.inl (upd_n (by omega))) (fun v' hv' => upd_n (by omega)) (fun v' hv' => Or.inl (upd_n (by omega))) (fun v' hv' => upd_n (by omega)) (fun v' hv' a ha => Or.inl (upd_n (by omega)))
    (fun v' hv' => upd_n (by omega)) (fun v' hv' => Or.inl (upd_n (by omega))) (fun v' hv' => Or.inl (upd_n (by omega))) (fun v' hv' => Or.inl (upd_n (by omega))) (fun f hf => ⟨upd_n (by omega), upd_n (by omega)⟩) (fun s hs => Or.inl (upd_n (by omega)))
