-- ===== at the start they are alike =====
theorem two0_e {f : Mm → Mm → Bool} (h : two0 f = true) : ∃ gC gR, fX10_init 1 (nw g_0 0) 0 = some (167, gC) ∧ fX11_init 1 (nw g_0 0) 0 = some (23, gR) ∧ f (toS gC) gR = true := by
  unfold two0 at h
  cases e1 : fX10_init 1 (nw g_0 0) 0 with
  | none => rw [e1] at h; cases h
  | some r =>
    cases e2 : fX11_init 1 (nw g_0 0) 0 with
    | none => rw [e1, e2] at h; cases h
    | some r' =>
      rw [e1, e2] at h
      have h : (r.1 == 167 && r'.1 == 23 && f (toS r.2) r'.2) = true := h
      rw [Bool.and_eq_true, Bool.and_eq_true] at h
      obtain ⟨⟨h1, h2⟩, h3⟩ := h
      obtain ⟨n, gC⟩ := r
      obtain ⟨n', gR⟩ := r'
      have h1 : n = 167 := of_decide_eq_true h1
      have h2 : n' = 23 := of_decide_eq_true h2
      subst h1 h2
      exact ⟨gC, gR, rfl, rfl, h3⟩
theorem start_Rel : ∃ gC gR, fX10_init 1 (nw g_0 0) 0 = some (167, gC) ∧ fX11_init 1 (nw g_0 0) 0 = some (23, gR) ∧ ckA gC = true ∧ Rel (toS gC) gR := by
  obtain ⟨gC, gR, eC, eR, c1⟩ := two0_e s_1
  have same : ∀ {f : Mm → Mm → Bool}, two0 f = true → f (toS gC) gR = true := fun {f} h => by
    obtain ⟨a, b, h1, h2, h3⟩ := two0_e h
    rw [eC] at h1
    rw [eR] at h2
    have e1 : gC = a := congrArg Prod.snd (Option.some.inj h1)
    have e2 : gR = b := congrArg Prod.snd (Option.some.inj h2)
    rw [e1, e2]
    exact h3
  have c2 := same s_2
  have c3 := same s_3
  have c4 := same s_4
  have c5 := same s_5
  have c6 := same s_6
  have c7 := same s_7
  have c8 : ckA gC = true := by
    have := s_8
    unfold chI at this
    rw [eC] at this
    have : ((167 : Nat) == 167 && ckA gC) = true := this
    rw [Bool.and_eq_true] at this
    exact this.2
  unfold ck1 at c1
  unfold ck2 at c2
  unfold ck3 at c3
  unfold ck4 at c4
  unfold ck5 at c5
  unfold ck6 at c6
  unfold ck7 at c7
  simp only [Bool.and_eq_true, Bool.or_eq_true, beq_iff_eq] at c1 c2 c3 c4 c5 c6 c7
  refine ⟨gC, gR, eC, eR, c8, 0, 0, 0, ?_⟩
  generalize toS gC = G at *
  obtain ⟨⟨⟨⟨⟨⟨⟨⟨p1, p2⟩, p3⟩, p4⟩, p5⟩, p6⟩, p7⟩, p8⟩, p9⟩ := c1
  obtain ⟨⟨⟨⟨⟨⟨⟨q1, q2⟩, q3⟩, q4⟩, q5⟩, q6⟩, q7⟩, q8⟩ := c2
  obtain ⟨r1, r2⟩ := c3
  obtain ⟨⟨⟨⟨⟨⟨⟨⟨⟨⟨t1, t2⟩, t3⟩, t4⟩, t5⟩, t6⟩, t7⟩, t8⟩, t9⟩, t10⟩, t11⟩ := c4
  obtain ⟨⟨u1, u2⟩, u3⟩ := c5
  obtain ⟨⟨⟨⟨⟨w1, w2⟩, w3⟩, w4⟩, w5⟩, w6⟩ := c7
  have be : ∀ {n : Nat} {f g : Nat → Int32}, rg n (fun j => f j == g j) = true → ∀ j, j < n → f j = g j := fun h j hj => beq_iff_eq.mp (rg_e h j hj)
  refine ⟨⟨⟨p1, p2, p3⟩, ⟨p4, p5, p6⟩, ?_, fun v hv => absurd hv (by omega), ?_, ⟨be w2, be w3, be w4, be w5, be w6⟩⟩, fun v hv => absurd hv (by omega), ⟨fun v _ hv => ?_, fun f _ hf => beq_iff_eq.mp (rg_e r2 f hf)⟩, ⟨1, 0, by omega, by omega, t1, t2, t3, t4, t5, fun t' ht' => ?_⟩, ⟨0, by omega, t6, t7, fun j hj => absurd hj (by omega)⟩, ⟨0, by omega, t8, t9, fun j hj => absurd hj (by omega)⟩, ⟨0, by omega, t10, t11, fun v hv => absurd hv (by omega)⟩, fun s hs => ?_, fun k hk => be w1 k hk, ⟨0, by omega, p7, fun v hv => absurd hv (by omega)⟩⟩
  · intro t v j n h
    unfold ixR at h
    rcases h with ⟨rfl, rfl, rfl, rfl⟩ | ⟨rfl, rfl, hj, rfl⟩ | ⟨rfl, rfl, h5, hj, rfl⟩ | ⟨rfl, rfl, hj, rfl⟩ | ⟨rfl, rfl, hj, rfl⟩ | ⟨rfl, rfl, hj, rfl⟩ | ⟨rfl, rfl, hj, rfl⟩ | ⟨rfl, rfl, hj, rfl⟩ | h | h | h | h | h
    · rw [p7, p8]
    · exact be q1 j hj
    · have := be q2 (j - 5) (by omega)
      rw [show 5 + (j - 5) = j by omega, show 481 + (j - 5) = 476 + j by omega] at this
      exact this
    · exact be q3 j hj
    · omega
    · omega
    · exact be q4 j hj
    · exact be q5 j hj
    · omega
    · omega
    · omega
    · omega
    · omega
  · refine ⟨⟨by omega, by omega, by omega⟩, ⟨0, by omega, p8⟩, q8, fun r hr => Or.inl (be q6 r hr), fun v hv => absurd hv (by omega), fun v hv => absurd hv (by omega), fun v hv => absurd hv (by omega), fun f hf => absurd hf (by omega), fun s hs => Or.inl (be q7 s hs)⟩
  · have := rg_e r1 v hv
    simp only [Bool.and_eq_true, beq_iff_eq] at this
    exact ⟨this.1.1.1, this.1.1.2, this.1.2, be this.2⟩
  · have e0 : t' = 0 := by omega
    subst e0
    have okP : ∀ q, q < 3 → (∀ c, c ∈ P0 q → (c ≤ 7 ∨ (11 ≤ c ∧ c ≤ 19) ∨ (100000 ≤ c ∧ c ≤ 109999))) ∧ dep (P0 q) 0 = some 1 := by decide
    refine ⟨P0, by decide, fun q hq => okP q hq, be u1, fun q hq => ?_, fun q hq k hk => ?_⟩
    · have := be u2 q (by omega)
      rw [show 4 * 0 + q = q by omega]
      exact this
    · have lt : pof P0 q + k < 11 := by
        rcases (show q = 0 ∨ q = 1 ∨ q = 2 by omega) with rfl | rfl | rfl
        · have : k < 5 := hk
          show 0 + k < 11
          omega
        · have : k < 5 := hk
          show 5 + k < 11
          omega
        · have : k < 1 := hk
          show 10 + k < 11
          omega
      have := rg_e u3 (pof P0 q + k) lt
      simp only [Bool.and_eq_true, beq_iff_eq] at this
      have e := flat_get hk 3 hq
      rw [List.getD_eq_getElem?_getD, e] at this
      rw [show 200 * 0 + (pof P0 q + k) = pof P0 q + k by omega]
      exact this
  · have := rg_e c6 s hs
    simp only [Bool.and_eq_true, beq_iff_eq] at this
    exact ⟨this.1.1.1, ⟨0, by omega, this.1.1.2, this.1.2⟩, be this.2⟩
