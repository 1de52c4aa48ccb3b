-- ===== loops over memory, in lockstep =====
theorem two_for {i nv nf ns : Nat} {gC gR : Mm} {τ1 τ2 : Type} {F1 : Mm → Int32 → Option ((Mm × Int32) ⊕ τ1)} {F2 : Mm → Int32 → Option ((Mm × Int32) ⊕ τ2)} (Q : τ1 → τ2 → Prop) (J : Nat → Mm → Mm → Prop) (n : Nat) (hn : n < 1000)
    (hs : ∀ k g1 g2, k < n → TK i nv nf ns gC gR g1 g2 → J k g1 g2 → ∃ a b, F1 g1 (nI k) = some (.inl (a, nI (k + 1))) ∧ F2 g2 (nI k) = some (.inl (b, nI (k + 1))) ∧ TK i nv nf ns g1 g2 a b ∧ J (k + 1) a b)
    (he : ∀ g1 g2, TK i nv nf ns gC gR g1 g2 → J n g1 g2 → ∃ t1 t2, F1 g1 (nI n) = some (.inr t1) ∧ F2 g2 (nI n) = some (.inr t2) ∧ Q t1 t2) (h0 : PS i gC gR nv nf ns) (hJ : J 0 gC gR) :
    ∃ t1 t2, wLp (fun q => F1 q.1 q.2) 1000 (gC, nI 0) = some t1 ∧ wLp (fun q => F2 q.1 q.2) 1000 (gR, nI 0) = some t2 ∧ Q t1 t2 := by
  refine wLp_two (f1 := fun q : Mm × Int32 => F1 q.1 q.2) (f2 := fun q : Mm × Int32 => F2 q.1 q.2) Q (fun k s1 s2 => TK i nv nf ns gC gR s1.1 s2.1 ∧ J k s1.1 s2.1 ∧ s1.2 = nI k ∧ s2.2 = nI k) n ?_ ?_ (k := 0) (Nat.zero_le _) ⟨TK.rf h0, hJ, rfl, rfl⟩ (by omega) (by omega)
  · rintro k ⟨g1, x1⟩ ⟨g2, x2⟩ hk ⟨hT, hj, e1, e2⟩
    dsimp only at hT hj e1 e2
    subst e1; subst e2
    obtain ⟨a, b, r1, r2, r3, r4⟩ := hs k g1 g2 hk hT hj
    exact Or.inl ⟨_, _, r1, r2, hT.tr r3, r4, rfl, rfl⟩
  · rintro ⟨g1, x1⟩ ⟨g2, x2⟩ ⟨hT, hj, e1, e2⟩
    dsimp only at hT hj e1 e2
    subst e1; subst e2
    exact he g1 g2 hT hj
/-- (2): the acts of one visit -/
theorem work_pr {i : Nat} {gC gR : Mm} {nv nf ns v : Nat} (hi : i < 2) (h : PS i gC gR nv nf ns) (hv : v < nv) : ∃ gC' gR', fX4_work gC i (nI v) = some gC' ∧ fX11_works gR (nI v) = some gR' ∧ TK i nv nf ns gC gR gC' gR' := by
  have hv12 := h.nv12
  obtain ⟨⟨m, hm, em, hb⟩, -⟩ := h.2.2.2.1 v hv
  unfold fX4_work fX11_works
  rw [wGi_ok (by omega) (by omega), nI_clamp (by omega), em, wLe_e, wLe_e]
  by_cases c : nI m = 0
  · rw [if_pos c]
    have m0 : m = 0 := by
      have c : nI m = nI 0 := c
      rwa [nI_eq (by omega) (by omega)] at c
    subst m0
    have z : ∀ a, a < 8 → gR 1 0 0 (30 * v + 11 + a) = nI 0 := fun a ha => Decidable.byContradiction fun q => by
      have := (hb a ha).1.mpr q
      simp at this
    obtain ⟨t, q1, q2⟩ := wLp_one (f := fun q : Mm × Int32 => fX11_works_B2 q.1 (nI v) q.2) (fun t => t = gR) (fun k s => s = (gR, nI k)) 8
      (fun k s hk e => by
        subst e
        left
        have zk := z k hk
        have hk' : ¬ 8 ≤ k := by omega
        dsimp only
        unfold fX11_works_B2 fX11_works_b52
        simp (disch := omega) only [li_0, li_1, li_2, li_3, li_4, li_5, li_6, li_7, li_8, li_9, li_10, li_11, li_12, li_13, li_14, li_15, li_16, li_17, li_18, li_19, li_30, li_32, li_40, li_41, li_42, li_43, li_45, li_48, li_57, li_59, li_60, li_61, li_63, li_97, li_99, li_122, li_160, li_200, li_255, li_256, li_257, li_258, li_259, li_360, li_460, li_462, li_470, li_475, li_480, li_481, li_482, li_483, li_484, li_490, li_496, li_510, li_999, li_9999, li_10000, li_10008, li_10009, li_10010, li_10011, li_10012, li_10013, li_10014, li_10015, li_10016, li_100000, wGi_ok, wGb_0, wGb_1, wLe_e, wBd_e, wB2_e, wEx_e, nI_mul, nI_add, nI_clamp, nI_leI, nI_ltI, nI_eq, nI_m1, if_neg hk', zk, if_true, Nat.le_refl]
        exact ⟨_, rfl, rfl⟩)
      (fun s e => by
        subst e
        exact ⟨_, rfl, rfl⟩) (k := 0) (Nat.zero_le _) (s := (gR, nI 0)) rfl (u := 1000) (by omega)
    subst q2
    exact ⟨_, _, rfl, q1, TK.rf h⟩
  · rw [if_neg c]
    obtain ⟨a, b, r1, r2, r3⟩ := two_for (F1 := fun g x => fX4_work_B17 g i (nI v) v x) (F2 := fun g x => fX11_works_B2 g (nI v) x) (fun a b => TK i nv nf ns gC gR a b) (fun _ _ _ => True) 8 (by omega)
      (fun k g1 g2 hk hT _ => by
        obtain ⟨a, b, r1, r2, r3⟩ := work_step hi hT.1 hv hk
        exact ⟨a, b, r1, r2, r3, trivial⟩)
      (fun g1 g2 hT _ => ⟨g1, g2, rfl, rfl, hT⟩) h trivial
    exact ⟨a, b, r1, r2, r3⟩
-- ===== (3): feeds =====
theorem lt2 (x : Int32) : (x < nI 2) = (x ≤ nI 1) := propext (by
  rw [Int32.lt_iff_toInt_lt, Int32.le_iff_toInt_le]
  have e2 : (nI 2).toInt = 2 := rfl
  have e1 : (nI 1).toInt = 1 := rfl
  omega)
theorem carry_pr {i : Nat} {gC gR : Mm} {nv nf ns f : Nat} (h : PS i gC gR nv nf ns) (hf : f < nf) : ∃ gC' gR', fX4_carry gC i i f = some gC' ∧ fX11_feedGoes gR (nI (360 + 6 * f)) = some gR' ∧ TK i nv nf ns gC gR gC' gR' := by
  have hv12 := h.nv12
  have hf16 := h.nf16
  obtain ⟨-, -, hE, hU, hP, hK⟩ := id h
  obtain ⟨⟨n0, hn0, k0⟩, ⟨n1, hn1, k1⟩⟩ := hP.2.2.2.2.2.2.2.1 f hf
  have keep : ∃ a b, some gC = some a ∧ some gR = some b ∧ TK i nv nf ns gC gR a b := ⟨_, _, rfl, rfl, TK.rf h⟩
  have wr : ∀ x, ∃ a b, some (st gC 22 i f 4 x) = some a ∧ some (st gR 1 0 0 (360 + 6 * f + 4) x) = some b ∧ TK i nv nf ns gC gR a b := fun x =>
    ⟨_, _, rfl, rfl, h.set (ix_f4 hf) (hP.free (by unfold piI; rintro (q | q | q | q | q | ⟨v', q1, q2⟩ | ⟨f, q1, q2⟩) <;> omega)), FrC.rf.st (by unfold wrC; omega), FrR.rf.st (Or.inl rfl)⟩
  have e9 := h.e9
  have f0 := h.f0 hf
  have f1 := h.f1 hf
  have f4 := h.f4 hf
  have f5 := h.f5 hf
  have u6 := h.v6 hn0
  have w6 := h.v6 hn1
  have w9 := h.v9 hn1
  unfold fX4_carry fX11_feedGoes fX4_carry_b47 fX4_carry_b48 fX11_feedGoes_b55 fX11_feedGoes_b67 fX9_isDone fX11_isDone
  simp (config := {maxSteps := 3000000}) (disch := omega) only [li_31, li_0, li_1, li_2, li_3, li_4, li_5, li_6, li_7, li_8, li_9, li_10, li_11, li_12, li_13, li_14, li_15, li_16, li_17, li_18, li_19, li_30, li_32, li_40, li_41, li_42, li_43, li_45, li_48, li_57, li_59, li_60, li_61, li_63, li_97, li_99, li_122, li_160, li_200, li_255, li_256, li_257, li_258, li_259, li_360, li_460, li_462, li_470, li_475, li_480, li_481, li_482, li_483, li_484, li_490, li_496, li_510, li_999, li_9999, li_10000, li_10008, li_10009, li_10010, li_10011, li_10012, li_10013, li_10014, li_10015, li_10016, li_100000, wGi_ok, wGb_0, wGb_1, wLe_e, wBd_e, wB2_e, wEx_e, nI_mul, nI_add, nI_clamp, nI_leI, nI_ltI, nI_eq, nI_m1, of_ev, e9, f0, f1, f4, f5, k0, k1, u6, w6, w9, lt2]
  by_cases c0 : gR 1 0 0 (360 + 6 * f + 4) ≤ nI 1
  · by_cases c1 : gR 1 0 0 (360 + 6 * f + 4) = nI 0
    · by_cases c2 : gR 1 0 0 (30 * n0 + 6) = nI 8
      · by_cases c3 : gR 1 0 0 (30 * n1 + 6) = nI 8
        · simp (disch := omega) only [c0, c1, c2, c3, if_true, if_false, nI_leI, nI_eq, Nat.one_ne_zero, Nat.zero_le]; exact wr _
        · simp (disch := omega) only [c0, c1, c2, c3, if_true, if_false, nI_leI, nI_eq, Nat.one_ne_zero, Nat.zero_le]; exact wr _
      · by_cases c3 : gR 1 0 0 (30 * n1 + 6) = nI 8
        · simp (disch := omega) only [c0, c1, c2, c3, if_true, if_false, nI_leI, nI_eq, Nat.one_ne_zero, Nat.zero_le]; exact wr _
        · simp (disch := omega) only [c0, c1, c2, c3, if_true, if_false, nI_leI, nI_eq, Nat.one_ne_zero, Nat.zero_ne_one, Nat.zero_le]; exact keep
    · by_cases c3 : gR 1 0 0 (30 * n1 + 6) = nI 8
      · simp (disch := omega) only [c0, c1, c3, if_true, if_false, nI_leI, nI_eq, Nat.one_ne_zero, Nat.zero_le]; exact wr _
      · by_cases c4 : gR 1 0 0 (360 + 6 * f + 4) = nI 1
        · by_cases c5 : gR 1 0 0 480 < gR 1 0 0 (360 + 6 * f + 5)
          · simp (disch := omega) only [c0, c1, c3, c4, c5, if_true, if_false, nI_leI, nI_eq, Nat.one_ne_zero, Nat.zero_le, Nat.le_refl]; exact keep
          · by_cases c6 : gR 1 0 0 (30 * n1 + 9) >>> (nI 5 &&& nI 31) &&& nI 1 = nI 1
            · simp (disch := omega) only [c0, c1, c3, c4, c5, c6, if_true, if_false, nI_leI, nI_eq, Nat.one_ne_zero, Nat.zero_le, Nat.le_refl, wGi_ok, wGb_0, wGb_1, wLe_e, wBd_e, wB2_e, wEx_e]; exact wr _
            · simp (disch := omega) only [c0, c1, c3, c4, c5, c6, if_true, if_false, nI_leI, nI_eq, Nat.one_ne_zero, Nat.zero_le, Nat.le_refl, wGi_ok, wGb_0, wGb_1, wLe_e, wBd_e, wB2_e, wEx_e]; exact wr _
        · simp (disch := omega) only [c0, c1, c3, c4, if_true, if_false, nI_leI, nI_eq, Nat.one_ne_zero, Nat.zero_le]; exact keep
  · simp only [c0, if_false]; exact keep
