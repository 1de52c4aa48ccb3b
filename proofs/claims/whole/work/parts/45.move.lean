theorem comes_ev {g : Mm} {i v : Nat} : fX9_comes g i v = some (g 19 i v 1 + g 19 i v 4) := rfl
theorem come_ev {g : Mm} {v : Nat} (h : v < 12) : fX11_come g (nI v) = some (g 1 0 0 (30 * v + 1) + g 1 0 0 (30 * v + 5)) := by
  unfold fX11_come
  simp (disch := omega) only [li_0, li_1, li_2, li_3, li_4, li_5, li_6, li_7, li_8, li_9, li_10, li_11, li_12, li_13, li_14, li_15, li_16, li_17, li_18, li_19, li_30, li_32, li_40, li_41, li_42, li_43, li_45, li_48, li_57, li_59, li_60, li_61, li_63, li_97, li_99, li_122, li_160, li_200, li_255, li_256, li_257, li_258, li_259, li_360, li_460, li_462, li_470, li_475, li_480, li_481, li_482, li_483, li_484, li_490, li_496, li_510, li_999, li_9999, li_10000, li_10008, li_10009, li_10010, li_10011, li_10012, li_10013, li_10014, li_10015, li_10016, li_100000, wGi_ok, wGb_0, wGb_1, wLe_e, wBd_e, wB2_e, wEx_e, of_ev]
theorem TK.rf {i nv nf ns : Nat} {gC gR : Mm} (h : PS i gC gR nv nf ns) : TK i nv nf ns gC gR gC gR := ⟨h, FrC.rf, FrR.rf⟩
/-- (1): one visit goes on -/
theorem move_pr {i : Nat} {gC gR : Mm} {nv nf ns v : Nat} (hi : i < 2) (h : PS i gC gR nv nf ns) (hv : v < nv) : ∃ gC' gR', fX4_move gC i i v = some gC' ∧ fX11_goesOn gR (nI v) = some gR' ∧ TK i nv nf ns gC gR gC' gR' := by
  have hv12 := h.nv12
  obtain ⟨-, -, hE, hU, hP, hK⟩ := id h
  obtain ⟨t, ht, et⟩ := hP.2.1
  obtain ⟨⟨kd, hk6, hkd⟩, -, ⟨n, hn, hst⟩, hsd⟩ := hP.2.2.2.2.1 v hv
  obtain ⟨q1, q2, q3⟩ := hP.2.2.2.2.2.2.1 v hv
  have kr := hK.2.2.1 kd hk6
  have e9 := h.e9
  have v7 := h.v7 hv
  have v6 := h.v6 hv
  have v0 := h.v0 hv
  have v1 := h.v1 hv
  have v4 := h.v4 hv
  have hkd' : gR 1 0 0 (30 * v + 0) = nI kd := hkd
  have stay : ∃ gC' gR', some gC = some gC' ∧ some gR = some gR' ∧ TK i nv nf ns gC gR gC' gR' := ⟨_, _, rfl, rfl, TK.rf h⟩
  have change : ∀ n', n' ≤ 8 → (2 ≤ n' → n' ≤ 4 → ∃ s : Nat, s < ns ∧ gR 1 0 0 (30 * v + 8) = nI s) → (n' ≤ 4 → gR 1 0 0 (30 * v + 9) &&& 128 = 0) → (gR 1 0 0 (30 * v + 18) ≠ 0 → n' = 4) →
      ∃ gC' gR', fX9_enter gC i v (nI n') (gR 1 0 0 480) = some gC' ∧ fX11_becomes gR (nI v) (nI n') = some gR' ∧ TK i nv nf ns gC gR gC' gR' := by
    intro n' h1 h2 h3 h4
    obtain ⟨a, b, r1, r2, r3, -⟩ := enter_pr hi h hv (hP.state hv h1 h2 h3 h4)
    exact ⟨a, b, r1, r2, r3⟩
  have no4 : n ≠ 4 → gR 1 0 0 (30 * v + 18) ≠ 0 → False := fun h1 h2 => by
    have h3 := q3 h2
    rw [hst, nI_eq (by omega) (by omega)] at h3
    exact h1 h3
  unfold fX4_move fX11_goesOn
  simp (config := {maxSteps := 3000000}) (disch := omega) only [li_0, li_1, li_2, li_3, li_4, li_5, li_6, li_7, li_8, li_9, li_10, li_11, li_12, li_13, li_14, li_15, li_16, li_17, li_18, li_19, li_30, li_32, li_40, li_41, li_42, li_43, li_45, li_48, li_57, li_59, li_60, li_61, li_63, li_97, li_99, li_122, li_160, li_200, li_255, li_256, li_257, li_258, li_259, li_360, li_460, li_462, li_470, li_475, li_480, li_481, li_482, li_483, li_484, li_490, li_496, li_510, li_999, li_9999, li_10000, li_10008, li_10009, li_10010, li_10011, li_10012, li_10013, li_10014, li_10015, li_10016, li_100000, wGi_ok, wGb_0, wGb_1, wLe_e, wBd_e, wB2_e, wEx_e, nI_mul, nI_add, nI_clamp, nI_leI, nI_ltI, nI_eq, nI_m1, of_ev, comes_ev, come_ev, e9, v7, v6, v0, v1, v4, hkd, hkd', kr, hst, roll_ev]
  rcases (show n = 0 ∨ n = 1 ∨ n = 2 ∨ n = 3 ∨ n = 4 ∨ n = 5 ∨ n = 6 ∨ n = 7 ∨ n = 8 by omega) with rfl | rfl | rfl | rfl | rfl | rfl | rfl | rfl | rfl
  · simp only [if_true]
    by_cases c : gR 1 0 0 480 < gR 1 0 0 (30 * v + 1) + gR 1 0 0 (30 * v + 5)
    · simp only [if_pos c]; exact stay
    · simp only [if_neg c]
      obtain ⟨a, b, r1, r2, r3⟩ := change 1 (by omega) (by omega) (fun _ => q2 0 (by omega) hst) (fun z => (no4 (by omega) z).elim)
      rw [r1, r2]; exact ⟨a, b, rfl, rfl, r3⟩
  · simp (disch := omega) only [nI_eq, Nat.one_ne_zero, if_true, if_false]
    by_cases c : gR 1 0 0 480 - gR 1 0 0 (30 * v + 7) < nI 60
    · simp only [if_pos c]; exact ⟨_, _, rfl, if_pos c, TK.rf h⟩
    · simp only [if_neg c]
      obtain ⟨a, b, r1, r2, r3⟩ := change 8 (by omega) (by omega) (by omega) (fun z => (no4 (by omega) z).elim)
      rw [r1, r2]; exact ⟨a, b, rfl, if_neg c, r3⟩
  · simp (disch := omega) only [nI_eq, Nat.reduceEqDiff, if_true, if_false]
    by_cases c : gR 1 0 0 480 - gR 1 0 0 (30 * v + 7) < sV 4 kd
    · simp only [if_pos c]; exact stay
    · simp only [if_neg c]
      obtain ⟨a, b, r1, r2, r3⟩ := change 3 (by omega) (fun _ _ => q1 2 (by omega) (by omega) hst) (fun _ => q2 2 (by omega) hst) (fun z => (no4 (by omega) z).elim)
      rw [r1, r2]; exact ⟨a, b, rfl, rfl, r3⟩
  · simp (disch := omega) only [nI_eq, Nat.reduceEqDiff, if_true, if_false]
    by_cases c : gR 1 0 0 480 - gR 1 0 0 (30 * v + 7) < nI 4
    · simp only [if_pos c]; exact ⟨_, _, rfl, if_pos c, TK.rf h⟩
    · simp only [if_neg c]
      obtain ⟨a, b, r1, r2, r3⟩ := change 4 (by omega) (fun _ _ => q1 3 (by omega) (by omega) hst) (fun _ => q2 3 (by omega) hst) (fun z => rfl)
      rw [r1, r2]; exact ⟨a, b, rfl, if_neg c, r3⟩
  · simp (disch := omega) only [nI_eq, Nat.reduceEqDiff, if_true, if_false]
    exact stay
  · simp (disch := omega) only [nI_eq, Nat.reduceEqDiff, if_true, if_false]
    exact stay
  · simp (disch := omega) only [nI_eq, Nat.reduceEqDiff, if_true, if_false]
    by_cases c : gR 1 0 0 480 - gR 1 0 0 (30 * v + 7) < sV 4 kd
    · simp only [if_pos c]; exact stay
    · simp only [if_neg c]
      obtain ⟨a, b, r1, r2, r3⟩ := change 7 (by omega) (by omega) (by omega) (fun z => (no4 (by omega) z).elim)
      rw [r1, r2]; exact ⟨a, b, rfl, rfl, r3⟩
  · simp (disch := omega) only [nI_eq, Nat.reduceEqDiff, if_true, if_false]
    exact stay
  · simp (disch := omega) only [nI_eq, Nat.reduceEqDiff, if_true, if_false]
    exact stay
