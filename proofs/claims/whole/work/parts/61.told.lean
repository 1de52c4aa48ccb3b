-- ===== calls that only tell =====
theorem in_ev {g : Mm} {n lo hi : Nat} (hn : n < 2 ^ 31) (hl : lo < 2 ^ 31) (hh : hi < 2 ^ 31) : fX11_in g (nI n) (nI lo) (nI hi) = some (if lo ≤ n ∧ n ≤ hi then 1 else 0) := by
  unfold fX11_in
  by_cases c : n < lo
  · rw [if_pos (nI_lt c hl), if_neg (by omega)]
  · rw [if_neg (nI_nlt (by omega) hn)]
    by_cases d : hi < n
    · rw [if_pos (nI_lt d hn), if_neg (by omega)]
    · rw [if_neg (nI_nlt (by omega) hh), if_pos (by omega)]
theorem in_neg {g : Mm} {x hi : Int32} {lo : Nat} (h : x < 0) (hl : lo < 2 ^ 31) : fX11_in g x (nI lo) hi = some 0 := by
  unfold fX11_in
  exact if_pos (neg_lt h hl)
theorem c10 : ¬ ((1 : Int32) = 0) := by decide
/-- the acts under way, as bits -/
theorem or_step : ∀ m, m < 256 → ∀ k, k < 8 → (nI (m % 2 ^ k) ||| (if m.testBit k = true then (1 : Int32) <<< (nI k &&& 31) else 0)) = nI (m % 2 ^ (k + 1)) := by decide +kernel
theorem under_pr {gC gR : Mm} {nv nf ns v : Nat} (h : PS 0 gC gR nv nf ns) (hv : v < nv) (a2 : Int32) : fX11_visitTold_L133 gR (nI v) a2 0 0 = some (gC 19 0 v 10) := by
  have hv12 := h.nv12
  obtain ⟨⟨m, hm, em, hb⟩, -⟩ := h.2.2.2.1 v hv
  obtain ⟨t, q1, q2⟩ := wLp_one (f := fun q : Int32 × Int32 => fX11_visitTold_B133 gR (nI v) a2 q.1 q.2) (fun t => t = nI m) (fun k s => s = (nI (m % 2 ^ k), nI k)) 8
    (fun k s hk e => by
      subst e
      left
      obtain ⟨n, hn, en⟩ := (h.2.2.2.2.1.2.2.2.2.2.1 v hv).2 k hk
      obtain ⟨b1, -⟩ := hb k hk
      have e11 : (11 : Int32) + nI k = nI (11 + k) := by simp only [li_0, li_1, li_2, li_3, li_4, li_5, li_6, li_7, li_8, li_9, li_10, li_11, li_12, li_13, li_14, li_15, li_16, li_17, li_18, li_19, li_30, li_32, li_40, li_41, li_42, li_43, li_45, li_48, li_57, li_59, li_60, li_61, li_63, li_97, li_99, li_122, li_160, li_200, li_255, li_256, li_257, li_258, li_259, li_360, li_460, li_462, li_470, li_475, li_480, li_481, li_482, li_483, li_484, li_490, li_496, li_510, li_999, li_9999, li_10000, li_10008, li_10009, li_10010, li_10011, li_10012, li_10013, li_10014, li_10015, li_10016, li_100000, nI_add]
      have ea : 30 * v + (11 + k) = 30 * v + 11 + k := by omega
      have n8 : ¬ (8 : Int32) ≤ nI k := nI_ge (a := k) (b := 8) hk (by omega)
      have os := or_step m hm k hk
      dsimp only
      unfold fX11_visitTold_B133 fX11_visitTold_b162
      rw [if_neg n8, e11, of_ev gR (by omega), wBd_e, ea, en]
      by_cases c : n = 0
      · subst c
        have nb : ¬ m.testBit k = true := fun q => b1.mp q en
        rw [if_neg nb] at os
        rw [if_pos (show nI 0 ≤ 0 by decide), wLe_e, wLe_e, nI_1, os]
        exact ⟨_, rfl, rfl⟩
      · have nb : m.testBit k = true := b1.mpr (by rw [en]; exact nI_ne0 (by omega) (by omega))
        rw [if_pos nb] at os
        rw [if_neg (nI_nle (by omega) (by omega)), wLe_e, wLe_e, nI_1, os]
        exact ⟨_, rfl, rfl⟩)
    (fun s e => by
      subst e
      dsimp only
      unfold fX11_visitTold_B133
      rw [if_pos (show (8 : Int32) ≤ nI 8 by decide), wEx_e]
      exact ⟨_, rfl, by rw [Nat.mod_eq_of_lt hm]⟩)
    (k := 0) (Nat.zero_le _) (s := (0, 0)) (by rw [Nat.pow_zero, Nat.mod_one]; rfl) (u := 1000) (by omega)
  subst q2
  rw [em]
  exact q1

theorem sr_visitTold {gC gR : Mm} {nv nf ns : Nat} (h : PS 0 gC gR nv nf ns) (a b : Int32) : ∃ r, fX10_visitTold gC a b = some r ∧ fX11_visitTold gR a b = some r := by
  have hv12 := h.nv12
  unfold fX10_visitTold fX11_visitTold
  rcases isv h a with ⟨v, hv, rfl, e1, e2⟩ | ⟨e1, e2⟩
  · obtain ⟨r, l1, l2⟩ := lateOf_pr h hv
    rw [e1, e2, wBd_e, wBd_e, if_neg c10, if_neg c10, wGi_ok (by omega) (by omega), nI_clamp (by omega), wLe_e]
    unfold fX9_told
    by_cases q0 : b = 0
    · rw [if_pos q0, if_pos q0]
      have n : (0 : Int32) = nI 0 := rfl
      rw [n, of_ev gR (by omega), wBd_e]
      exact ⟨_, congrArg some (h.v0 hv), rfl⟩
    rw [if_neg q0, if_neg q0]
    by_cases q1 : b = 1
    · rw [if_pos q1, if_pos q1]
      have n : (6 : Int32) = nI 6 := rfl
      rw [n, of_ev gR (by omega), wBd_e]
      exact ⟨_, congrArg some (h.v6 hv), rfl⟩
    rw [if_neg q1, if_neg q1]
    by_cases q2 : b = 2
    · rw [if_pos q2, if_pos q2]
      have n : (7 : Int32) = nI 7 := rfl
      rw [n, of_ev gR (by omega), wBd_e]
      exact ⟨_, congrArg some (h.v7 hv), rfl⟩
    rw [if_neg q2, if_neg q2]
    by_cases q3 : b = 3
    · rw [if_pos q3, if_pos q3]
      have n : (8 : Int32) = nI 8 := rfl
      rw [n, of_ev gR (by omega), wBd_e]
      exact ⟨_, congrArg some (h.v8 hv), rfl⟩
    rw [if_neg q3, if_neg q3]
    by_cases q4 : b = 4
    · rw [if_pos q4, if_pos q4]
      rw [comes_ev, come_ev (by omega), wBd_e, wBd_e, h.v1 hv, h.v4 hv]
      exact ⟨_, rfl, rfl⟩
    rw [if_neg q4, if_neg q4]
    by_cases q5 : b = 5
    · rw [if_pos q5, if_pos q5]
      have n : (2 : Int32) = nI 2 := rfl
      rw [n, of_ev gR (by omega), wBd_e]
      exact ⟨_, congrArg some (h.v2 hv), rfl⟩
    rw [if_neg q5, if_neg q5]
    by_cases q6 : b = 6
    · rw [if_pos q6, if_pos q6]
      have n : (9 : Int32) = nI 9 := rfl
      rw [n, of_ev gR (by omega), wBd_e]
      exact ⟨_, congrArg some (h.v9 hv), rfl⟩
    rw [if_neg q6, if_neg q6]
    by_cases q7 : b = 7
    · rw [if_pos q7, if_pos q7]
      rw [l1, l2, wBd_e, wBd_e]
      exact ⟨_, rfl, rfl⟩
    rw [if_neg q7, if_neg q7]
    by_cases q8 : b = 8
    · rw [if_pos q8, if_pos q8]
      rw [wLe_e, under_pr h hv]
      exact ⟨_, rfl, rfl⟩
    rw [if_neg q8, if_neg q8]
    by_cases q9 : b = 9
    · rw [if_pos q9, if_pos q9]
      have n : (4 : Int32) = nI 4 := rfl
      rw [n, of_ev gR (by omega), wBd_e]
      exact ⟨_, congrArg some (h.v5 hv), rfl⟩
    rw [if_neg q9, if_neg q9]
    by_cases q10 : b = 10
    · rw [if_pos q10, if_pos q10]
      rw [lim_ev, limR_ev (by omega), wBd_e, wBd_e, h.v1 hv, h.v4 hv, h.v3 hv]
      exact ⟨_, rfl, rfl⟩
    rw [if_neg q10, if_neg q10]
    exact ⟨_, rfl, rfl⟩
  · rw [e1, e2, wBd_e, wBd_e, if_pos rfl]
    exact ⟨_, rfl, rfl⟩
theorem sr_cause {gC gR : Mm} {nv nf ns : Nat} (h : PS 0 gC gR nv nf ns) (a b : Int32) : ∃ r, fX10_cause gC a b = some r ∧ fX11_cause gR a b = some r := by
  have hv12 := h.nv12
  unfold fX10_cause fX11_cause
  rcases isv h a with ⟨v, hv, rfl, e1, e2⟩ | ⟨e1, e2⟩
  · rw [e1, e2, wBd_e, wBd_e, if_neg c10, if_neg c10]
    rcases posneg b with hb | ⟨n, hn, rfl⟩
    · rw [if_pos hb, show fX11_in gR b 0 8 = some 0 from in_neg (lo := 0) hb (by omega), wBd_e, if_pos rfl]
      exact ⟨_, rfl, rfl⟩
    · rw [if_neg (nI_pos hn), show fX11_in gR (nI n) 0 8 = some (if 0 ≤ n ∧ n ≤ 8 then 1 else 0) from in_ev (lo := 0) (hi := 8) hn (by omega) (by omega), wBd_e]
      by_cases c : n < 9
      · have e19 : (19 : Int32) + nI n = nI (19 + n) := by simp only [li_0, li_1, li_2, li_3, li_4, li_5, li_6, li_7, li_8, li_9, li_10, li_11, li_12, li_13, li_14, li_15, li_16, li_17, li_18, li_19, li_30, li_32, li_40, li_41, li_42, li_43, li_45, li_48, li_57, li_59, li_60, li_61, li_63, li_97, li_99, li_122, li_160, li_200, li_255, li_256, li_257, li_258, li_259, li_360, li_460, li_462, li_470, li_475, li_480, li_481, li_482, li_483, li_484, li_490, li_496, li_510, li_999, li_9999, li_10000, li_10008, li_10009, li_10010, li_10011, li_10012, li_10013, li_10014, li_10015, li_10016, li_100000, nI_add]
        rw [if_pos (show nI n < (9 : Int32) from nI_lt (b := 9) c (by omega)), if_pos (show 0 ≤ n ∧ n ≤ 8 by omega), if_neg c10, wGi_ok (by omega) (by omega), wGi_ok (by omega) (by omega), nI_clamp (by omega), nI_clamp (by omega), e19, of_ev gR (by omega), wBd_e, h.c21 hv c, Nat.add_assoc]
        exact ⟨_, rfl, rfl⟩
      · rw [if_neg (show ¬ nI n < (9 : Int32) from nI_nlt (b := 9) (by omega) hn), if_neg (show ¬ (0 ≤ n ∧ n ≤ 8) by omega), if_pos rfl]
        exact ⟨_, rfl, rfl⟩
  · rw [e1, e2, wBd_e, wBd_e, if_pos rfl]
    exact ⟨_, rfl, rfl⟩
theorem sr_feedTold {gC gR : Mm} {nv nf ns : Nat} (h : PS 0 gC gR nv nf ns) (a b : Int32) : ∃ r, fX10_feedTold gC a b = some r ∧ fX11_feedTold gR a b = some r := by
  have hf := h.nf16
  unfold fX10_feedTold fX11_feedTold
  rcases isf h a with ⟨f, hv, rfl, e1, e2⟩ | ⟨e1, e2⟩
  · have e36 : (360 : Int32) + (6 : Int32) * nI f = nI (360 + 6 * f) := by simp only [li_0, li_1, li_2, li_3, li_4, li_5, li_6, li_7, li_8, li_9, li_10, li_11, li_12, li_13, li_14, li_15, li_16, li_17, li_18, li_19, li_30, li_32, li_40, li_41, li_42, li_43, li_45, li_48, li_57, li_59, li_60, li_61, li_63, li_97, li_99, li_122, li_160, li_200, li_255, li_256, li_257, li_258, li_259, li_360, li_460, li_462, li_470, li_475, li_480, li_481, li_482, li_483, li_484, li_490, li_496, li_510, li_999, li_9999, li_10000, li_10008, li_10009, li_10010, li_10011, li_10012, li_10013, li_10014, li_10015, li_10016, li_100000, nI_mul, nI_add]
    rw [e1, e2, wBd_e, wBd_e, if_neg c10, if_neg c10, wGi_ok (by omega) (by omega), nI_clamp (by omega), wLe_e, e36]
    unfold fX1_told
    by_cases q0 : b = 0
    · rw [if_pos q0, if_pos q0]
      have n : nI (360 + 6 * f) + b = nI (360 + 6 * f + 0) := by rw [q0]; exact nI_add _ 0
      rw [n, wGi_ok (by omega) (by omega), nI_clamp (by omega), wBd_e, h.f0 hv]
      exact ⟨_, rfl, rfl⟩
    rw [if_neg q0, if_neg q0]
    by_cases q1 : b = 1
    · rw [if_pos q1, if_pos q1]
      have n : nI (360 + 6 * f) + b = nI (360 + 6 * f + 1) := by rw [q1]; exact nI_add _ 1
      rw [n, wGi_ok (by omega) (by omega), nI_clamp (by omega), wBd_e, h.f1 hv]
      exact ⟨_, rfl, rfl⟩
    rw [if_neg q1, if_neg q1]
    by_cases q2 : b = 2
    · rw [if_pos q2, if_pos q2]
      have n : nI (360 + 6 * f) + b = nI (360 + 6 * f + 2) := by rw [q2]; exact nI_add _ 2
      rw [n, wGi_ok (by omega) (by omega), nI_clamp (by omega), wBd_e, h.f2 hv]
      exact ⟨_, rfl, rfl⟩
    rw [if_neg q2, if_neg q2]
    by_cases q3 : b = 3
    · rw [if_pos q3, if_pos q3]
      have n : nI (360 + 6 * f) + (4 : Int32) = nI (360 + 6 * f + 4) := nI_add _ 4
      rw [n, wGi_ok (by omega) (by omega), nI_clamp (by omega), wBd_e, h.f4 hv]
      exact ⟨_, rfl, rfl⟩
    rw [if_neg q3, if_neg q3]
    by_cases q4 : b = 4
    · rw [if_pos q4, if_pos q4]
      have n : nI (360 + 6 * f) + (5 : Int32) = nI (360 + 6 * f + 5) := nI_add _ 5
      rw [n, wGi_ok (by omega) (by omega), nI_clamp (by omega), wBd_e, h.f5 hv]
      exact ⟨_, rfl, rfl⟩
    rw [if_neg q4, if_neg q4]
    exact ⟨_, rfl, rfl⟩
  · rw [e1, e2, wBd_e, wBd_e, if_pos rfl]
    exact ⟨_, rfl, rfl⟩
theorem sr_standTold {gC gR : Mm} {nv nf ns : Nat} (h : PS 0 gC gR nv nf ns) (a b : Int32) : ∃ r, fX10_standTold gC a b = some r ∧ fX11_standTold gR a b = some r := by
  have hs := h.ns6
  unfold fX10_standTold fX11_standTold
  rcases iss h a with ⟨s, hv, rfl, e1, e2⟩ | ⟨e1, e2⟩
  · have e49 : (490 : Int32) + nI s = nI (490 + s) := by simp only [li_0, li_1, li_2, li_3, li_4, li_5, li_6, li_7, li_8, li_9, li_10, li_11, li_12, li_13, li_14, li_15, li_16, li_17, li_18, li_19, li_30, li_32, li_40, li_41, li_42, li_43, li_45, li_48, li_57, li_59, li_60, li_61, li_63, li_97, li_99, li_122, li_160, li_200, li_255, li_256, li_257, li_258, li_259, li_360, li_460, li_462, li_470, li_475, li_480, li_481, li_482, li_483, li_484, li_490, li_496, li_510, li_999, li_9999, li_10000, li_10008, li_10009, li_10010, li_10011, li_10012, li_10013, li_10014, li_10015, li_10016, li_100000, nI_add]
    have e50 : (496 : Int32) + nI s = nI (496 + s) := by simp only [li_0, li_1, li_2, li_3, li_4, li_5, li_6, li_7, li_8, li_9, li_10, li_11, li_12, li_13, li_14, li_15, li_16, li_17, li_18, li_19, li_30, li_32, li_40, li_41, li_42, li_43, li_45, li_48, li_57, li_59, li_60, li_61, li_63, li_97, li_99, li_122, li_160, li_200, li_255, li_256, li_257, li_258, li_259, li_360, li_460, li_462, li_470, li_475, li_480, li_481, li_482, li_483, li_484, li_490, li_496, li_510, li_999, li_9999, li_10000, li_10008, li_10009, li_10010, li_10011, li_10012, li_10013, li_10014, li_10015, li_10016, li_100000, nI_add]
    rw [e1, e2, wBd_e, wBd_e, if_neg c10, if_neg c10, wGi_ok (by omega) (by omega), wGi_ok (by omega) (by omega), nI_clamp (by omega), e49, e50, wGi_ok (by omega) (by omega), wGi_ok (by omega) (by omega), nI_clamp (by omega), nI_clamp (by omega), h.e12 hv, h.e13 hv]
    by_cases q0 : b = 0
    · rw [if_pos q0]
      exact ⟨_, rfl, rfl⟩
    rw [if_neg q0]
    by_cases q1 : b = 1
    · rw [if_pos q1]
      exact ⟨_, rfl, rfl⟩
    rw [if_neg q1]
    exact ⟨_, rfl, rfl⟩
  · rw [e1, e2, wBd_e, wBd_e, if_pos rfl]
    exact ⟨_, rfl, rfl⟩
theorem sr_runwayTold {gC gR : Mm} {nv nf ns : Nat} (h : PS 0 gC gR nv nf ns) (a b : Int32) : ∃ r, fX10_runwayTold gC a b = some r ∧ fX11_runwayTold gR a b = some r := by
  unfold fX10_runwayTold fX11_runwayTold
  rcases posneg a with ha | ⟨n, hn, rfl⟩
  · rw [if_pos ha, show fX11_in gR a 0 1 = some 0 from in_neg (lo := 0) ha (by omega), wBd_e, if_pos rfl]
    exact ⟨_, rfl, rfl⟩
  · rw [if_neg (nI_pos hn), show fX11_in gR (nI n) 0 1 = some (if 0 ≤ n ∧ n ≤ 1 then 1 else 0) from in_ev (lo := 0) (hi := 1) hn (by omega) (by omega), wBd_e]
    by_cases c : n < 2
    · obtain ⟨-, q3, q4⟩ := idx2 (β := Int32) c none
      have q1 := fun f : Option Int32 => (idx2 c f).1.1
      have q2 := fun f : Option Int32 => (idx2 c f).1.2
      rw [if_pos (show nI n < (2 : Int32) from nI_lt (b := 2) c (by omega)), if_pos (show 0 ≤ n ∧ n ≤ 1 by omega), if_neg c10, wGi_ok (by omega) (by omega), wGi_ok (by omega) (by omega), nI_clamp (by omega), q1, q2, q3, q4, h.e14 c, h.e15 c]
      by_cases q0 : b = 0
      · rw [if_pos q0]
        exact ⟨_, rfl, rfl⟩
      rw [if_neg q0]
      by_cases q1 : b = 1
      · rw [if_pos q1]
        exact ⟨_, rfl, rfl⟩
      rw [if_neg q1]
      exact ⟨_, rfl, rfl⟩
    · rw [if_neg (show ¬ nI n < (2 : Int32) from nI_nlt (b := 2) (by omega) hn), if_neg (show ¬ (0 ≤ n ∧ n ≤ 1) by omega), if_pos rfl]
      exact ⟨_, rfl, rfl⟩
theorem kind_ev {g : Mm} (a : Int32) (g2 : Mm) : (∃ k, k < 6 ∧ a = nI k ∧ fX3_isKind g a = some 1 ∧ fX11_in g2 a 0 5 = some 1) ∨ (fX3_isKind g a = some 0 ∧ fX11_in g2 a 0 5 = some 0) := by
  unfold fX3_isKind
  rcases posneg a with ha | ⟨n, hn, rfl⟩
  · exact Or.inr ⟨if_pos ha, in_neg (lo := 0) ha (by omega)⟩
  · rw [if_neg (nI_pos hn), show fX11_in g2 (nI n) 0 5 = some (if 0 ≤ n ∧ n ≤ 5 then 1 else 0) from in_ev (lo := 0) (hi := 5) hn (by omega) (by omega)]
    by_cases c : n < 6
    · rw [if_neg (show ¬ (6 : Int32) ≤ nI n from nI_ge (b := 6) c (by omega)), if_pos (show 0 ≤ n ∧ n ≤ 5 by omega)]
      exact Or.inl ⟨n, c, rfl, rfl, rfl⟩
    · rw [if_pos (show (6 : Int32) ≤ nI n from nI_le (a := 6) (by omega) hn), if_neg (show ¬ (0 ≤ n ∧ n ≤ 5) by omega)]
      exact Or.inr ⟨rfl, rfl⟩
theorem sr_ticks {gC gR : Mm} {nv nf ns : Nat} (h : PS 0 gC gR nv nf ns) (a b : Int32) : ∃ r, fX10_ticks gC a b = some r ∧ fX11_ticks_ gR a b = some r := by
  have hK := h.2.2.2.2.2
  unfold fX10_ticks fX11_ticks_
  rcases kind_ev (g := gC) a gR with ⟨k, hk, rfl, e1, e2⟩ | ⟨e1, e2⟩
  · rw [e1, e2, wBd_e, wBd_e, if_neg c10, if_neg c10]
    rcases posneg b with hb | ⟨n, hn, rfl⟩
    · rw [if_pos hb, show fX11_in gR b 0 7 = some 0 from in_neg (lo := 0) hb (by omega), wBd_e, if_pos rfl]
      exact ⟨_, rfl, rfl⟩
    · rw [if_neg (nI_pos hn), show fX11_in gR (nI n) 0 7 = some (if 0 ≤ n ∧ n ≤ 7 then 1 else 0) from in_ev (lo := 0) (hi := 7) hn (by omega) (by omega), wBd_e]
      by_cases c : n < 8
      · have e8 : (8 : Int32) * nI k + nI n = nI (8 * k + n) := by simp only [li_0, li_1, li_2, li_3, li_4, li_5, li_6, li_7, li_8, li_9, li_10, li_11, li_12, li_13, li_14, li_15, li_16, li_17, li_18, li_19, li_30, li_32, li_40, li_41, li_42, li_43, li_45, li_48, li_57, li_59, li_60, li_61, li_63, li_97, li_99, li_122, li_160, li_200, li_255, li_256, li_257, li_258, li_259, li_360, li_460, li_462, li_470, li_475, li_480, li_481, li_482, li_483, li_484, li_490, li_496, li_510, li_999, li_9999, li_10000, li_10008, li_10009, li_10010, li_10011, li_10012, li_10013, li_10014, li_10015, li_10016, li_100000, nI_mul, nI_add]
        rw [if_pos (show nI n < (8 : Int32) from nI_lt (b := 8) c (by omega)), if_pos (show 0 ≤ n ∧ n ≤ 7 by omega), if_neg c10, lasts_ev hk c, wBd_e, e8, wGi_ok (by omega) (by omega), nI_clamp (by omega), hK.1 _ (by omega)]
        exact ⟨_, rfl, rfl⟩
      · rw [if_neg (show ¬ nI n < (8 : Int32) from nI_nlt (b := 8) (by omega) hn), if_neg (show ¬ (0 ≤ n ∧ n ≤ 7) by omega), if_pos rfl]
        exact ⟨_, rfl, rfl⟩
  · rw [e1, e2, wBd_e, wBd_e, if_pos rfl]
    exact ⟨_, rfl, rfl⟩
theorem sr_kindTold {gC gR : Mm} {nv nf ns : Nat} (h : PS 0 gC gR nv nf ns) (a b : Int32) : ∃ r, fX10_kindTold gC a b = some r ∧ fX11_kindTold gR a b = some r := by
  have hK := h.2.2.2.2.2
  unfold fX10_kindTold fX11_kindTold
  rcases kind_ev (g := gC) a gR with ⟨k, hk, rfl, e1, e2⟩ | ⟨e1, e2⟩
  · rw [e1, e2, wBd_e, wBd_e, if_neg c10, if_neg c10, size_ev hk, roll_ev hk, wBd_e, wBd_e, wGi_ok (by omega) (by omega), wGi_ok (by omega) (by omega), nI_clamp (by omega), hK.2.1 k hk, hK.2.2.1 k hk]
    rcases posneg b with hb | ⟨n, hn, rfl⟩
    · rw [if_neg (show ¬ b = 0 from neg_ne (n := 0) hb (by omega)), if_neg (show ¬ b = 1 from neg_ne (n := 1) hb (by omega)), show fX11_in gR b 0 1 = some 0 from in_neg (lo := 0) hb (by omega), wBd_e, if_pos rfl]
      exact ⟨_, rfl, rfl⟩
    · rw [show fX11_in gR (nI n) 0 1 = some (if 0 ≤ n ∧ n ≤ 1 then 1 else 0) from in_ev (lo := 0) (hi := 1) hn (by omega) (by omega), wBd_e]
      by_cases c : n < 2
      · rw [if_pos (show 0 ≤ n ∧ n ≤ 1 by omega), if_neg c10]
        rcases (show n = 0 ∨ n = 1 by omega) with rfl | rfl
        · exact ⟨_, rfl, rfl⟩
        · exact ⟨_, rfl, rfl⟩
      · rw [if_neg (show ¬ (0 ≤ n ∧ n ≤ 1) by omega), if_pos rfl, if_neg (show ¬ nI n = 0 from nI_ne0 (by omega) hn), if_neg (show ¬ nI n = 1 from fun e => by rw [show (1 : Int32) = nI 1 from rfl, nI_eq hn (by omega)] at e; omega)]
        exact ⟨_, rfl, rfl⟩
  · rw [e1, e2, wBd_e, wBd_e, if_pos rfl]
    exact ⟨_, rfl, rfl⟩
theorem sr_trucks {gC gR : Mm} {nv nf ns : Nat} (h : PS 0 gC gR nv nf ns) (a b : Int32) : ∃ r, fX10_trucks gC a b = some r ∧ fX11_trucks gR a b = some r := by
  unfold fX10_trucks fX11_trucks
  rcases posneg a with ha | ⟨n, hn, rfl⟩
  · rw [if_pos ha, show fX11_in gR a 0 4 = some 0 from in_neg (lo := 0) ha (by omega), wBd_e, if_pos rfl]
    exact ⟨_, rfl, rfl⟩
  · rw [if_neg (nI_pos hn), show fX11_in gR (nI n) 0 4 = some (if 0 ≤ n ∧ n ≤ 4 then 1 else 0) from in_ev (lo := 0) (hi := 4) hn (by omega) (by omega), wBd_e]
    by_cases c : n < 5
    · have e47 : (470 : Int32) + nI n = nI (470 + n) := by simp only [li_0, li_1, li_2, li_3, li_4, li_5, li_6, li_7, li_8, li_9, li_10, li_11, li_12, li_13, li_14, li_15, li_16, li_17, li_18, li_19, li_30, li_32, li_40, li_41, li_42, li_43, li_45, li_48, li_57, li_59, li_60, li_61, li_63, li_97, li_99, li_122, li_160, li_200, li_255, li_256, li_257, li_258, li_259, li_360, li_460, li_462, li_470, li_475, li_480, li_481, li_482, li_483, li_484, li_490, li_496, li_510, li_999, li_9999, li_10000, li_10008, li_10009, li_10010, li_10011, li_10012, li_10013, li_10014, li_10015, li_10016, li_100000, nI_add]
      have e48 : (475 : Int32) + nI n = nI (475 + n) := by simp only [li_0, li_1, li_2, li_3, li_4, li_5, li_6, li_7, li_8, li_9, li_10, li_11, li_12, li_13, li_14, li_15, li_16, li_17, li_18, li_19, li_30, li_32, li_40, li_41, li_42, li_43, li_45, li_48, li_57, li_59, li_60, li_61, li_63, li_97, li_99, li_122, li_160, li_200, li_255, li_256, li_257, li_258, li_259, li_360, li_460, li_462, li_470, li_475, li_480, li_481, li_482, li_483, li_484, li_490, li_496, li_510, li_999, li_9999, li_10000, li_10008, li_10009, li_10010, li_10011, li_10012, li_10013, li_10014, li_10015, li_10016, li_100000, nI_add]
      rw [if_pos (show nI n < (5 : Int32) from nI_lt (b := 5) c (by omega)), if_pos (show 0 ≤ n ∧ n ≤ 4 by omega), if_neg c10, wGi_ok (by omega) (by omega), wGi_ok (by omega) (by omega), nI_clamp (by omega), e47, e48, wGi_ok (by omega) (by omega), wGi_ok (by omega) (by omega), nI_clamp (by omega), nI_clamp (by omega), h.e10s c, h.e11s c]
      by_cases q0 : b = 0
      · rw [if_pos q0]
        exact ⟨_, rfl, rfl⟩
      rw [if_neg q0]
      by_cases q1 : b = 1
      · rw [if_pos q1]
        exact ⟨_, rfl, rfl⟩
      rw [if_neg q1]
      exact ⟨_, rfl, rfl⟩
    · rw [if_neg (show ¬ nI n < (5 : Int32) from nI_nlt (b := 5) (by omega) hn), if_neg (show ¬ (0 ≤ n ∧ n ≤ 4) by omega), if_pos rfl]
      exact ⟨_, rfl, rfl⟩
theorem sr_count {gC gR : Mm} {nv nf ns : Nat} (h : R3 gC gR nv nf ns) (b : Int32) : ∃ r, fX10_count gC b = some r ∧ fX11_count gR b = some r := by
  have hP := h.1
  obtain ⟨l, l1, l2⟩ := lateAll_pr hP
  obtain ⟨m, m1, m2⟩ := missed_pr hP
  obtain ⟨nt, t, -, -, t1, t2, t3, t4, -, -⟩ := h.2.2.2.1
  obtain ⟨k, -, k1, k2, -⟩ := h.2.2.2.2.1
  obtain ⟨ne, -, e1, e2, -⟩ := h.2.2.2.2.2.1
  have idx : ∀ (x n : Nat), x < 510 → n = x → ∀ (f : Option Int32), wGi (nI n) 510 f = f ∧ (nI n).toNatClampNeg = x := fun x n hx e f => by
    subst e; exact ⟨wGi_ok hx (by omega), nI_clamp (by omega)⟩
  unfold fX10_count fX11_count
  by_cases q0 : b = 0
  · rw [if_pos q0, if_pos q0]
    have i : ∀ f : Option Int32, wGi (480 : Int32) 510 f = f := fun f => wGi_ok (n := 480) (by omega) (by omega)
    have c : (480 : Int32).toNatClampNeg = 480 := nI_clamp (n := 480) (by omega)
    rw [i, c, hP.e9]
    exact ⟨_, rfl, rfl⟩
  rw [if_neg q0, if_neg q0]
  by_cases q1 : b = 1
  · rw [if_pos q1, if_pos q1]
    rw [hP.1.2.1, hP.2.1.1]
    exact ⟨_, rfl, rfl⟩
  rw [if_neg q1, if_neg q1]
  by_cases q2 : b = 2
  · rw [if_pos q2, if_pos q2]
    rw [hP.1.1, hP.2.1.2.2]
    exact ⟨_, rfl, rfl⟩
  rw [if_neg q2, if_neg q2]
  by_cases q3 : b = 3
  · rw [if_pos q3, if_pos q3]
    rw [hP.1.2.2, hP.2.1.2.1]
    exact ⟨_, rfl, rfl⟩
  rw [if_neg q3, if_neg q3]
  by_cases q4 : b = 4
  · rw [if_pos q4, if_pos q4]
    rw [t1, t2]
    exact ⟨_, rfl, rfl⟩
  rw [if_neg q4, if_neg q4]
  by_cases q5 : b = 5
  · rw [if_pos q5, if_pos q5]
    rw [t3, t4]
    exact ⟨_, rfl, rfl⟩
  rw [if_neg q5, if_neg q5]
  by_cases q6 : b = 6
  · rw [if_pos q6, if_pos q6]
    rw [k1, k2]
    exact ⟨_, rfl, rfl⟩
  rw [if_neg q6, if_neg q6]
  by_cases q7 : b = 7
  · rw [if_pos q7, if_pos q7]
    rw [e1, e2]
    exact ⟨_, rfl, rfl⟩
  rw [if_neg q7, if_neg q7]
  by_cases q8 : b = 8
  · rw [if_pos q8, if_pos q8]
    rw [l1, l2, wBd_e]
    exact ⟨_, rfl, rfl⟩
  rw [if_neg q8, if_neg q8]
  by_cases q9 : b = 9
  · rw [if_pos q9, if_pos q9]
    rw [m1, m2, wBd_e]
    exact ⟨_, rfl, rfl⟩
  rw [if_neg q9, if_neg q9]
  by_cases q10 : b = 10
  · rw [if_pos q10, if_pos q10]
    have i : ∀ f : Option Int32, wGi (483 : Int32) 510 f = f := fun f => wGi_ok (n := 483) (by omega) (by omega)
    have c : (483 : Int32).toNatClampNeg = 483 := nI_clamp (n := 483) (by omega)
    have i9 : ∀ f : Option Int32, wGi (7 : Int32) 9 f = f := fun f => wGi_ok (n := 7) (by omega) (by omega)
    have c9 : (7 : Int32).toNatClampNeg = 7 := nI_clamp (n := 7) (by omega)
    rw [i, c, i9, c9]
    exact ⟨_, congrArg some hP.e10_7, rfl⟩
  rw [if_neg q10, if_neg q10]
  by_cases q11 : b = 11
  · rw [if_pos q11, if_pos q11]
    have i : ∀ f : Option Int32, wGi (481 : Int32) 510 f = f := fun f => wGi_ok (n := 481) (by omega) (by omega)
    have c : (481 : Int32).toNatClampNeg = 481 := nI_clamp (n := 481) (by omega)
    have i9 : ∀ f : Option Int32, wGi (5 : Int32) 9 f = f := fun f => wGi_ok (n := 5) (by omega) (by omega)
    have c9 : (5 : Int32).toNatClampNeg = 5 := nI_clamp (n := 5) (by omega)
    rw [i, c, i9, c9]
    exact ⟨_, congrArg some hP.e10_5, rfl⟩
  rw [if_neg q11, if_neg q11]
  by_cases q12 : b = 12
  · rw [if_pos q12, if_pos q12]
    have i : ∀ f : Option Int32, wGi (482 : Int32) 510 f = f := fun f => wGi_ok (n := 482) (by omega) (by omega)
    have c : (482 : Int32).toNatClampNeg = 482 := nI_clamp (n := 482) (by omega)
    have i9 : ∀ f : Option Int32, wGi (6 : Int32) 9 f = f := fun f => wGi_ok (n := 6) (by omega) (by omega)
    have c9 : (6 : Int32).toNatClampNeg = 6 := nI_clamp (n := 6) (by omega)
    rw [i, c, i9, c9]
    exact ⟨_, congrArg some hP.e10_6, rfl⟩
  rw [if_neg q12, if_neg q12]
  by_cases q13 : b = 13
  · rw [if_pos q13, if_pos q13]
    have i : ∀ f : Option Int32, wGi (484 : Int32) 510 f = f := fun f => wGi_ok (n := 484) (by omega) (by omega)
    have c : (484 : Int32).toNatClampNeg = 484 := nI_clamp (n := 484) (by omega)
    have i9 : ∀ f : Option Int32, wGi (8 : Int32) 9 f = f := fun f => wGi_ok (n := 8) (by omega) (by omega)
    have c9 : (8 : Int32).toNatClampNeg = 8 := nI_clamp (n := 8) (by omega)
    rw [i, c, i9, c9]
    exact ⟨_, congrArg some hP.e10_8, rfl⟩
  rw [if_neg q13, if_neg q13]
  exact ⟨_, rfl, rfl⟩
theorem bit12 : ∀ m, m < 4096 → ∀ v, v < 12 → (((nI m >>> (nI v &&& nI 31)) &&& nI 1 = nI 1) ↔ m.testBit v = true) := fun m hm v hv => by
  have e : (nI v &&& nI 31).toBitVec.smod 32#32 = BitVec.ofNat 32 v := by
    rcases (show v = 0 ∨ v = 1 ∨ v = 2 ∨ v = 3 ∨ v = 4 ∨ v = 5 ∨ v = 6 ∨ v = 7 ∨ v = 8 ∨ v = 9 ∨ v = 10 ∨ v = 11 by omega) with rfl | rfl | rfl | rfl | rfl | rfl | rfl | rfl | rfl | rfl | rfl | rfl <;> decide
  have e1 : (nI m >>> (nI v &&& nI 31)).toBitVec = (nI m).toBitVec.sshiftRight v := by
    show (nI m).toBitVec.sshiftRight' ((nI v &&& nI 31).toBitVec.smod 32#32) = _
    rw [e, BitVec.sshiftRight_eq', BitVec.toNat_ofNat, Nat.mod_eq_of_lt (by omega)]
  have o : (nI 1).toBitVec = 1#32 := rfl
  have em : (nI m).toBitVec.getLsbD v = m.testBit v := by
    show (BitVec.ofNat 32 m).getLsbD v = _
    rw [BitVec.getLsbD_ofNat]
    simp [show v < 32 by omega]
  rw [← Int32.toBitVec_inj, Int32.toBitVec_and, e1, o]
  constructor
  · intro h
    have h := congrArg (fun z => z.getLsbD 0) h
    rw [BitVec.getLsbD_and, BitVec.getLsbD_sshiftRight] at h
    have z : (1#32).getLsbD 0 = true := by decide
    rw [z, Bool.and_true, if_pos (by omega), Nat.add_zero, em] at h
    simpa using h
  · intro h
    refine BitVec.eq_of_getLsbD_eq fun i hi => ?_
    rw [BitVec.getLsbD_and, BitVec.getLsbD_sshiftRight]
    by_cases i0 : i = 0
    · subst i0
      rw [if_pos (by omega), Nat.add_zero, em, h]
      decide
    · have z : (1#32).getLsbD i = false := by
        rw [BitVec.getLsbD_one]
        simp [i0]
      rw [z, Bool.and_false]
theorem pow12 {nv : Nat} (h : nv ≤ 12) : 2 ^ nv ≤ 4096 := Nat.pow_le_pow_right (n := 2) (by omega) h
theorem holds_ev {gC : Mm} {m v : Nat} (hm : m < 4096) (e : gC 23 0 0 0 = nI m) (hv : v < 12) : fX2_holds gC (nI v) = some (if m.testBit v = true then 1 else 0) := by
  have e31 : (31 : Int32) = nI 31 := rfl
  have b := bit12 m hm v hv
  unfold fX2_holds
  rw [if_neg (nI_pos (by omega)), if_neg (show ¬ (12 : Int32) ≤ nI v from nI_ge (b := 12) hv (by omega)), e, e31]
  by_cases c : m.testBit v = true
  · rw [if_pos c]; exact if_pos (b.mpr c)
  · rw [if_neg c]; exact if_neg fun q => c (b.mp q)
theorem sr_planned {gC gR : Mm} {nv nf ns : Nat} (h : R3 gC gR nv nf ns) (a : Int32) : ∃ r, fX10_planned gC a = some r ∧ fX11_planned gR a = some r := by
  have hv12 := h.1.nv12
  obtain ⟨m, m1, m2, m3, m4⟩ := h.2.2.2.2.2.2.1
  have hm : m < 4096 := Nat.lt_of_lt_of_le m1 (pow12 hv12)
  unfold fX10_planned fX11_planned
  rcases posneg a with ha | ⟨n, hn, rfl⟩
  · rw [show fX2_holds gC a = some 0 from if_pos ha, show fX11_in gR a 0 11 = some 0 from in_neg (lo := 0) ha (by omega), wBd_e, wBd_e, if_pos rfl]
    exact ⟨_, rfl, rfl⟩
  · rw [show fX11_in gR (nI n) 0 11 = some (if 0 ≤ n ∧ n ≤ 11 then 1 else 0) from in_ev (lo := 0) (hi := 11) hn (by omega) (by omega), wBd_e]
    by_cases c : n < 12
    · have b := bit12 m hm n c
      have e31 : (31 : Int32) = nI 31 := rfl
      rw [holds_ev hm m2 c, wBd_e, if_pos (show 0 ≤ n ∧ n ≤ 11 by omega), if_neg c10, m3, e31]
      by_cases d : m.testBit n = true
      · have hnv : n < nv := Decidable.byContradiction fun q => by
          have := Nat.testBit_lt_two_pow (x := m) (i := n) (Nat.lt_of_lt_of_le m1 (Nat.pow_le_pow_right (by omega) (by omega)))
          rw [this] at d
          exact Bool.noConfusion d
        obtain ⟨k1, k2⟩ := m4 n hnv d
        rw [if_pos d, if_neg c10, if_pos (show (nI m >>> (nI n &&& nI 31)) &&& (1 : Int32) = 1 from b.mpr d), wGi_ok (by omega) (by omega), nI_clamp (by omega), ← k1]
        unfold fX2_wishOf
        by_cases f : nI n = gC 23 0 0 1
        · rw [if_pos f, if_pos f]; exact ⟨_, rfl, rfl⟩
        · rw [if_neg f, if_neg f]; exact ⟨_, rfl, rfl⟩
      · rw [if_neg d, if_pos rfl, if_neg (show ¬ (nI m >>> (nI n &&& nI 31)) &&& (1 : Int32) = 1 from fun q => d (b.mp q))]
        exact ⟨_, rfl, rfl⟩
    · have e0 : fX2_holds gC (nI n) = some 0 := by
        unfold fX2_holds
        rw [if_neg (nI_pos hn), if_pos (show (12 : Int32) ≤ nI n from nI_le (a := 12) (by omega) hn)]
      rw [e0, wBd_e, if_neg (show ¬ (0 ≤ n ∧ n ≤ 11) by omega), if_pos rfl, if_pos rfl]
      exact ⟨_, rfl, rfl⟩
