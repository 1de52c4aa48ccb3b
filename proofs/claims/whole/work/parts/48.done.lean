-- ===== an act ends: finish and isDoneNow =====
/-- behind the trucks: what the act does -/
theorem fin34_pr {i : Nat} {gC gR : Mm} {nv nf ns v a : Nat} (hi : i < 2) (h : PS i gC gR nv nf ns) (hv : v < nv) (ha : a < 8) (h7 : a ≠ 7) : ∃ gC' gR', fX4_finish_b34 gC i (nI v) (nI a) v = some gC' ∧ fX11_isDoneNow_b49 gR (nI v) (nI a) (nI (30 * v)) = some gR' ∧ TK i nv nf ns gC gR gC' gR' := by
  have hv12 := h.nv12
  obtain ⟨t, ht, et⟩ := h.2.2.2.2.1.2.1
  have e9 := h.e9
  unfold fX4_finish_b34 fX11_isDoneNow_b49
  by_cases c1 : a = 1
  · subst c1
    obtain ⟨a', b', r1, r2, r3⟩ := carts_pr h hv
    simp (disch := omega) only [li_0, li_1, li_2, li_3, li_4, li_5, li_6, li_7, li_8, li_9, li_10, li_11, li_12, li_13, li_14, li_15, li_16, li_17, li_18, li_19, li_30, li_32, li_40, li_41, li_42, li_43, li_45, li_48, li_57, li_59, li_60, li_61, li_63, li_97, li_99, li_122, li_160, li_200, li_255, li_256, li_257, li_258, li_259, li_360, li_460, li_462, li_470, li_475, li_480, li_481, li_482, li_483, li_484, li_490, li_496, li_510, li_999, li_9999, li_10000, li_10008, li_10009, li_10010, li_10011, li_10012, li_10013, li_10014, li_10015, li_10016, li_100000, wGi_ok, wGb_0, wGb_1, wLe_e, wBd_e, wB2_e, wEx_e, nI_mul, nI_add, nI_clamp, nI_leI, nI_ltI, nI_eq, nI_m1, if_true, r1, r2]
    exact ⟨_, _, rfl, rfl, r3⟩
  · by_cases c6 : a = 6
    · subst c6
      have q : ¬ (6 = 1) := by decide
      simp (disch := omega) only [li_0, li_1, li_2, li_3, li_4, li_5, li_6, li_7, li_8, li_9, li_10, li_11, li_12, li_13, li_14, li_15, li_16, li_17, li_18, li_19, li_30, li_32, li_40, li_41, li_42, li_43, li_45, li_48, li_57, li_59, li_60, li_61, li_63, li_97, li_99, li_122, li_160, li_200, li_255, li_256, li_257, li_258, li_259, li_360, li_460, li_462, li_470, li_475, li_480, li_481, li_482, li_483, li_484, li_490, li_496, li_510, li_999, li_9999, li_10000, li_10008, li_10009, li_10010, li_10011, li_10012, li_10013, li_10014, li_10015, li_10016, li_100000, wGi_ok, wGb_0, wGb_1, wLe_e, wBd_e, wB2_e, wEx_e, nI_mul, nI_add, nI_clamp, nI_leI, nI_ltI, nI_eq, nI_m1, if_true, if_neg q, e9, et]
      refine ⟨_, _, rfl, rfl, h.iced hv ht, FrC.rf.st ?_, FrR.rf.st (Or.inl rfl)⟩
      unfold wrC; omega
    · simp (disch := omega) only [li_0, li_1, li_2, li_3, li_4, li_5, li_6, li_7, li_8, li_9, li_10, li_11, li_12, li_13, li_14, li_15, li_16, li_17, li_18, li_19, li_30, li_32, li_40, li_41, li_42, li_43, li_45, li_48, li_57, li_59, li_60, li_61, li_63, li_97, li_99, li_122, li_160, li_200, li_255, li_256, li_257, li_258, li_259, li_360, li_460, li_462, li_470, li_475, li_480, li_481, li_482, li_483, li_484, li_490, li_496, li_510, li_999, li_9999, li_10000, li_10008, li_10009, li_10010, li_10011, li_10012, li_10013, li_10014, li_10015, li_10016, li_100000, wGi_ok, wGb_0, wGb_1, wLe_e, wBd_e, wB2_e, wEx_e, nI_mul, nI_add, nI_clamp, nI_leI, nI_ltI, nI_eq, nI_m1, if_neg c1, if_neg c6, if_neg h7]
      exact ⟨_, _, rfl, rfl, TK.rf h⟩
theorem fin7_pr {i : Nat} {gC gR : Mm} {nv nf ns v s : Nat} {p : Nat → Int32} (hi : i < 2) (h : PS0 i gC gR nv nf ns) (hv : v < nv) (hs : s < ns) (hp : PI p nv nf ns) (e8 : gR 1 0 0 (30 * v + 8) = nI s) (e18 : gR 1 0 0 (30 * v + 18) = nI 0) (e : ∀ m, piI nv nf m → m ≠ 30 * v + 18 → m ≠ 30 * v + 9 → gR 1 0 0 m = p m) :
    ∃ gC' gR', fX4_finish_b34 gC i (nI v) (nI 7) v = some gC' ∧ fX11_isDoneNow_b49 gR (nI v) (nI 7) (nI (30 * v)) = some gR' ∧ TK i nv nf ns gC gR gC' gR' := by
  obtain ⟨hv12, hf16, hs6⟩ := h.2.2.2.2.1
  have v8 : gC 19 i v 8 = nI s := (h.2.2.1 19 v 8 _ (ix_v8 hv)).trans e8
  have k1 := h.set (x := -nI 1) (ix_e13 (nv := nv) (nf := nf) hs)
  have k2 := k1.set (x := -nI 1) (ix_v8 (nf := nf) (ns := ns) hv)
  have k3 := k2.set (x := nI 5) (ix_v6 (nf := nf) (ns := ns) hv)
  have w9 := k2.2.2.1 9 0 0 _ ix_e9
  have k4 := k3.set (x := (st (st gR 1 0 0 (496 + s) (-nI 1)) 1 0 0 (30 * v + 8) (-nI 1)) 1 0 0 480) (ix_v7 (nf := nf) (ns := ns) hv)
  have n71 : ¬ (7 = 1) := by decide
  have n76 : ¬ (7 = 6) := by decide
  have r8 : st gR 1 0 0 (496 + s) (-nI 1) 1 0 0 (30 * v + 8) = nI s := (st_ne (by omega)).trans e8
  have z1 : st gC 13 i 0 s (-nI 1) 9 i 0 1 = nI ns := k1.1.1
  have hh := hst_ev (g := gC) (i := i) (v := s) h.1.1 (by omega) (by omega)
  unfold fX4_finish_b34 fX11_isDoneNow_b49 fX4_finish_b91
  simp (disch := omega) only [li_0, li_1, li_2, li_3, li_4, li_5, li_6, li_7, li_8, li_9, li_10, li_11, li_12, li_13, li_14, li_15, li_16, li_17, li_18, li_19, li_30, li_32, li_40, li_41, li_42, li_43, li_45, li_48, li_57, li_59, li_60, li_61, li_63, li_97, li_99, li_122, li_160, li_200, li_255, li_256, li_257, li_258, li_259, li_360, li_460, li_462, li_470, li_475, li_480, li_481, li_482, li_483, li_484, li_490, li_496, li_510, li_999, li_9999, li_10000, li_10008, li_10009, li_10010, li_10011, li_10012, li_10013, li_10014, li_10015, li_10016, li_100000, wGi_ok, wGb_0, wGb_1, wLe_e, wBd_e, wB2_e, wEx_e, nI_mul, nI_add, nI_clamp, nI_leI, nI_ltI, nI_eq, nI_m1, if_true, if_neg n71, if_neg n76, v8, e8, r8, hh, if_pos hs]
  rw [w9]
  unfold fX9_enter fX11_becomes
  simp (disch := omega) only [li_0, li_1, li_2, li_3, li_4, li_5, li_6, li_7, li_8, li_9, li_10, li_11, li_12, li_13, li_14, li_15, li_16, li_17, li_18, li_19, li_30, li_32, li_40, li_41, li_42, li_43, li_45, li_48, li_57, li_59, li_60, li_61, li_63, li_97, li_99, li_122, li_160, li_200, li_255, li_256, li_257, li_258, li_259, li_360, li_460, li_462, li_470, li_475, li_480, li_481, li_482, li_483, li_484, li_490, li_496, li_510, li_999, li_9999, li_10000, li_10008, li_10009, li_10010, li_10011, li_10012, li_10013, li_10014, li_10015, li_10016, li_100000, wGi_ok, wGb_0, wGb_1, wLe_e, wBd_e, wB2_e, wEx_e, nI_mul, nI_add, nI_clamp, nI_leI, nI_ltI, nI_eq, nI_m1]
  have w480 : st (st (st gR 1 0 0 (496 + s) (-nI 1)) 1 0 0 (30 * v + 8) (-nI 1)) 1 0 0 (30 * v + 6) (nI 5) 1 0 0 480 = st (st gR 1 0 0 (496 + s) (-nI 1)) 1 0 0 (30 * v + 8) (-nI 1) 1 0 0 480 := st_ne (by omega)
  rw [w480]
  refine ⟨_, _, rfl, rfl, k4.full ?_, ?_, ?_⟩
  · rw [st_p, st_p, st_p, st_p]
    refine hp.pushed hv hs (fun m hm a1 a2 a3 a4 a5 => ?_) ?_ ?_ ?_ ?_
    · have a6 : m ≠ 30 * v + 7 := by
        rintro rfl
        unfold piI at hm
        rcases hm with q | q | q | q | q | ⟨v', q1, q2⟩ | ⟨f, q1, q2⟩ <;> omega
      rw [upd_n a6, upd_n a4, upd_n a3, upd_n a5]
      exact e m hm a1 a2
    · rw [upd_n (by omega), upd_n (by omega), upd_n (by omega), upd_n (by omega)]; exact e18
    · rw [upd_n (by omega), upd_n (by omega), upd_e]; rfl
    · rw [upd_n (by omega), upd_e]
    · rw [upd_n (by omega), upd_n (by omega), upd_n (by omega), upd_e]; rfl
  · exact (((FrC.rf.st (by unfold wrC; omega)).st (by unfold wrC; omega)).st (by unfold wrC; omega)).st (by unfold wrC; omega)
  · exact (((FrR.rf.st (Or.inl rfl)).st (Or.inl rfl)).st (Or.inl rfl)).st (Or.inl rfl)
theorem neg_sv {k : Nat} (h : k < 2 ^ 31) : (nI k < nI 0) = False := eq_false (nI_pos h)
/-- (2): an act ends -/
theorem finish_pr {i : Nat} {gC gR : Mm} {nv nf ns v a m : Nat} (hi : i < 2) (h : PS i gC gR nv nf ns) (hv : v < nv) (ha : a < 8) (hm : m < 256) (em : gC 19 i v 10 = nI m) (el : gR 1 0 0 (30 * v + 11 + a) = nI 1) :
    ∃ gC' gR', fX4_finish (st gC 20 i v a (nI 0)) i (nI v) (nI a) = some gC' ∧ fX11_isDoneNow (st gR 1 0 0 (30 * v + 11 + a) (nI 0)) (nI v) (nI a) = some gR' ∧ TK i nv nf ns gC gR gC' gR' := by
  have hv12 := h.nv12
  have hf16 := h.nf16
  have hs6 := h.ns6
  obtain ⟨q1, q2, q3⟩ := bit_off m hm a ha
  have s1 := h.s0.ends hv ha hm em
  have f1 : FrC i nv nf gC (st (st gC 20 i v a (nI 0)) 19 i v 10 (nI (m &&& (255 - 2 ^ a)))) := (FrC.rf.st (by unfold wrC; omega)).st (by unfold wrC; omega)
  have r9 := s1.2.2.1 19 v 9 _ (ix_v9 (nf := nf) (ns := ns) hv)
  have s2 := s1.set (x := (st gR 1 0 0 (30 * v + 11 + a) (nI 0)) 1 0 0 (30 * v + 9) ||| (nI 1 <<< (nI a &&& nI 31))) (ix_v9 (nf := nf) (ns := ns) hv)
  have f2 := f1.st (t := 19) (i' := i) (v := v) (j := 9) (x := (st gR 1 0 0 (30 * v + 11 + a) (nI 0)) 1 0 0 (30 * v + 9) ||| (nI 1 <<< (nI a &&& nI 31))) (by unfold wrC; omega)
  have E1 : fX9_endAct (st gC 20 i v a (nI 0)) i v (nI a) = some (st (st (st gC 20 i v a (nI 0)) 19 i v 10 (nI (m &&& (255 - 2 ^ a)))) 19 i v 9 ((st gR 1 0 0 (30 * v + 11 + a) (nI 0)) 1 0 0 (30 * v + 9) ||| (nI 1 <<< (nI a &&& nI 31)))) := by
    have b1 : st gC 20 i v a (nI 0) 19 i v 10 &&& (((1 : Int32) <<< (nI a &&& 31)) ^^^ (-1 : Int32)) = nI (m &&& (255 - 2 ^ a)) := by
      rw [st_ne (by omega), em]
      exact q1
    unfold fX9_endAct
    rw [wLe_e, wLe_e, b1, r9]
    rfl
  have p2 : st (st gR 1 0 0 (30 * v + 11 + a) (nI 0)) 1 0 0 (30 * v + 9) ((st gR 1 0 0 (30 * v + 11 + a) (nI 0)) 1 0 0 (30 * v + 9) ||| (nI 1 <<< (nI a &&& nI 31))) 1 0 0 = upd (upd (gR 1 0 0) (30 * v + 11 + a) (nI 0)) (30 * v + 9) (gR 1 0 0 (30 * v + 9) ||| (nI 1 <<< (nI a &&& nI 31))) := by
    rw [st_p, st_p, upd_n (by omega)]
  have g2 : FrR gR (st (st gR 1 0 0 (30 * v + 11 + a) (nI 0)) 1 0 0 (30 * v + 9) ((st gR 1 0 0 (30 * v + 11 + a) (nI 0)) 1 0 0 (30 * v + 9) ||| (nI 1 <<< (nI a &&& nI 31)))) := (FrR.rf.st (Or.inl rfl)).st (Or.inl rfl)
  have E2 : fX11_isDoneNow (st gR 1 0 0 (30 * v + 11 + a) (nI 0)) (nI v) (nI a) = (fun g5 : Mm => wGi (nI a) 8 (if (g5 16 0 0 a) = (-1 : Int32) then (fX11_isDoneNow_b49 g5 (nI v) (nI a) (nI (30 * v))) else (wGi ((475 : Int32) + (g5 16 0 0 a)) 510 (wLe (st g5 1 0 0 ((475 : Int32) + (g5 16 0 0 a)).toNatClampNeg ((g5 1 0 0 ((475 : Int32) + (g5 16 0 0 a)).toNatClampNeg) - (1 : Int32))) fun g48 => fX11_isDoneNow_b49 g48 (nI v) (nI a) (nI (30 * v))))))
      (st (st gR 1 0 0 (30 * v + 11 + a) (nI 0)) 1 0 0 (30 * v + 9) ((st gR 1 0 0 (30 * v + 11 + a) (nI 0)) 1 0 0 (30 * v + 9) ||| (nI 1 <<< (nI a &&& nI 31)))) := by
    have kr := s2.2.2.2.2.2.2.2.2.1 a ha
    have d1 : st gR 1 0 0 (30 * v + 11 + a) (nI 0) 16 0 0 a = gR 16 0 0 a := st_ne (by omega)
    unfold fX11_isDoneNow
    simp (disch := omega) only [li_31, li_0, li_1, li_2, li_3, li_4, li_5, li_6, li_7, li_8, li_9, li_10, li_11, li_12, li_13, li_14, li_15, li_16, li_17, li_18, li_19, li_30, li_32, li_40, li_41, li_42, li_43, li_45, li_48, li_57, li_59, li_60, li_61, li_63, li_97, li_99, li_122, li_160, li_200, li_255, li_256, li_257, li_258, li_259, li_360, li_460, li_462, li_470, li_475, li_480, li_481, li_482, li_483, li_484, li_490, li_496, li_510, li_999, li_9999, li_10000, li_10008, li_10009, li_10010, li_10011, li_10012, li_10013, li_10014, li_10015, li_10016, li_100000, wGi_ok, wGb_0, wGb_1, wLe_e, wBd_e, wB2_e, wEx_e, nI_mul, nI_add, nI_clamp, nI_leI, nI_ltI, nI_eq, nI_m1]
    rcases sv7 a ha with c | ⟨k, hk, c⟩
    · have c : sV 7 a = -nI 1 := c
      simp only [kr, c, if_true]
    · simp (disch := omega) only [kr, c, wGi_ok, wGb_0, wGb_1, wLe_e, wBd_e, wB2_e, wEx_e, nI_mul, nI_add, nI_clamp, nI_leI, nI_ltI, nI_eq, nI_m1, m1_nI, nI_m1', if_false]
  rw [E2]
  unfold fX4_finish
  rw [wGi_ok (by omega) (by omega), nI_clamp (by omega), E1, wBd_e, truck_ev ha, wBd_e]
  have kr := s2.2.2.2.2.2.2.2.2.1 a ha
  generalize hC2 : st (st (st gC 20 i v a (nI 0)) 19 i v 10 (nI (m &&& (255 - 2 ^ a)))) 19 i v 9 ((st gR 1 0 0 (30 * v + 11 + a) (nI 0)) 1 0 0 (30 * v + 9) ||| (nI 1 <<< (nI a &&& nI 31))) = gC2 at s2 f2 E1 ⊢
  generalize hR2 : st (st gR 1 0 0 (30 * v + 11 + a) (nI 0)) 1 0 0 (30 * v + 9) ((st gR 1 0 0 (30 * v + 11 + a) (nI 0)) 1 0 0 (30 * v + 9) ||| (nI 1 <<< (nI a &&& nI 31))) = gR2 at s2 g2 p2 kr ⊢
  -- what comes behind the trucks
  have tail : ∀ gC3 gR3, PS0 i gC3 gR3 nv nf ns → FrC i nv nf gC gC3 → FrR gR gR3 → (∀ n, n < 475 ∨ 480 ≤ n → gR3 1 0 0 n = gR2 1 0 0 n) →
      ∃ gC' gR', fX4_finish_b34 gC3 i (nI v) (nI a) v = some gC' ∧ fX11_isDoneNow_b49 gR3 (nI v) (nI a) (nI (30 * v)) = some gR' ∧ TK i nv nf ns gC gR gC' gR' := by
    intro gC3 gR3 t1 t2 t3 t4
    have out : ∀ n, piI nv nf n → n < 475 ∨ 480 ≤ n := fun n hn => by
      unfold piI at hn
      rcases hn with q | q | q | q | q | ⟨v', q1, q2⟩ | ⟨f, q1, q2⟩ <;> omega
    by_cases c7 : a = 7
    · subst c7
      obtain ⟨g1, -, g3⟩ := h.2.2.2.2.1.2.2.2.2.2.2.1 v hv
      have s4 : gR 1 0 0 (30 * v + 6) = nI 4 := g3 (by
        have el : gR 1 0 0 (30 * v + 18) = nI 1 := el
        rw [el]; decide)
      obtain ⟨s, hs, es⟩ := g1 4 (by omega) (by omega) s4
      obtain ⟨a', b', r1, r2, r3⟩ := fin7_pr (p := gR 1 0 0) hi t1 hv hs h.2.2.2.2.1
        (by rw [t4 _ (by omega), p2, upd_n (by omega), upd_n (by omega)]; exact es)
        (by rw [t4 _ (by omega), p2, upd_n (by omega), show 30 * v + 18 = 30 * v + 11 + 7 from rfl, upd_e])
        (fun n hn b1 b2 => by rw [t4 _ (out n hn), p2, upd_n b2, upd_n (by omega)])
      exact ⟨a', b', r1, r2, r3.1, t2.tr r3.2.1, t3.tr r3.2.2⟩
    · have pp : PI (gR3 1 0 0) nv nf ns := (h.2.2.2.2.1.done (a := a) hv (by omega)).congr fun n hn => by rw [t4 _ (out n hn), p2]
      obtain ⟨a', b', r1, r2, r3⟩ := fin34_pr hi (t1.full pp) hv ha c7
      exact ⟨a', b', r1, r2, r3.1, t2.tr r3.2.1, t3.tr r3.2.2⟩
  dsimp only
  rw [wGi_ok (by omega) (by omega), kr]
  rcases sv7 a ha with c | ⟨k, hk, c⟩
  · rw [c, if_pos (by decide), if_pos rfl]
    exact tail gC2 gR2 s2 f2 g2 (fun _ _ => rfl)
  · have u := s2.2.2.1 11 0 k _ (ix_e11s hk)
    have s3 := s2.set (x := gR2 1 0 0 (475 + k) - nI 1) (ix_e11s (nv := nv) (nf := nf) (ns := ns) hk)
    rw [c]
    have z1 : ¬ nI k < 0 := nI_pos (by omega)
    have z2 : ¬ nI k = (-1 : Int32) := fun e => (nI_m1 (by omega)).mp e
    rw [if_neg z1, if_neg z2]
    simp (disch := omega) only [li_0, li_1, li_2, li_3, li_4, li_5, li_6, li_7, li_8, li_9, li_10, li_11, li_12, li_13, li_14, li_15, li_16, li_17, li_18, li_19, li_30, li_32, li_40, li_41, li_42, li_43, li_45, li_48, li_57, li_59, li_60, li_61, li_63, li_97, li_99, li_122, li_160, li_200, li_255, li_256, li_257, li_258, li_259, li_360, li_460, li_462, li_470, li_475, li_480, li_481, li_482, li_483, li_484, li_490, li_496, li_510, li_999, li_9999, li_10000, li_10008, li_10009, li_10010, li_10011, li_10012, li_10013, li_10014, li_10015, li_10016, li_100000, wGi_ok, wGb_0, wGb_1, wLe_e, wBd_e, wB2_e, wEx_e, nI_mul, nI_add, nI_clamp, nI_leI, nI_ltI, nI_eq, nI_m1]
    rw [u]
    refine tail _ _ s3 (f2.st (by unfold wrC; omega)) (g2.st (Or.inl rfl)) fun n hn => st_ne (by omega)
