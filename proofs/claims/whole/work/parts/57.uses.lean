-- ===== (6): ready, and who uses a runway =====
theorem not_lt64 {t e : Int32} {x : Int64} (h : t < e) (hx : ∃ y : Int32, 0 ≤ y ∧ x = y.toInt64) : lg_cmp t.toInt64 (e.toInt64 + x) < 0 := by
  obtain ⟨y, hy, rfl⟩ := hx
  rw [lg_cmp_lt, Int64.lt_iff_toInt_lt, add64, Int32.toInt_toInt64]
  have h := Int32.lt_iff_toInt_lt.mp h
  have hy := Int32.le_iff_toInt_le.mp hy
  have e0 : (0 : Int32).toInt = 0 := rfl
  omega
theorem at0_ge (y : Int32) : (0 : Int32) ≤ if (0 : Int32) < y then y else 0 := by
  by_cases c : (0 : Int32) < y
  · rw [if_pos c]; exact Int32.le_of_lt c
  · rw [if_neg c]; decide
section RDY
variable {i nv nf ns v r : Nat} {g1 g2 : Mm}
theorem idx2 {β : Type} (hr : r < 2) (f : Option β) : (wGi ((460 : Int32) + nI r) 510 f = f ∧ wGi ((462 : Int32) + nI r) 510 f = f) ∧ ((460 : Int32) + nI r).toNatClampNeg = 460 + r ∧ ((462 : Int32) + nI r).toNatClampNeg = 462 + r := by
  have e2 : (460 : Int32) + nI r = nI (460 + r) := by simp only [li_0, li_1, li_2, li_3, li_4, li_5, li_6, li_7, li_8, li_9, li_10, li_11, li_12, li_13, li_14, li_15, li_16, li_17, li_18, li_19, li_30, li_32, li_40, li_41, li_42, li_43, li_45, li_48, li_57, li_59, li_60, li_61, li_63, li_97, li_99, li_122, li_160, li_200, li_255, li_256, li_257, li_258, li_259, li_360, li_460, li_462, li_470, li_475, li_480, li_481, li_482, li_483, li_484, li_490, li_496, li_510, li_999, li_9999, li_10000, li_10008, li_10009, li_10010, li_10011, li_10012, li_10013, li_10014, li_10015, li_10016, li_100000, nI_add]
  have e3 : (462 : Int32) + nI r = nI (462 + r) := by simp only [li_0, li_1, li_2, li_3, li_4, li_5, li_6, li_7, li_8, li_9, li_10, li_11, li_12, li_13, li_14, li_15, li_16, li_17, li_18, li_19, li_30, li_32, li_40, li_41, li_42, li_43, li_45, li_48, li_57, li_59, li_60, li_61, li_63, li_97, li_99, li_122, li_160, li_200, li_255, li_256, li_257, li_258, li_259, li_360, li_460, li_462, li_470, li_475, li_480, li_481, li_482, li_483, li_484, li_490, li_496, li_510, li_999, li_9999, li_10000, li_10008, li_10009, li_10010, li_10011, li_10012, li_10013, li_10014, li_10015, li_10016, li_100000, nI_add]
  rw [e2, e3]
  exact ⟨⟨wGi_ok (by omega) (by omega), wGi_ok (by omega) (by omega)⟩, nI_clamp (by omega), nI_clamp (by omega)⟩
/-- ahead of its end nobody is ready -/
theorem notReady_pr (h : PS i g1 g2 nv nf ns) (hr : RS i g1 g2) (hb : VB i g1 nv) (hv : v < nv) (hr2 : r < 2) (ht : g2 1 0 0 480 < g2 1 0 0 (460 + r)) : ∃ gR', fX11_isReady g2 (nI v) (nI r) = some (gR', 0) ∧ SR g2 gR' := by
  obtain ⟨z, z1, -, z3⟩ := could_pr h hv r
  rw [z3]
  by_cases z0 : z = 0
  · rw [if_pos z0]; exact ⟨g2, rfl, SR.rf⟩
  · rw [if_neg z0]
    have i480 : ∀ (β : Type) (f : Option β), wGi (480 : Int32) 510 f = f := fun β f => wGi_ok (n := 480) (by omega) (by omega)
    have c480 : (480 : Int32).toNatClampNeg = 480 := nI_clamp (n := 480) (by omega)
    obtain ⟨-, q3, q4⟩ := idx2 (β := Mm × Int32) hr2 none
    have q1 := fun f : Option (Mm × Int32) => (idx2 hr2 f).1.1
    have q2 := fun f : Option (Mm × Int32) => (idx2 hr2 f).1.2
    unfold fX11_isReady_b93 fX11_isReady_b143
    rw [q1, q3, wLe_e, q2, q4]
    by_cases c : g2 1 0 0 (462 + r) = -1
    · rw [if_pos c, wLe_e, i480, c480, if_pos (not_lt64 (x := 0) ht ⟨0, by decide, rfl⟩)]
      exact ⟨g2, rfl, SR.rf⟩
    · obtain ⟨y, n, gC1, gC', gR', a1, a2, a3, a4, a5, a6, a7, a8⟩ := ask_pr (q := 1) h hr hb hv (by omega) (g2 1 0 0 (462 + r))
      have e1 : (1 : Int32) = nI 1 := rfl
      rw [if_neg c, q2, e1, at0_ev a5, wB2_e, wLe_e, i480, c480, a8 1 (by decide), if_pos (not_lt64 ht ⟨_, at0_ge y, rfl⟩)]
      exact ⟨gR', rfl, a8⟩
theorem ready_pr (h : PS i g1 g2 nv nf ns) (hr : RS i g1 g2) (hb : VB i g1 nv) (hv : v < nv) (hr2 : r < 2) (ht : g2 1 0 0 (460 + r) ≤ g2 1 0 0 480) :
    ∃ z gC' gR', fX4_isReady g1 i (nI v) (nI r) = some (gC', z) ∧ fX11_isReady g2 (nI v) (nI r) = some (gR', z) ∧ SC g1 gC' ∧ SR g2 gR' ∧ (z = 0 ∨ (z = 1 ∧ Could g2 v)) := by
  obtain ⟨z, z1, z2, z3⟩ := could_pr h hv r
  rw [z2, z3]
  unfold fX4_isReady_b36
  by_cases z0 : z = 0
  · rw [if_pos z0, if_pos z0]; exact ⟨0, g1, g2, rfl, rfl, SC.rf, SR.rf, Or.inl rfl⟩
  · have hc : Could g2 v := by
      rcases z1 with q | q
      · exact (z0 q).elim
      · exact q.2
    rw [if_neg z0, if_neg z0]
    have hv12 := h.nv12
    have i480 : ∀ (β : Type) (f : Option β), wGi (480 : Int32) 510 f = f := fun β f => wGi_ok (n := 480) (by omega) (by omega)
    have c480 : (480 : Int32).toNatClampNeg = 480 := nI_clamp (n := 480) (by omega)
    obtain ⟨-, q3, q4⟩ := idx2 (β := Mm × Int32) hr2 none
    have q1 := fun f : Option (Mm × Int32) => (idx2 hr2 f).1.1
    have q2 := fun f : Option (Mm × Int32) => (idx2 hr2 f).1.2
    have e15 := h.e15 hr2
    have e14 := h.e14 hr2
    have e9 := h.e9
    unfold fX11_isReady_b93 fX11_isReady_b143
    rw [q1, q3, wLe_e, q2, q4, wGi_ok (by omega) (by omega), nI_clamp (by omega), e15]
    rcases h.2.2.2.2.1.2.2.2.1 r hr2 with c | ⟨n, hn, c⟩
    · rw [if_neg (show ¬ (0 : Int32) ≤ g2 1 0 0 (462 + r) by rw [c]; decide), if_pos c, wLe_e, i480, c480]
      have nl : ¬ lg_cmp (g2 1 0 0 480).toInt64 ((g2 1 0 0 (460 + r)).toInt64 + 0) < 0 := by
        rw [lg_cmp_lt, Int64.lt_iff_toInt_lt, show (0 : Int64) = (0 : Int32).toInt64 from rfl, add64, Int32.toInt_toInt64]
        have ht := Int32.le_iff_toInt_le.mp ht
        have e0 : (0 : Int32).toInt = 0 := rfl
        omega
      rw [if_neg nl]
      exact ⟨1, g1, g2, rfl, rfl, SC.rf, SR.rf, Or.inr ⟨rfl, hc⟩⟩
    · obtain ⟨y, m, gC1, gC', gR', a1, a2, a3, a4, a5, a6, a7, a8⟩ := ask_pr (q := 1) h hr hb hv (by omega) (g2 1 0 0 (462 + r))
      have e1 : (1 : Int32) = nI 1 := rfl
      have cn : ¬ g2 1 0 0 (462 + r) = -1 := by rw [c]; exact fun e => (nI_m1 (by omega)).mp e
      rw [if_pos (show (0 : Int32) ≤ g2 1 0 0 (462 + r) by rw [c]; exact nI_pos' (by omega)), if_neg cn, wGi_ok (by omega) (by omega), a2, wBd_e, wGi_ok (by omega) (by omega), a3, wGr_ok a1, e1, a4, wB2_e, wLe_e, q2, at0_ev a5, wB2_e, wLe_e, i480, c480, a8 1 (by decide), a7 9 (by decide) (by decide), a6 9 (by decide) (by decide), e9, a6 14 (by decide) (by decide), e14]
      by_cases d : lg_cmp (g2 1 0 0 480).toInt64 ((g2 1 0 0 (460 + r)).toInt64 + (if (0 : Int32) < y then y else 0).toInt64) < 0
      · rw [if_pos d, if_pos d]
        exact ⟨0, gC', gR', rfl, rfl, a6.tr a7, a8, Or.inl rfl⟩
      · rw [if_neg d, if_neg d]
        exact ⟨nI 1, gC', gR', rfl, rfl, a6.tr a7, a8, Or.inr ⟨rfl, hc⟩⟩
end RDY
/-- what hinders as it was, and none stands that didn't -/
def HK2 (gC gR gC' gR' : Mm) (i : Nat) : Prop := (∀ v', v' < 12 → gR' 1 0 0 (30 * v' + 6) = nI 4 → gR 1 0 0 (30 * v' + 6) = nI 4) ∧ (∀ v', gC' 19 i v' 11 = gC 19 i v' 11) ∧ gR' 21 = gR 21
theorem HK.to2 {gC gR gC' gR' : Mm} {i : Nat} (h : HK gC gR gC' gR' i) : HK2 gC gR gC' gR' i := ⟨fun v hv e => (h.1 v hv).symm.trans e, h.2⟩
theorem HK2.tr {gC gR gC1 gR1 gC2 gR2 : Mm} {i : Nat} (h : HK2 gC gR gC1 gR1 i) (h' : HK2 gC1 gR1 gC2 gR2 i) : HK2 gC gR gC2 gR2 i := ⟨fun v hv e => h.1 v hv (h'.1 v hv e), fun v => (h'.2.1 v).trans (h.2.1 v), h'.2.2.trans h.2.2⟩
theorem enter_ev {g : Mm} {i v : Nat} {a t : Int32} : fX9_enter g i v a t = some (st (st g 19 i v 6 a) 19 i v 7 t) := rfl
theorem becomes_ev {g : Mm} {v n : Nat} (hv : v < 12) : fX11_becomes g (nI v) (nI n) = some (st (st g 1 0 0 (30 * v + 6) (nI n)) 1 0 0 (30 * v + 7) (g 1 0 0 480)) := by
  unfold fX11_becomes
  simp (disch := omega) only [li_0, li_1, li_2, li_3, li_4, li_5, li_6, li_7, li_8, li_9, li_10, li_11, li_12, li_13, li_14, li_15, li_16, li_17, li_18, li_19, li_30, li_32, li_40, li_41, li_42, li_43, li_45, li_48, li_57, li_59, li_60, li_61, li_63, li_97, li_99, li_122, li_160, li_200, li_255, li_256, li_257, li_258, li_259, li_360, li_460, li_462, li_470, li_475, li_480, li_481, li_482, li_483, li_484, li_490, li_496, li_510, li_999, li_9999, li_10000, li_10008, li_10009, li_10010, li_10011, li_10012, li_10013, li_10014, li_10015, li_10016, li_100000, wGi_ok, wGb_0, wGb_1, wLe_e, wBd_e, wB2_e, wEx_e, nI_mul, nI_add, nI_clamp, nI_leI, nI_ltI, nI_eq, nI_m1]
  rw [st_ne (g := g) (t := 1) (i := 0) (v := 0) (j := 30 * v + 6) (t' := 1) (i' := 0) (v' := 0) (j' := 480) (by omega)]
/-- a new state that isn't standing -/
theorem leave_pr {i nv nf ns v n : Nat} {gC gR : Mm} (hi : i < 2) (h : PS i gC gR nv nf ns) (hv : v < nv) (hn : n ≤ 8) (h4 : n ≠ 4) (hp : PI (upd (gR 1 0 0) (30 * v + 6) (nI n)) nv nf ns) :
    ∃ gC' gR', fX9_enter gC i v (nI n) (gR 1 0 0 480) = some gC' ∧ fX11_becomes gR (nI v) (nI n) = some gR' ∧ TK i nv nf ns gC gR gC' gR' ∧ HK2 gC gR gC' gR' i ∧ (∀ m, m ≠ 30 * v + 6 → m ≠ 30 * v + 7 → gR' 1 0 0 m = gR 1 0 0 m) := by
  have hv12 := h.nv12
  obtain ⟨gC', gR', r1, r2, r3, r4⟩ := enter_pr hi h hv hp
  have s1 := r1
  have s2 := r2
  rw [enter_ev] at s1
  rw [becomes_ev (by omega)] at s2
  injection s1 with s1
  injection s2 with s2
  refine ⟨gC', gR', r1, r2, r3, ⟨fun v' hv' e => ?_, fun v' => ?_, ?_⟩, fun m m1 m2 => ?_⟩
  · rw [r4] at e
    by_cases q : v' = v
    · subst q
      rw [upd_n (by omega), upd_e, nI_eq (by omega) (by omega)] at e
      exact (h4 e).elim
    · rw [upd_n (by omega), upd_n (by omega)] at e
      exact e
  · rw [← s1, st_ne (by omega), st_ne (by omega)]
  · rw [← s2, st_kind (by decide), st_kind (by decide)]
  · rw [r4, upd_n m2, upd_n m1]
/-- the runway ends, and what was ahead -/
theorem ends_pr {i nv nf ns v r : Nat} {gC gR : Mm} (h : PS i gC gR nv nf ns) (hv : v < nv) (hr : r < 2) : ∃ gC' gR', fX4_giveRunway_b76 gC i (nI r) (nI v) v = some gC' ∧ fX11_uses_b134 gR (nI r) (nI v) = some gR' ∧ TK i nv nf ns gC gR gC' gR' ∧ HK gC gR gC' gR' i := by
  have hv12 := h.nv12
  have hf16 := h.nf16
  obtain ⟨⟨kd, hk6, hkd⟩, -⟩ := h.2.2.2.2.1.2.2.2.2.1 v hv
  have hkd' : gR 1 0 0 (30 * v + 0) = nI kd := hkd
  have v0 := h.v0 hv
  have e9 := h.e9
  have kr := h.2.2.2.2.2.2.2.1 kd hk6
  have i480 : ∀ (β : Type) (f : Option β), wGi (480 : Int32) 510 f = f := fun β f => wGi_ok (n := 480) (by omega) (by omega)
  have c480 : (480 : Int32).toNatClampNeg = 480 := nI_clamp (n := 480) (by omega)
  obtain ⟨-, q3, q4⟩ := idx2 (β := Mm) hr none
  have q1 := fun f : Option Mm => (idx2 hr f).1.1
  have q2 := fun f : Option Mm => (idx2 hr f).1.2
  have s1 := h.set (x := gR 1 0 0 480 + sV 4 kd) (ix_e14 (nv := nv) (nf := nf) (ns := ns) hr) (h.2.2.2.2.1.free (by unfold piI; rintro (q | q | q | q | q | ⟨v', q1, q2⟩ | ⟨f, q1, q2⟩) <;> omega))
  have s2 := s1.set (x := nI kd) (ix_e15 (nv := nv) (nf := nf) (ns := ns) hr) (s1.2.2.2.2.1.prev hr hk6)
  have z1 : st gC 14 i 0 r (gR 1 0 0 480 + sV 4 kd) 19 i v 0 = nI kd := (st_ne (by omega)).trans (v0.trans hkd)
  have z2 : st gR 1 0 0 (460 + r) (gR 1 0 0 480 + sV 4 kd) 1 0 0 (30 * v + 0) = nI kd := (st_ne (by omega)).trans hkd
  have e0 : (0 : Int32) = nI 0 := rfl
  unfold fX4_giveRunway_b76 fX11_uses_b134
  rw [v0, hkd, roll_ev hk6, wBd_e, wGi_ok (by omega) (by omega), nI_clamp (show r < 2 ^ 31 by omega), wLe_e, wGi_ok (by omega) (by omega), wLe_e, i480, c480, e0, of_ev gR (by omega), wBd_e, hkd', wGi_ok (by omega) (by omega), q1, q3, nI_clamp (show kd < 2 ^ 31 by omega), kr, wLe_e, of_ev _ (by omega), wBd_e, z2, q2, q4, wLe_e, e9, z1]
  refine ⟨_, _, rfl, rfl, ⟨s2, (FrC.rf.st (by unfold wrC; omega)).st (by unfold wrC; omega), (FrR.rf.st (Or.inl rfl)).st (Or.inl rfl)⟩, (HK.rf.st (Or.inl (by decide)) (by omega)).st (Or.inl (by decide)) (by omega)⟩
