-- ===== bits of what is done =====
theorem bitI {x : Int32} {b : Nat} (hb : b < 8) : ((x >>> (nI b &&& nI 31)) &&& nI 1 = nI 1) ↔ x.toBitVec.getLsbD b = true := by
  have e : (nI b &&& nI 31).toBitVec.smod 32#32 = BitVec.ofNat 32 b := by
    rcases (show b = 0 ∨ b = 1 ∨ b = 2 ∨ b = 3 ∨ b = 4 ∨ b = 5 ∨ b = 6 ∨ b = 7 by omega) with rfl | rfl | rfl | rfl | rfl | rfl | rfl | rfl <;> decide
  have e1 : (x >>> (nI b &&& nI 31)).toBitVec = x.toBitVec.sshiftRight b := by
    show x.toBitVec.sshiftRight' ((nI b &&& nI 31).toBitVec.smod 32#32) = _
    rw [e, BitVec.sshiftRight_eq', BitVec.toNat_ofNat, Nat.mod_eq_of_lt (by omega)]
  have o : (nI 1).toBitVec = 1#32 := rfl
  rw [← Int32.toBitVec_inj, Int32.toBitVec_and, e1, o]
  constructor
  · intro h
    have h := congrArg (fun z => z.getLsbD 0) h
    rw [BitVec.getLsbD_and, BitVec.getLsbD_sshiftRight] at h
    have z : (1#32).getLsbD 0 = true := by decide
    rw [z, Bool.and_true, if_pos (by omega), Nat.add_zero] at h
    simpa using h
  · intro h
    refine BitVec.eq_of_getLsbD_eq fun i hi => ?_
    rw [BitVec.getLsbD_and, BitVec.getLsbD_sshiftRight]
    by_cases i0 : i = 0
    · subst i0
      rw [if_pos (by omega), Nat.add_zero, h]
      decide
    · have z : (1#32).getLsbD i = false := by
        rw [BitVec.getLsbD_one]
        simp [i0]
      rw [z, Bool.and_false]
theorem mask_ok {M : Int32} {x : Int32} (h : ∀ i, i < 32 → M.toBitVec.getLsbD i = true → x.toBitVec.getLsbD i = true) : M &&& (x ^^^ (-1 : Int32)) = 0 := by
  apply Int32.toBitVec_inj.mp
  rw [Int32.toBitVec_and, Int32.toBitVec_xor]
  refine BitVec.eq_of_getLsbD_eq fun i hi => ?_
  have z : (-1 : Int32).toBitVec = BitVec.allOnes 32 := by decide
  have z0 : (0 : Int32).toBitVec = 0#32 := rfl
  rw [BitVec.getLsbD_and, BitVec.getLsbD_xor, z, z0, BitVec.getLsbD_allOnes]
  by_cases c : M.toBitVec.getLsbD i = true
  · rw [h i hi c]; simp [hi]
  · simp [c]
set_option maxRecDepth 100000 in
theorem mask_b : ∀ a, a < 8 → ∀ i, i < 32 → (sV 6 a).toBitVec.getLsbD i = true → i < a := by decide +kernel
/-- where what is ahead of it is done, an act may begin -/
theorem behind_ok {x : Int32} {a : Nat} (ha : a < 8) (h : ∀ b, b < a → (x >>> (nI b &&& nI 31)) &&& nI 1 = nI 1) : sV 6 a &&& (x ^^^ (-1 : Int32)) = 0 :=
  mask_ok fun i hi hm => by
    have hb := mask_b a ha i hi hm
    exact (bitI (by omega)).mp (h i hb)
set_option maxRecDepth 100000 in
theorem bit_on : ∀ m, m < 256 → ∀ a, a < 8 → (nI m ||| (nI 1 <<< (nI a &&& nI 31)) = nI (m ||| 2 ^ a) ∧ (m ||| 2 ^ a) < 256 ∧ ∀ b, b < 8 → (m ||| 2 ^ a).testBit b = (m.testBit b || (b == a))) := by decide +kernel
theorem st_same {g : Mm} {t i v j : Nat} {x : Int32} (h : g t i v j = x) : st g t i v j x = g := by
  funext t' i' v' j'
  by_cases e : t' = t ∧ i' = i ∧ v' = v ∧ j' = j
  · obtain ⟨rfl, rfl, rfl, rfl⟩ := e
    rw [st_eq, h]
  · exact st_ne e
theorem st_comm {g : Mm} {t i v j t' i' v' j' : Nat} {x y : Int32} (h : ¬ (t = t' ∧ i = i' ∧ v = v' ∧ j = j')) : st (st g t i v j x) t' i' v' j' y = st (st g t' i' v' j' y) t i v j x := by
  funext t0 i0 v0 j0
  unfold st
  by_cases e : t0 = t ∧ i0 = i ∧ v0 = v ∧ j0 = j
  · have e' : ¬ (t0 = t' ∧ i0 = i' ∧ v0 = v' ∧ j0 = j') := fun q => h (by omega)
    simp only [if_pos e, if_neg e']
  · simp only [if_neg e]
-- ===== an act begins =====
/-- states, and what hinders, as they were -/
def HK (gC gR gC' gR' : Mm) (i : Nat) : Prop := (∀ v', v' < 12 → gR' 1 0 0 (30 * v' + 6) = gR 1 0 0 (30 * v' + 6)) ∧ (∀ v', gC' 19 i v' 11 = gC 19 i v' 11) ∧ gR' 21 = gR 21
theorem HK.rf {gC gR : Mm} {i : Nat} : HK gC gR gC gR i := ⟨fun _ _ => rfl, fun _ => rfl, rfl⟩
theorem HK.tr {gC gR gC1 gR1 gC2 gR2 : Mm} {i : Nat} (h : HK gC gR gC1 gR1 i) (h' : HK gC1 gR1 gC2 gR2 i) : HK gC gR gC2 gR2 i := ⟨fun v hv => (h'.1 v hv).trans (h.1 v hv), fun v => (h'.2.1 v).trans (h.2.1 v), h'.2.2.trans h.2.2⟩
theorem HK.st {gC gR gC1 gR1 : Mm} {i t i' v j n : Nat} {x y : Int32} (h : HK gC gR gC1 gR1 i) (ht : t ≠ 19 ∨ j ≠ 11) (hn : ∀ v', v' < 12 → n ≠ 30 * v' + 6) : HK gC gR (st gC1 t i' v j x) (st gR1 1 0 0 n y) i :=
  ⟨fun v' hv' => (st_ne (by have := hn v' hv'; omega)).trans (h.1 v' hv'), fun v' => (st_ne (by omega)).trans (h.2.1 v'), (st_kind (by decide)).trans h.2.2⟩
/-- scratch alone -/
def SC (g g' : Mm) : Prop := ∀ t, t ≠ 8 → t ≠ 18 → g' t = g t
def SR (g g' : Mm) : Prop := ∀ t, t ≠ 20 → g' t = g t
theorem SC.rf {g : Mm} : SC g g := fun _ _ _ => rfl
theorem SR.rf {g : Mm} : SR g g := fun _ _ => rfl
theorem SC.tr {g g1 g2 : Mm} (h : SC g g1) (h' : SC g1 g2) : SC g g2 := fun t a b => (h' t a b).trans (h t a b)
theorem SR.tr {g g1 g2 : Mm} (h : SR g g1) (h' : SR g1 g2) : SR g g2 := fun t a => (h' t a).trans (h t a)
theorem TK.scr {i nv nf ns : Nat} {gC gR gC' gR' : Mm} (h : PS i gC gR nv nf ns) (hC : SC gC gC') (hR : SR gR gR') : TK i nv nf ns gC gR gC' gR' ∧ HK gC gR gC' gR' i := by
  refine ⟨⟨(h.scr (gC' := gC') fun t v j a b c => ?_).scrR fun t ht => hR t (by omega), fun t i' v j q => ?_, fun t a b c => hR t b⟩, fun v' _ => ?_, fun v' => ?_, hR 21 (by decide)⟩
  · rw [hC t a b]
  · rw [hC t (by unfold wrC at q; omega) (by unfold wrC at q; omega)]
  · rw [hR 1 (by decide)]
  · rw [hC 19 (by decide) (by decide)]
theorem lasts_ev {g : Mm} {k a : Nat} (hk : k < 6) (ha : a < 8) : fX3_lasts g (nI k) (nI a) = some (sV 5 (8 * k + a)) := by
  unfold fX3_lasts
  simp (disch := omega) only [li_0, li_1, li_2, li_3, li_4, li_5, li_6, li_7, li_8, li_9, li_10, li_11, li_12, li_13, li_14, li_15, li_16, li_17, li_18, li_19, li_30, li_32, li_40, li_41, li_42, li_43, li_45, li_48, li_57, li_59, li_60, li_61, li_63, li_97, li_99, li_122, li_160, li_200, li_255, li_256, li_257, li_258, li_259, li_360, li_460, li_462, li_470, li_475, li_480, li_481, li_482, li_483, li_484, li_490, li_496, li_510, li_999, li_9999, li_10000, li_10008, li_10009, li_10010, li_10011, li_10012, li_10013, li_10014, li_10015, li_10016, li_100000, wGi_ok, wGb_0, wGb_1, wLe_e, wBd_e, wB2_e, wEx_e, nI_mul, nI_add, nI_clamp, nI_leI, nI_ltI, nI_eq, nI_m1, Nat.mul_comm k 8]
theorem ticksOf_ev {g : Mm} {v k a : Nat} (hv : v < 12) (hk : k < 6) (ha : a < 8) (e : g 1 0 0 (30 * v) = nI k) (hK : KR g) : fX11_ticksOf g (nI v) (nI a) = some (sV 5 (8 * k + a)) := by
  have e13 := hK.1 (8 * k + a) (by omega)
  have e : g 1 0 0 (30 * v + 0) = nI k := e
  unfold fX11_ticksOf
  simp (disch := omega) only [li_0, li_1, li_2, li_3, li_4, li_5, li_6, li_7, li_8, li_9, li_10, li_11, li_12, li_13, li_14, li_15, li_16, li_17, li_18, li_19, li_30, li_32, li_40, li_41, li_42, li_43, li_45, li_48, li_57, li_59, li_60, li_61, li_63, li_97, li_99, li_122, li_160, li_200, li_255, li_256, li_257, li_258, li_259, li_360, li_460, li_462, li_470, li_475, li_480, li_481, li_482, li_483, li_484, li_490, li_496, li_510, li_999, li_9999, li_10000, li_10008, li_10009, li_10010, li_10011, li_10012, li_10013, li_10014, li_10015, li_10016, li_100000, wGi_ok, wGb_0, wGb_1, wLe_e, wBd_e, wB2_e, wEx_e, nI_mul, nI_add, nI_clamp, nI_leI, nI_ltI, nI_eq, nI_m1, of_ev, e, e13]
theorem sv5 : ∀ k, k < 6 → ∀ a, a < 8 → ∃ n, n ≤ 40 ∧ sV 5 (8 * k + a) = nI n := by
  have h : ∀ k, k < 6 → ∀ a, a < 8 → (sV 5 (8 * k + a)).toNatClampNeg ≤ 40 ∧ sV 5 (8 * k + a) = nI (sV 5 (8 * k + a)).toNatClampNeg := by decide +kernel
  exact fun k hk a ha => ⟨_, h k hk a ha⟩
theorem PS.begins {i : Nat} {gC gR : Mm} {nv nf ns v a m n : Nat} (h : PS i gC gR nv nf ns) (hv : v < nv) (ha : a < 8) (hm : m < 256) (em : gC 19 i v 10 = nI m) (hn : n ≤ 40) (hn0 : n ≠ 0) (h7 : a = 7 → gR 1 0 0 (30 * v + 6) = nI 4) : PS i (st (st gC 19 i v 10 (nI (m ||| 2 ^ a))) 20 i v a (nI n)) (st gR 1 0 0 (30 * v + 11 + a) (nI n)) nv nf ns := by
  have hv12 := h.nv12
  have n0 : nI n ≠ 0 := fun e => hn0 (by
    have e : nI n = nI 0 := e
    rwa [nI_eq (by omega) (by omega)] at e)
  refine (h.s0.offs (fun t v' j h1 h2 => by rw [st_ne (by omega), st_ne (by omega)]) ⟨v, hv, by omega, by omega⟩ ?_).full ?_
  · intro v' hv'
    obtain ⟨⟨m', h1, h2, h3⟩, h4⟩ := h.2.2.2.1 v' hv'
    have q12 : st (st gC 19 i v 10 (nI (m ||| 2 ^ a))) 20 i v a (nI n) 19 i v' 12 = gC 19 i v' 12 := (st_ne (by omega)).trans (st_ne (by omega))
    rw [upd_n (by omega), q12]
    by_cases e : v' = v
    · subst e
      rw [em, nI_eq (by omega) (by omega)] at h2
      subst h2
      obtain ⟨-, g2, g3⟩ := bit_on m hm a ha
      refine ⟨⟨_, g2, (st_ne (by omega)).trans st_eq, fun b hb => ?_⟩, h4⟩
      rw [g3 b hb]
      by_cases e : b = a
      · subst e
        rw [upd_e, st_eq]
        exact ⟨⟨fun _ => n0, fun _ => by simp⟩, fun _ => rfl⟩
      · rw [upd_n (by omega), st_ne (by omega), st_ne (by omega)]
        have q : (m.testBit b || (b == a)) = m.testBit b := by simp [e]
        rw [q]
        exact h3 b hb
    · have q10 : st (st gC 19 i v 10 (nI (m ||| 2 ^ a))) 20 i v a (nI n) 19 i v' 10 = gC 19 i v' 10 := (st_ne (by omega)).trans (st_ne (by omega))
      rw [q10]
      refine ⟨⟨m', h1, h2, fun b hb => ?_⟩, h4⟩
      rw [upd_n (by omega), st_ne (by omega), st_ne (by omega)]
      exact h3 b hb
  · rw [st_p]
    exact h.2.2.2.2.1.act hv ha hn (fun e _ => h7 e)
/-- behind the trucks and crews -/
theorem startAct_pr {i : Nat} {gC gR : Mm} {nv nf ns v a : Nat} (h : PS i gC gR nv nf ns) (hv : v < nv) (ha : a < 8) {k : Nat} (hk : k < 6) (ek : gR 1 0 0 (30 * v) = nI k) (hn : sV 5 (8 * k + a) ≠ 0) (h7 : a = 7 → gR 1 0 0 (30 * v + 6) = nI 4) :
    ∃ gC', fX9_startAct gC i v (nI a) = some gC' ∧ TK i nv nf ns gC gR gC' (st gR 1 0 0 (30 * v + 11 + a) (sV 5 (8 * k + a))) ∧ HK gC gR gC' (st gR 1 0 0 (30 * v + 11 + a) (sV 5 (8 * k + a))) i := by
  have hv12 := h.nv12
  obtain ⟨⟨m, hm, em, hb⟩, -⟩ := h.2.2.2.1 v hv
  obtain ⟨n, hn40, en⟩ := sv5 k hk a ha
  have n0 : n ≠ 0 := fun e => hn (by rw [en, e]; rfl)
  have b := h.begins hv ha hm em hn40 n0 h7
  have v0 : gC 19 i v 0 = nI k := (h.v0 hv).trans ek
  obtain ⟨q1, -, -⟩ := bit_on m hm a ha
  refine ⟨_, ?_, ⟨by rw [en]; exact b, ?_, FrR.rf.st (Or.inl rfl)⟩, ?_⟩
  · unfold fX9_startAct
    have q1 : nI m ||| ((1 : Int32) <<< (nI a &&& 31)) = nI (m ||| 2 ^ a) := q1
    rw [em, q1, wLe_e, st_ne (by omega), v0, lasts_ev hk ha, wBd_e, wGi_ok (by omega) (by omega), nI_clamp (by omega), wLe_e, en]
  · exact (FrC.rf.st (by unfold wrC; omega)).st (by unfold wrC; omega)
  · refine ⟨fun v' hv' => st_ne (by omega), fun v' => (st_ne (by omega)).trans (st_ne (by omega)), st_kind (by decide)⟩
theorem begins_b {g : Mm} {v a : Nat} (ha : a < 8) (hv : v < 12) : fX11_begins_b49 g (nI v) (nI a) = some (if a = 7 ∧ ¬ g 1 0 0 480 ≤ g 1 0 0 (30 * v + 1) + g 1 0 0 (30 * v + 5) + g 1 0 0 (30 * v + 3) then st g 1 0 0 483 (g 1 0 0 483 - nI 1) else g) := by
  unfold fX11_begins_b49
  by_cases h7 : a = 7
  · subst h7
    simp (disch := omega) only [li_0, li_1, li_2, li_3, li_4, li_5, li_6, li_7, li_8, li_9, li_10, li_11, li_12, li_13, li_14, li_15, li_16, li_17, li_18, li_19, li_30, li_32, li_40, li_41, li_42, li_43, li_45, li_48, li_57, li_59, li_60, li_61, li_63, li_97, li_99, li_122, li_160, li_200, li_255, li_256, li_257, li_258, li_259, li_360, li_460, li_462, li_470, li_475, li_480, li_481, li_482, li_483, li_484, li_490, li_496, li_510, li_999, li_9999, li_10000, li_10008, li_10009, li_10010, li_10011, li_10012, li_10013, li_10014, li_10015, li_10016, li_100000, wGi_ok, wGb_0, wGb_1, wLe_e, wBd_e, wB2_e, wEx_e, nI_mul, nI_add, nI_clamp, nI_leI, nI_ltI, nI_eq, nI_m1, limR_ev, if_true, true_and]
    by_cases c : g 1 0 0 480 ≤ g 1 0 0 (30 * v + 1) + g 1 0 0 (30 * v + 5) + g 1 0 0 (30 * v + 3)
    · rw [if_pos c, if_neg (fun q => q c)]
    · rw [if_neg c, if_pos c]
  · have c : ¬ nI a = (7 : Int32) := fun e => h7 (by
      have e : nI a = nI 7 := e
      rwa [nI_eq (by omega) (by omega)] at e)
    rw [if_neg c, if_neg (fun q => h7 q.1)]
theorem begins_c {g : Mm} {v a : Nat} {x : Int32} (ha : a < 8) (hv : v < 12) : (if a = 7 ∧ ¬ st g 1 0 0 (30 * v + 11 + a) x 1 0 0 480 ≤ st g 1 0 0 (30 * v + 11 + a) x 1 0 0 (30 * v + 1) + st g 1 0 0 (30 * v + 11 + a) x 1 0 0 (30 * v + 5) + st g 1 0 0 (30 * v + 11 + a) x 1 0 0 (30 * v + 3) then st (st g 1 0 0 (30 * v + 11 + a) x) 1 0 0 483 (st g 1 0 0 (30 * v + 11 + a) x 1 0 0 483 - nI 1) else st g 1 0 0 (30 * v + 11 + a) x) =
    st (if a = 7 ∧ ¬ g 1 0 0 480 ≤ g 1 0 0 (30 * v + 1) + g 1 0 0 (30 * v + 5) + g 1 0 0 (30 * v + 3) then st g 1 0 0 483 (g 1 0 0 483 - nI 1) else g) 1 0 0 (30 * v + 11 + a) x := by
  have o : ∀ n, n ≠ 30 * v + 11 + a → st g 1 0 0 (30 * v + 11 + a) x 1 0 0 n = g 1 0 0 n := fun n hn => st_ne (by omega)
  rw [o 480 (by omega), o (30 * v + 1) (by omega), o (30 * v + 5) (by omega), o (30 * v + 3) (by omega), o 483 (by omega)]
  by_cases c : a = 7 ∧ ¬ g 1 0 0 480 ≤ g 1 0 0 (30 * v + 1) + g 1 0 0 (30 * v + 5) + g 1 0 0 (30 * v + 3)
  · rw [if_pos c, if_pos c]
    exact st_comm (by omega)
  · rw [if_neg c, if_neg c]
/-- (4), (5): an act begins -/
theorem start_pr {i : Nat} {gC gR : Mm} {nv nf ns v a : Nat} (h : PS i gC gR nv nf ns) (hv : v < nv) (ha : a < 8) {k : Nat} (hk : k < 6) (ek : gR 1 0 0 (30 * v) = nI k) (hn : sV 5 (8 * k + a) ≠ 0) (h7 : a = 7 → gR 1 0 0 (30 * v + 6) = nI 4) :
    ∃ gC' gR', fX4_startNow gC i i v (nI a) = some gC' ∧ fX11_begins gR (nI v) (nI a) = some gR' ∧ TK i nv nf ns gC gR gC' gR' ∧ HK gC gR gC' gR' i := by
  have hv12 := h.nv12
  have hf16 := h.nf16
  have hs6 := h.ns6
  have free : ∀ n, (470 ≤ n ∧ n < 480) ∨ n = 483 → ¬ piI nv nf n := fun n hn hp => by
    unfold piI at hp
    rcases hp with q | q | q | q | q | ⟨v', q1, q2⟩ | ⟨f, q1, q2⟩ <;> omega
  have noS : ∀ n, 470 ≤ n → ∀ v', v' < 12 → n ≠ 30 * v' + 6 := fun n hn v' hv' => by omega
  -- crews, then the act
  have two : ∀ g1 g2, TK i nv nf ns gC gR g1 g2 → HK gC gR g1 g2 i → (∀ n, n < 470 ∨ 480 ≤ n → g2 1 0 0 n = gR 1 0 0 n) → ∃ gC' gR', fX4_startNow_b19 g1 i i v (nI a) = some gC' ∧ some (st (if a = 7 ∧ ¬ g2 1 0 0 480 ≤ g2 1 0 0 (30 * v + 1) + g2 1 0 0 (30 * v + 5) + g2 1 0 0 (30 * v + 3) then st g2 1 0 0 483 (g2 1 0 0 483 - nI 1) else g2) 1 0 0 (30 * v + 11 + a) (sV 5 (8 * k + a))) = some gR' ∧ TK i nv nf ns gC gR gC' gR' ∧ HK gC gR gC' gR' i := by
    intro g1 g2 hT hH ho
    have h1 := hT.1
    have ek1 : g2 1 0 0 (30 * v) = nI k := (ho _ (by omega)).trans ek
    have h71 : a = 7 → g2 1 0 0 (30 * v + 6) = nI 4 := fun e => (ho _ (by omega)).trans (h7 e)
    by_cases c : a = 7 ∧ ¬ g2 1 0 0 480 ≤ g2 1 0 0 (30 * v + 1) + g2 1 0 0 (30 * v + 5) + g2 1 0 0 (30 * v + 3)
    · rw [if_pos c]
      obtain ⟨c7, c⟩ := c
      have u := h1.e10_7
      have u : g1 10 i 0 7 = g2 1 0 0 483 := u
      have s2 := h1.set (x := g2 1 0 0 483 - nI 1) (ix_e10_7 (nv := nv) (nf := nf) (ns := ns)) (h1.2.2.2.2.1.free (free _ (Or.inr rfl)))
      have hT2 : TK i nv nf ns g1 g2 (st g1 10 i 0 7 (g2 1 0 0 483 - nI 1)) (st g2 1 0 0 483 (g2 1 0 0 483 - nI 1)) := ⟨s2, FrC.rf.st (by unfold wrC; omega), FrR.rf.st (Or.inl rfl)⟩
      have hH2 : HK g1 g2 (st g1 10 i 0 7 (g2 1 0 0 483 - nI 1)) (st g2 1 0 0 483 (g2 1 0 0 483 - nI 1)) i := HK.rf.st (Or.inl (by decide)) (noS _ (by omega))
      obtain ⟨g3, r1, r2, r3⟩ := startAct_pr s2 hv ha hk ((st_ne (by omega)).trans ek1) hn (fun e => (st_ne (by omega)).trans (h71 e))
      refine ⟨g3, _, ?_, rfl, (hT.tr hT2).tr r2, (hH.tr hH2).tr r3⟩
      subst c7
      unfold fX4_startNow_b19
      have e9 := h1.e9
      have v1 := h1.v1 hv
      have v3 := h1.v3 hv
      have v4 := h1.v4 hv
      simp (disch := omega) only [li_0, li_1, li_2, li_3, li_4, li_5, li_6, li_7, li_8, li_9, li_10, li_11, li_12, li_13, li_14, li_15, li_16, li_17, li_18, li_19, li_30, li_32, li_40, li_41, li_42, li_43, li_45, li_48, li_57, li_59, li_60, li_61, li_63, li_97, li_99, li_122, li_160, li_200, li_255, li_256, li_257, li_258, li_259, li_360, li_460, li_462, li_470, li_475, li_480, li_481, li_482, li_483, li_484, li_490, li_496, li_510, li_999, li_9999, li_10000, li_10008, li_10009, li_10010, li_10011, li_10012, li_10013, li_10014, li_10015, li_10016, li_100000, wGi_ok, wGb_0, wGb_1, wLe_e, wBd_e, wB2_e, wEx_e, nI_mul, nI_add, nI_clamp, nI_leI, nI_ltI, nI_eq, nI_m1, lim_ev, if_true, e9, v1, v3, v4, u]
      rw [if_neg c, r1]
      rfl
    · rw [if_neg c]
      obtain ⟨g3, r1, r2, r3⟩ := startAct_pr h1 hv ha hk ek1 hn h71
      refine ⟨g3, _, ?_, rfl, hT.tr r2, hH.tr r3⟩
      unfold fX4_startNow_b19
      by_cases c7 : a = 7
      · subst c7
        have c : g2 1 0 0 480 ≤ g2 1 0 0 (30 * v + 1) + g2 1 0 0 (30 * v + 5) + g2 1 0 0 (30 * v + 3) := Decidable.byContradiction fun q => c ⟨rfl, q⟩
        have e9 := h1.e9
        have v1 := h1.v1 hv
        have v3 := h1.v3 hv
        have v4 := h1.v4 hv
        simp (disch := omega) only [li_0, li_1, li_2, li_3, li_4, li_5, li_6, li_7, li_8, li_9, li_10, li_11, li_12, li_13, li_14, li_15, li_16, li_17, li_18, li_19, li_30, li_32, li_40, li_41, li_42, li_43, li_45, li_48, li_57, li_59, li_60, li_61, li_63, li_97, li_99, li_122, li_160, li_200, li_255, li_256, li_257, li_258, li_259, li_360, li_460, li_462, li_470, li_475, li_480, li_481, li_482, li_483, li_484, li_490, li_496, li_510, li_999, li_9999, li_10000, li_10008, li_10009, li_10010, li_10011, li_10012, li_10013, li_10014, li_10015, li_10016, li_100000, wGi_ok, wGb_0, wGb_1, wLe_e, wBd_e, wB2_e, wEx_e, nI_mul, nI_add, nI_clamp, nI_leI, nI_ltI, nI_eq, nI_m1, lim_ev, if_true, e9, v1, v3, v4]
        rw [if_pos c, r1]
        rfl
      · have c : ¬ nI a = (7 : Int32) := fun e => c7 (by
          have e : nI a = nI 7 := e
          rwa [nI_eq (by omega) (by omega)] at e)
        rw [if_neg c, r1]
        rfl
  have kr := h.2.2.2.2.2.2.2.2.1 a ha
  have tk := ticksOf_ev (g := gR) (show v < 12 by omega) hk ha ek h.2.2.2.2.2
  have e1 : ((30 : Int32) * nI v + 11) + nI a = nI (30 * v + 11 + a) := by simp only [li_0, li_1, li_2, li_3, li_4, li_5, li_6, li_7, li_8, li_9, li_10, li_11, li_12, li_13, li_14, li_15, li_16, li_17, li_18, li_19, li_30, li_32, li_40, li_41, li_42, li_43, li_45, li_48, li_57, li_59, li_60, li_61, li_63, li_97, li_99, li_122, li_160, li_200, li_255, li_256, li_257, li_258, li_259, li_360, li_460, li_462, li_470, li_475, li_480, li_481, li_482, li_483, li_484, li_490, li_496, li_510, li_999, li_9999, li_10000, li_10008, li_10009, li_10010, li_10011, li_10012, li_10013, li_10014, li_10015, li_10016, li_100000, nI_mul, nI_add]
  have rd : st gR 1 0 0 (30 * v + 11 + a) (sV 5 (8 * k + a)) 16 0 0 a = sV 7 a := (st_ne (by omega)).trans kr
  unfold fX4_startNow fX11_begins
  rw [truck_ev ha, wBd_e, tk, wBd_e, e1, wGi_ok (by omega) (by omega), nI_clamp (show 30 * v + 11 + a < 2 ^ 31 by omega), wLe_e, wLe_e, wGi_ok (by omega) (by omega), nI_clamp (show a < 2 ^ 31 by omega), rd]
  rcases sv7 a ha with c | ⟨k', hk', c⟩
  · rw [c, if_pos (by decide), if_pos rfl, begins_b ha (by omega), begins_c ha (by omega)]
    exact two gC gR (TK.rf h) HK.rf fun _ _ => rfl
  · have c1 : ¬ nI k' < 0 := nI_pos (by omega)
    have c2 : ¬ nI k' = (-1 : Int32) := fun e => (nI_m1 (by omega)).mp e
    have e2 : (475 : Int32) + nI k' = nI (475 + k') := by simp only [li_0, li_1, li_2, li_3, li_4, li_5, li_6, li_7, li_8, li_9, li_10, li_11, li_12, li_13, li_14, li_15, li_16, li_17, li_18, li_19, li_30, li_32, li_40, li_41, li_42, li_43, li_45, li_48, li_57, li_59, li_60, li_61, li_63, li_97, li_99, li_122, li_160, li_200, li_255, li_256, li_257, li_258, li_259, li_360, li_460, li_462, li_470, li_475, li_480, li_481, li_482, li_483, li_484, li_490, li_496, li_510, li_999, li_9999, li_10000, li_10008, li_10009, li_10010, li_10011, li_10012, li_10013, li_10014, li_10015, li_10016, li_100000, nI_add]
    have u := h.2.2.1 11 0 k' _ (ix_e11s hk')
    have s3 := h.set (x := gR 1 0 0 (475 + k') + 1) (ix_e11s (nv := nv) (nf := nf) (ns := ns) hk') (h.2.2.2.2.1.free (free _ (by omega)))
    have w : st gR 1 0 0 (30 * v + 11 + a) (sV 5 (8 * k + a)) 1 0 0 (475 + k') = gR 1 0 0 (475 + k') := st_ne (by omega)
    rw [c, if_neg c1, if_neg c2, wGi_ok (by omega) (by omega), wGi_ok (by omega) (by omega), nI_clamp (show k' < 2 ^ 31 by omega), wGi_ok (by omega) (by omega), e2, wGi_ok (by omega) (by omega), wGi_ok (by omega) (by omega), nI_clamp (show 475 + k' < 2 ^ 31 by omega), wLe_e, w, st_comm (by omega), begins_b ha (by omega), begins_c ha (by omega), u]
    exact two _ _ ⟨s3, FrC.rf.st (by unfold wrC; omega), FrR.rf.st (Or.inl rfl)⟩ (HK.rf.st (Or.inl (by decide)) (noS _ (by omega))) fun n hn => st_ne (by omega)
