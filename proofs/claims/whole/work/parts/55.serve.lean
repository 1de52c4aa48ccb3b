-- ===== (4): a visit is served =====
/-- states as they were, and what hinders others -/
def SV (v : Nat) (gC gR gC' gR' : Mm) (i : Nat) : Prop := (∀ v', v' < 12 → gR' 1 0 0 (30 * v' + 6) = gR 1 0 0 (30 * v' + 6)) ∧ (∀ v', v' ≠ v → gC' 19 i v' 11 = gC 19 i v' 11 ∧ gR' 21 0 0 v' = gR 21 0 0 v')
theorem SV.tr {gC gR gC1 gR1 gC2 gR2 : Mm} {i v : Nat} (h : SV v gC gR gC1 gR1 i) (h' : SV v gC1 gR1 gC2 gR2 i) : SV v gC gR gC2 gR2 i := ⟨fun v hv => (h'.1 v hv).trans (h.1 v hv), fun v hv => ⟨(h'.2 v hv).1.trans (h.2 v hv).1, (h'.2 v hv).2.trans (h.2 v hv).2⟩⟩
theorem HK.sv {gC gR gC' gR' : Mm} {i : Nat} (h : HK gC gR gC' gR' i) (v : Nat) : SV v gC gR gC' gR' i := ⟨h.1, fun v' _ => ⟨h.2.1 v', by rw [h.2.2]⟩⟩
/-- what hinders is written in both -/
theorem hind_set {i nv nf ns v : Nat} {gC gR : Mm} {x : Int32} (h : PS i gC gR nv nf ns) (hv : v < nv) : TK i nv nf ns gC gR (st gC 19 i v 11 x) (st gR 21 0 0 v x) ∧ SV v gC gR (st gC 19 i v 11 x) (st gR 21 0 0 v x) i := by
  refine ⟨⟨(h.scr (gC' := st gC 19 i v 11 x) fun t v' j a b c => st_ne (by omega)).scrR fun t ht => st_kind (by omega), FrC.rf.st (by unfold wrC; omega), FrR.rf.st (by omega)⟩, fun v' _ => st_ne (by omega), fun v' hv' => ⟨st_ne (by omega), st_ne (by omega)⟩⟩
/-- the same is noted for what hinders -/
def HN (i v : Nat) (g1 g2 : Mm) : Prop := g1 19 i v 11 = g2 21 0 0 v ∧ GW (g2 21 0 0 v)
theorem GW.lt {w : Int32} (h : GW w) : (0 ≤ w ↔ ¬ w = -1) := by
  rcases h with rfl | ⟨c, hc, rfl⟩
  · decide
  · constructor
    · intro _ e; exact (nI_m1 (by omega)).mp e
    · intro _; exact nI_pos' (by omega)
/-- noting: as long as nothing is noted -/
theorem note_pr {i nv nf ns v k : Nat} {g1 g2 : Mm} {w : Int32} (h : PS i g1 g2 nv nf ns) (hv : v < nv) (hn : HN i v g1 g2) (hw : GW w) (hw1 : w ≠ -1) :
    ∃ gC' gR', fX4_serve_b89 g1 i (nI v) v (nI k) w = some (.inl (gC', nI (k + 1))) ∧ ((if g2 21 0 0 v = -1 then st g2 21 0 0 v w else g2) = gR') ∧ TK i nv nf ns g1 g2 gC' gR' ∧ SV v g1 g2 gC' gR' i ∧ HN i v gC' gR' ∧ gR' 21 0 0 v ≠ -1 ∧ gR' 1 = g2 1 := by
  unfold fX4_serve_b89 fX4_serve_b102
  obtain ⟨hn1, hn2⟩ := hn
  by_cases c : g2 21 0 0 v = -1
  · have c1 : ¬ 0 ≤ g1 19 i v 11 := by rw [hn1, hn2.lt]; exact fun q => q c
    obtain ⟨a1, a2⟩ := hind_set (x := w) h hv
    refine ⟨_, _, ?_, if_pos c, a1, a2, ⟨st_eq.trans st_eq.symm, by rw [st_eq]; exact hw⟩, by rw [st_eq]; exact hw1, st_kind (by decide)⟩
    rw [if_neg c1, wLe_e, wLe_e, nI_1]
  · have c1 : 0 ≤ g1 19 i v 11 := by rw [hn1, hn2.lt]; exact c
    refine ⟨_, _, ?_, if_neg c, TK.rf h, HK.rf.sv v, ⟨hn1, hn2⟩, c, rfl⟩
    rw [if_pos c1, wLe_e, nI_1]
theorem tr_some {g : Mm} {v a : Nat} (hv : v < 12) (ha : a < 8) : fX11_isDone g (nI v) (nI a) = some (if (g 1 0 0 (30 * v + 9) >>> (nI a &&& nI 31)) &&& nI 1 = nI 1 then 1 else 0) := by
  have e9 : (9 : Int32) = nI 9 := rfl
  have e31 : (31 : Int32) = nI 31 := rfl
  unfold fX11_isDone
  rw [e9, of_ev g (by omega), wBd_e, e31]
  by_cases c : (g 1 0 0 (30 * v + 9) >>> (nI a &&& nI 31)) &&& nI 1 = nI 1
  · rw [if_pos c]; exact if_pos c
  · rw [if_neg c]; exact if_neg c
/-- what stands behind the first check, in the reference -/
theorem b112_0 {g : Mm} {v k : Nat} (hv : v < 12) (hk : k < 8) : fX11_serves_b59 g (nI v) (nI k) = some (.inl (if (g 1 0 0 (30 * v + 9) >>> (nI k &&& nI 31)) &&& nI 1 = nI 1 then g else if g 21 0 0 v = -1 then st g 21 0 0 v 2 else g, nI (k + 1))) := by
  unfold fX11_serves_b59 fX11_serves_b60 fX11_serves_b112 fX11_serves_b202
  rw [if_pos rfl, if_pos rfl, tr_some hv hk, wBd_e]
  by_cases c : (g 1 0 0 (30 * v + 9) >>> (nI k &&& nI 31)) &&& nI 1 = nI 1
  · rw [if_pos c, if_pos c, if_neg (by decide), wLe_e, nI_1]
  · rw [if_neg c, if_neg c, if_pos rfl, wGi_ok (by omega) (by omega), nI_clamp (by omega)]
    by_cases d : g 21 0 0 v = -1
    · rw [if_pos d, if_pos d, wGi_ok (by omega) (by omega), wLe_e, wLe_e, nI_1]
    · rw [if_neg d, if_neg d, wLe_e, nI_1]
theorem isDone_ev {g : Mm} {i v a : Nat} {x : Int32} (h : g 19 i v 9 = x) : fX9_isDone g i v (nI a) = some (if (x >>> (nI a &&& nI 31)) &&& nI 1 = nI 1 then 1 else 0) := by
  have e31 : (31 : Int32) = nI 31 := rfl
  unfold fX9_isDone
  rw [h, e31]
  by_cases c : (x >>> (nI a &&& nI 31)) &&& nI 1 = nI 1
  · rw [if_pos c]; exact if_pos c
  · rw [if_neg c]; exact if_neg c
theorem mayBegin_ev {g : Mm} {i v a : Nat} {x : Int32} (ha : a < 8) (h : g 19 i v 9 = x) : fX9_mayBegin g i v (nI a) = some (if sV 6 a &&& (x ^^^ (-1 : Int32)) = 0 then 1 else 0) := by
  unfold fX9_mayBegin fX3_behind
  rw [wGi_ok (by omega) (by omega), nI_clamp (by omega), wBd_e, h]
  by_cases c : sV 6 a &&& (x ^^^ (-1 : Int32)) = 0
  · rw [if_pos c, if_pos c]
  · rw [if_neg c, if_neg c]
/-- an act that is nothing is done at once -/
theorem atOnce_pr {i nv nf ns v a : Nat} {g1 g2 : Mm} (h : PS i g1 g2 nv nf ns) (hv : v < nv) (ha : a < 7) {m : Nat} (hm : m < 256) (em : g1 19 i v 10 = nI m) (hb : m.testBit a = false) :
    ∃ gC', fX9_endAct g1 i v (nI a) = some gC' ∧ TK i nv nf ns g1 g2 gC' (st g2 1 0 0 (30 * v + 9) (g2 1 0 0 (30 * v + 9) ||| (nI 1 <<< (nI a &&& nI 31)))) ∧ HK g1 g2 gC' (st g2 1 0 0 (30 * v + 9) (g2 1 0 0 (30 * v + 9) ||| (nI 1 <<< (nI a &&& nI 31)))) i := by
  have hv12 := h.nv12
  have v9 := h.v9 hv
  obtain ⟨q1, q2, q3⟩ := bit_off m hm a (by omega)
  have q4 : m &&& (255 - 2 ^ a) = m := by
    have : ∀ m, m < 256 → ∀ a, a < 8 → m.testBit a = false → m &&& (255 - 2 ^ a) = m := by decide +kernel
    exact this m hm a (by omega) hb
  rw [q4] at q1
  have b1 : g1 19 i v 10 &&& (((1 : Int32) <<< (nI a &&& 31)) ^^^ (-1 : Int32)) = nI m := by rw [em]; exact q1
  have s := h.set (x := g2 1 0 0 (30 * v + 9) ||| (nI 1 <<< (nI a &&& nI 31))) (ix_v9 (nf := nf) (ns := ns) hv) (h.2.2.2.2.1.dones hv fun n hn e => or_128 ha ((h.2.2.2.2.1.2.2.2.2.2.2.1 v hv).2.1 n hn e))
  refine ⟨_, ?_, ⟨s, FrC.rf.st (by unfold wrC; omega), FrR.rf.st (Or.inl rfl)⟩, HK.rf.st (Or.inr (by decide)) (by omega)⟩
  unfold fX9_endAct
  rw [b1, st_same em, wLe_e, wLe_e, v9]
  rfl
theorem or_bit {x : Int32} {a b : Nat} (ha : a < 8) (hb : b < 8) : ((x ||| (nI 1 <<< (nI a &&& nI 31))) >>> (nI b &&& nI 31)) &&& nI 1 = nI 1 ↔ (b = a ∨ (x >>> (nI b &&& nI 31)) &&& nI 1 = nI 1) := by
  rw [bitI hb, bitI hb, Int32.toBitVec_or, BitVec.getLsbD_or]
  have e : ∀ a, a < 8 → ∀ b, b < 8 → (nI 1 <<< (nI a &&& nI 31)).toBitVec.getLsbD b = (b == a) := by decide +kernel
  rw [e a ha b hb]
  simp [or_comm]
/-- all that is not done ahead of act k: then something is noted -/
def UD (v k : Nat) (g : Mm) : Prop := ∀ b, b < k → ¬ (g 1 0 0 (30 * v + 9) >>> (nI b &&& nI 31)) &&& nI 1 = nI 1 → g 21 0 0 v ≠ -1
theorem serve_step {i nv nf ns v k : Nat} {g1 g2 : Mm} (h : PS i g1 g2 nv nf ns) (hr : RS i g1 g2) (hb : VB i g1 nv) (hv : v < nv) (hk : k < 8) (h4 : g2 1 0 0 (30 * v + 6) = nI 4) (hn : HN i v g1 g2) (hu : UD v k g2) :
    ∃ gC' gR', fX4_serve_B14 g1 i (nI v) v (nI k) = some (.inl (gC', nI (k + 1))) ∧ fX11_serves_B9 g2 (nI v) (nI k) = some (.inl (gR', nI (k + 1))) ∧ TK i nv nf ns g1 g2 gC' gR' ∧ SV v g1 g2 gC' gR' i ∧ HN i v gC' gR' ∧ UD v (k + 1) gR' := by
  have hv12 := h.nv12
  obtain ⟨⟨m, hm, em, hbb⟩, -⟩ := h.2.2.2.1 v hv
  obtain ⟨hb1, hb2⟩ := hbb k hk
  obtain ⟨⟨kd, hk6, hkd⟩, -⟩ := h.2.2.2.2.1.2.2.2.2.1 v hv
  have v9 := h.v9 hv
  have v0 := h.v0 hv
  have hK := h.2.2.2.2.2
  have k17 := hK.2.2.2.2 k hk
  have n8 : ¬ (8 : Int32) ≤ nI k := nI_ge (a := k) (b := 8) hk (by omega)
  have e11 : (11 : Int32) + nI k = nI (11 + k) := by simp only [li_0, li_1, li_2, li_3, li_4, li_5, li_6, li_7, li_8, li_9, li_10, li_11, li_12, li_13, li_14, li_15, li_16, li_17, li_18, li_19, li_30, li_32, li_40, li_41, li_42, li_43, li_45, li_48, li_57, li_59, li_60, li_61, li_63, li_97, li_99, li_122, li_160, li_200, li_255, li_256, li_257, li_258, li_259, li_360, li_460, li_462, li_470, li_475, li_480, li_481, li_482, li_483, li_484, li_490, li_496, li_510, li_999, li_9999, li_10000, li_10008, li_10009, li_10010, li_10011, li_10012, li_10013, li_10014, li_10015, li_10016, li_100000, nI_add]
  have e9 : (9 : Int32) = nI 9 := rfl
  have ea : 30 * v + (11 + k) = 30 * v + 11 + k := by omega
  unfold fX4_serve_B14 fX11_serves_B9
  rw [if_neg n8, if_neg n8, isDone_ev v9, wBd_e, tr_some (by omega) hk, wBd_e]
  by_cases d : (g2 1 0 0 (30 * v + 9) >>> (nI k &&& nI 31)) &&& nI 1 = nI 1
  · -- it is done
    have e10 : ¬ ((1 : Int32) = 0) := by decide
    rw [if_pos d, if_neg e10, if_neg e10, b112_0 (by omega) hk, if_pos d]
    unfold fX4_serve_b102
    rw [wLe_e, nI_1]
    refine ⟨g1, g2, rfl, rfl, TK.rf h, HK.rf.sv v, hn, fun b hb' q => ?_⟩
    by_cases e : b = k
    · subst e; exact (q d).elim
    · exact hu b (by omega) q
  · rw [if_neg d, if_pos rfl, if_pos rfl, mayBegin_ev hk v9, wBd_e, e11, of_ev g2 (by omega), wBd_e, ea]
    -- noting 2, where the reference notes it
    have noted : ∀ gR', (if g2 21 0 0 v = -1 then st g2 21 0 0 v 2 else g2) = gR' → (if (g2 1 0 0 (30 * v + 9) >>> (nI k &&& nI 31)) &&& nI 1 = nI 1 then g2 else if g2 21 0 0 v = -1 then st g2 21 0 0 v 2 else g2) = gR' := fun gR' q => (if_neg d).trans q
    by_cases mb : sV 6 k &&& (g2 1 0 0 (30 * v + 9) ^^^ (-1 : Int32)) = 0
    · have e10 : ¬ ((1 : Int32) = 0) := by decide
      rw [if_pos mb, if_neg e10, wLe_e, under_ev hm hk em, wBd_e]
      by_cases u : m.testBit k = true
      · have p0 : ¬ g2 1 0 0 (30 * v + 11 + k) = 0 := hb1.mp u
        obtain ⟨gC', gR', a1, a2, a3, a4, a5, a6, a7⟩ := note_pr (k := k) (w := 2) h hv hn (Or.inr ⟨2, by omega, rfl⟩) (by decide)
        rw [if_pos u, if_neg e10, a1, if_neg p0, b112_0 (by omega) hk, noted _ a2]
        exact ⟨gC', gR', rfl, rfl, a3, a4, a5, fun _ _ _ => a6⟩
      · have p0 : g2 1 0 0 (30 * v + 11 + k) = 0 := Decidable.byContradiction fun q => u (hb1.mpr q)
        have tk := ticksOf_ev (a := k) (g := g2) (show v < 12 by omega) hk6 hk hkd hK
        have v6 : g1 10 i 0 6 = g2 1 0 0 482 := h.e10_6
        have ni : fX4_isNothing g1 i i v (nI k) = some (if sV 5 (8 * kd + k) = 0 ∨ (k = 6 ∧ g2 1 0 0 482 = 0) then 1 else 0) := by
          unfold fX4_isNothing
          rw [v0, hkd, lasts_ev hk6 hk, wBd_e]
          by_cases z : sV 5 (8 * kd + k) = 0
          · rw [if_pos z, if_pos (Or.inl z)]
          · rw [if_neg z]
            by_cases z6 : k = 6
            · subst z6
              have e6 : nI 6 = (6 : Int32) := rfl
              have c6 : (6 : Int32).toNatClampNeg = 6 := nI_clamp (n := 6) (by omega)
              rw [if_pos e6, ← e6, wGi_ok (by omega) (by omega), nI_clamp (by omega), v6]
              by_cases zz : g2 1 0 0 482 = 0
              · rw [if_pos zz, if_pos (Or.inr ⟨rfl, zz⟩)]
              · rw [if_neg zz, if_neg (by rintro (q | q); exact z q; exact zz q.2)]
            · have c : ¬ nI k = (6 : Int32) := fun e => z6 (by
                have e : nI k = nI 6 := e
                rwa [nI_eq (by omega) (by omega)] at e)
              rw [if_neg c, if_neg (by rintro (q | q); exact z q; exact z6 q.1)]
        have hr60 : fX11_serves_b60 g2 (nI v) (nI k) 1 = if sV 5 (8 * kd + k) = 0 ∨ (k = 6 ∧ g2 1 0 0 482 = 0) then fX11_serves_b91 g2 (nI v) (nI k) else fX11_serves_b112 g2 (nI v) (nI k) 1 := by
          unfold fX11_serves_b60
          rw [if_neg e10, tk, wBd_e]
          by_cases z : sV 5 (8 * kd + k) = 0
          · rw [if_pos z, if_pos (Or.inl z)]
          · rw [if_neg z]
            by_cases z6 : k = 6
            · subst z6
              have e6 : nI 6 = (6 : Int32) := rfl
              have i482 : ∀ (β : Type) (f : Option β), wGi (482 : Int32) 510 f = f := fun β f => wGi_ok (n := 482) (by omega) (by omega)
              have c482 : (482 : Int32).toNatClampNeg = 482 := nI_clamp (n := 482) (by omega)
              rw [if_pos e6, i482, c482]
              by_cases zz : g2 1 0 0 482 = 0
              · rw [if_pos zz, if_pos (Or.inr ⟨rfl, zz⟩)]
              · rw [if_neg zz, if_neg (by rintro (q | q); exact z q; exact zz q.2)]
            · have c : ¬ nI k = (6 : Int32) := fun e => z6 (by
                have e : nI k = nI 6 := e
                rwa [nI_eq (by omega) (by omega)] at e)
              rw [if_neg c, if_neg (by rintro (q | q); exact z q; exact z6 q.1)]
        rw [if_neg u, if_pos rfl, ni, wBd_e, if_pos p0, wGi_ok (by omega) (by omega), nI_clamp (show k < 2 ^ 31 by omega), k17, e9, of_ev g2 (by omega), wBd_e, if_pos mb, hr60]
        by_cases z : sV 5 (8 * kd + k) = 0 ∨ (k = 6 ∧ g2 1 0 0 482 = 0)
        · -- done at once
          have k7 : k ≠ 7 := by
            rintro rfl
            rcases z with z | ⟨z, -⟩
            · have : ∀ kd, kd < 6 → ¬ sV 5 (8 * kd + 7) = 0 := by decide +kernel
              exact this kd hk6 z
            · omega
          obtain ⟨gC', a1, a2, a3⟩ := atOnce_pr h hv (show k < 7 by omega) hm em (by simpa using u)
          rw [if_pos z, if_pos z, if_neg e10, a1, wBd_e]
          unfold fX4_serve_b102 fX11_serves_b91 fX11_serves_b202
          have e30 : (30 : Int32) * nI v + nI 9 = nI (30 * v + 9) := by simp only [li_0, li_1, li_2, li_3, li_4, li_5, li_6, li_7, li_8, li_9, li_10, li_11, li_12, li_13, li_14, li_15, li_16, li_17, li_18, li_19, li_30, li_32, li_40, li_41, li_42, li_43, li_45, li_48, li_57, li_59, li_60, li_61, li_63, li_97, li_99, li_122, li_160, li_200, li_255, li_256, li_257, li_258, li_259, li_360, li_460, li_462, li_470, li_475, li_480, li_481, li_482, li_483, li_484, li_490, li_496, li_510, li_999, li_9999, li_10000, li_10008, li_10009, li_10010, li_10011, li_10012, li_10013, li_10014, li_10015, li_10016, li_100000, nI_mul, nI_add]
          rw [wLe_e, nI_1, e9, e30, wGi_ok (by omega) (by omega), wGi_ok (by omega) (by omega), nI_clamp (by omega), wLe_e, wLe_e]
          refine ⟨gC', st g2 1 0 0 (30 * v + 9) (g2 1 0 0 (30 * v + 9) ||| (nI 1 <<< (nI k &&& nI 31))), rfl, rfl, a2, a3.sv v, ⟨(a3.2.1 v).trans (hn.1.trans (congrFun (congrFun (congrFun a3.2.2 0) 0) v).symm), by rw [st_kind (by decide)]; exact hn.2⟩, fun b hb' q => ?_⟩
          have q' := q
          rw [st_eq] at q'
          rw [st_kind (by decide)]
          by_cases e : b = k
          · exact (q' ((or_bit hk (by omega)).mpr (Or.inl e))).elim
          · exact hu b (by omega) fun w => q' ((or_bit hk (by omega)).mpr (Or.inr w))
        · rw [if_neg z, if_neg z, if_pos rfl]
          have z5 : sV 5 (8 * kd + k) ≠ 0 := fun q => z (Or.inl q)
          obtain ⟨w, gC1, gR1, b1, b2, b3, b4, b5⟩ := hind_pr h hr hb hv hk
          obtain ⟨hT1, hH1⟩ := TK.scr h b3 b4
          have hn1 : HN i v gC1 gR1 := ⟨(hH1.2.1 v).trans (hn.1.trans (congrFun (congrFun (congrFun hH1.2.2 0) 0) v).symm), by rw [hH1.2.2]; exact hn.2⟩
          unfold fX11_serves_b112
          rw [if_neg e10, b1, wB2_e, b2, wB2_e]
          by_cases w1 : w = -1
          · subst w1
            have hkd1 : gR1 1 0 0 (30 * v) = nI kd := by rw [b4 1 (by decide)]; exact hkd
            obtain ⟨gC2, gR2, c1, c2, c3, c4⟩ := start_pr hT1.1 hv hk hk6 hkd1 z5 (fun _ => (hH1.1 v (by omega)).trans h4)
            have hn2 : HN i v gC2 gR2 := ⟨(c4.2.1 v).trans (hn1.1.trans (congrFun (congrFun (congrFun c4.2.2 0) 0) v).symm), by rw [c4.2.2]; exact hn1.2⟩
            obtain ⟨gC', gR', a1, a2, a3, a4, a5, a6, a7⟩ := note_pr (k := k) (w := 2) c3.1 hv hn2 (Or.inr ⟨2, by omega, rfl⟩) (by decide)
            rw [if_neg (show ¬ (0 : Int32) ≤ -1 by decide), c1, wBd_e, wLe_e, a1, if_pos rfl, c2, wBd_e]
            refine ⟨gC', gR', rfl, ?_, (hT1.tr c3).tr a3, ((hH1.tr c4).sv v).tr a4, a5, fun _ _ _ => a6⟩
            unfold fX11_serves_b136 fX11_serves_b172 fX11_serves_b202
            rw [wGi_ok (by omega) (by omega), nI_clamp (show v < 2 ^ 31 by omega)]
            by_cases y : gR2 21 0 0 v = -1
            · rw [if_pos y] at a2
              rw [if_pos y, if_pos rfl, wGi_ok (by omega) (by omega), wLe_e, wLe_e, nI_1, a2]
            · rw [if_neg y] at a2
              rw [if_neg y, wGi_ok (by omega) (by omega), wGi_ok (by omega) (by omega), wLe_e, wLe_e, nI_1, st_same rfl, a2]
          · obtain ⟨gC', gR', a1, a2, a3, a4, a5, a6, a7⟩ := note_pr (k := k) (w := w) hT1.1 hv hn1 b5 w1
            rw [if_pos (b5.lt.mpr w1), a1, if_neg w1]
            refine ⟨gC', gR', rfl, ?_, hT1.tr a3, (hH1.sv v).tr a4, a5, fun _ _ _ => a6⟩
            unfold fX11_serves_b136 fX11_serves_b172 fX11_serves_b202
            rw [wGi_ok (by omega) (by omega), nI_clamp (show v < 2 ^ 31 by omega)]
            by_cases y : gR1 21 0 0 v = -1
            · rw [if_pos y] at a2
              rw [if_pos y, if_neg w1, wGi_ok (by omega) (by omega), wLe_e, wLe_e, nI_1, a2]
            · rw [if_neg y] at a2
              rw [if_neg y, wGi_ok (by omega) (by omega), wGi_ok (by omega) (by omega), wLe_e, wLe_e, nI_1, st_same rfl, a2]
    · -- it can't begin: something ahead isn't done, and is noted
      have nn : g2 21 0 0 v ≠ -1 := Decidable.byContradiction fun q => mb (behind_ok hk fun b hb' => Decidable.byContradiction fun w => hu b hb' w (Decidable.not_not.mp q))
      rw [if_neg mb, if_pos rfl]
      have r59 : fX11_serves_b59 g2 (nI v) (nI k) = some (.inl (g2, nI (k + 1))) := by rw [b112_0 (by omega) hk, if_neg d, if_neg nn]
      unfold fX4_serve_b102
      rw [wLe_e, nI_1, wGi_ok (by omega) (by omega), nI_clamp (show k < 2 ^ 31 by omega), k17, e9, of_ev g2 (by omega), wBd_e, if_neg mb, r59]
      refine ⟨g1, g2, rfl, ?_, TK.rf h, HK.rf.sv v, hn, fun b hb' q => nn⟩
      by_cases p0 : g2 1 0 0 (30 * v + 11 + k) = 0
      · rw [if_pos p0]
      · rw [if_neg p0]
/-- (4): one visit that stands -/
theorem serve_pr {i nv nf ns v : Nat} {gC gR : Mm} (h : PS i gC gR nv nf ns) (hr : RS i gC gR) (hb : VB i gC nv) (hv : v < nv) (h4 : gR 1 0 0 (30 * v + 6) = nI 4) :
    ∃ gC' gR', fX4_serve gC i (nI v) = some gC' ∧ fX11_serves gR (nI v) = some gR' ∧ TK i nv nf ns gC gR gC' gR' ∧ SV v gC gR gC' gR' i ∧ HN i v gC' gR' ∧ gR' 21 0 0 v ≠ -1 := by
  have hv12 := h.nv12
  obtain ⟨a1, a2⟩ := hind_set (x := -1) h hv
  unfold fX4_serve fX11_serves
  rw [wGi_ok (by omega) (by omega), nI_clamp (by omega), wLe_e, wLe_e, wGi_ok (by omega) (by omega), wLe_e, wLe_e]
  obtain ⟨gC', gR', r1, r2, r3, r4, r5, r6⟩ := two_for (F1 := fun g x => fX4_serve_B14 g i (nI v) v x) (F2 := fun g x => fX11_serves_B9 g (nI v) x) (gC := st gC 19 i v 11 (-1)) (gR := st gR 21 0 0 v (-1))
    (fun a b => TK i nv nf ns (st gC 19 i v 11 (-1)) (st gR 21 0 0 v (-1)) a b ∧ SV v (st gC 19 i v 11 (-1)) (st gR 21 0 0 v (-1)) a b i ∧ HN i v a b ∧ UD v 8 b)
    (fun k g1 g2 => SV v (st gC 19 i v 11 (-1)) (st gR 21 0 0 v (-1)) g1 g2 i ∧ HN i v g1 g2 ∧ UD v k g2) 8 (by omega)
    (fun k g1 g2 hk hT ⟨j1, j2, j3⟩ => by
      obtain ⟨a, b, r1, r2, r3, r4, r5, r6⟩ := serve_step hT.1 ((hr.fr a1.2.1 a1.2.2).fr hT.2.1 hT.2.2) ((hb.fr a1.2.1).fr hT.2.1) hv hk ((j1.1 v (by omega)).trans ((a2.1 v (by omega)).trans h4)) j2 j3
      exact ⟨a, b, r1, r2, r3, j1.tr r4, r5, r6⟩)
    (fun g1 g2 hT ⟨j1, j2, j3⟩ => ⟨g1, g2, rfl, rfl, hT, j1, j2, j3⟩) a1.1 ⟨HK.rf.sv v, ⟨st_eq.trans st_eq.symm, by rw [st_eq]; exact Or.inl rfl⟩, fun b hb' _ => absurd hb' (by omega)⟩
  refine ⟨gC', gR', r1, r2, a1.tr r3, a2.tr r4, r5, r6 7 (by omega) fun q => ?_⟩
  have h6 : gR' 1 0 0 (30 * v + 6) = nI 4 := (r4.1 v (by omega)).trans ((a2.1 v (by omega)).trans h4)
  have h9 := (r3.1.2.2.2.2.1.2.2.2.2.2.2.1 v hv).2.1 4 (by omega) h6
  rw [bitI (by omega)] at q
  have := congrArg (fun z : Int32 => z.toBitVec.getLsbD 7) h9
  rw [Int32.toBitVec_and, BitVec.getLsbD_and, q] at this
  exact absurd this (by decide)
