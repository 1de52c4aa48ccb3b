-- ===== beside the port: rule, tape, estimates =====
theorem TX.off {gC gR gC' gR' : Mm} (h : TX gC gR) (h1 : gC' 1 0 0 1 = gC 1 0 0 1 ∧ gC' 1 0 0 2 = gC 1 0 0 2) (h94 : gC' 9 0 0 4 = gC 9 0 0 4) (h6 : ∀ t, gC' 6 t 0 = gC 6 t 0) (h7 : ∀ t, gC' 7 t 0 = gC 7 t 0) (r0 : gR' 0 0 0 12 = gR 0 0 0 12 ∧ gR' 0 0 0 13 = gR 0 0 0 13) (r7 : gR' 7 = gR 7) (r8 : gR' 8 = gR 8) : TX gC' gR' := by
  obtain ⟨nt, t, a1, a2, a3, a4, a5, a6, a7, a8⟩ := h
  exact ⟨nt, t, a1, a2, h1.1.trans a3, r0.1.trans a4, h1.2.trans a5, r0.2.trans a6, h94.trans a7, fun t' ht' => (a8 t' ht').off (h6 t') (h7 t') r7 r8⟩
theorem TP.off {gC gR gC' gR' : Mm} (h : TP gC gR) (h1 : gC' 1 0 0 0 = gC 1 0 0 0) (h4 : gC' 4 0 0 = gC 4 0 0) (r0 : gR' 0 0 0 11 = gR 0 0 0 11) (r6 : gR' 6 = gR 6) : TP gC' gR' := by
  unfold TP at *
  rw [h1, h4, r0, r6]
  exact h
theorem ES.off {gC gR gC' gR' : Mm} (h : ES gC gR) (h1 : gC' 24 0 0 = gC 24 0 0) (h2 : gC' 25 0 0 = gC 25 0 0) (h3 : gC' 26 0 0 = gC 26 0 0) (h4 : gC' 27 0 0 = gC 27 0 0) (r0 : gR' 0 0 0 4 = gR 0 0 0 4) (r2 : gR' 2 = gR 2) (r3 : gR' 3 = gR 3) (r4 : gR' 4 = gR 4) : ES gC' gR' := by
  unfold ES at *
  rw [h1, h2, h3, h4, r0, r2, r3, r4]
  exact h
theorem PL.off {gC gR gC' gR' : Mm} {nv ns : Nat} (h : PL gC gR nv ns) (h1 : gC' 23 0 0 = gC 23 0 0) (r0 : gR' 0 0 0 8 = gR 0 0 0 8) (r5 : gR' 5 = gR 5) : PL gC' gR' nv ns := by
  unfold PL at *
  rw [h1, r0, r5]
  exact h
theorem SHE.off {gC gR gC' gR' : Mm} (h : SHE gC gR) (h1 : ∀ s, gC' 29 s 0 = gC 29 s 0) (h2 : ∀ s, gC' 30 s 0 = gC 30 s 0) (r0 : gR' 10 = gR 10) (r1 : gR' 11 = gR 11) (r2 : gR' 12 = gR 12) : SHE gC' gR' := by
  intro s hs
  rw [h1, h2, r0, r1, r2]
  exact h s hs
/-- the port is as it was -/
theorem R3.ot {gC gR gC' gR' : Mm} {nv nf ns : Nat} (h : R3 gC gR nv nf ns) (hC : ∀ t i v j, (9 ≤ t ∧ t ≤ 22) → (t = 9 → j ≤ 3) → gC' t i v j = gC t i v j) (hR1 : ∀ t, t = 1 ∨ (13 ≤ t ∧ t ≤ 18) → gR' t = gR t) (hR0 : ∀ j, 1 ≤ j → j ≤ 3 → gR' 0 0 0 j = gR 0 0 0 j) (tx : TX gC' gR') (tp : TP gC' gR') (es : ES gC' gR') (pl : PL gC' gR' nv ns) (sh : SHE gC' gR') : R3 gC' gR' nv nf ns := by
  obtain ⟨h1, h2, h3, h4, h5, h6, h7, h8, h9, h10⟩ := h
  refine ⟨h1.frm (fun t v j q q9 _ => hC t 0 v j (by omega) q9) hR0 (fun t ht => hR1 t (by omega)), ?_, ?_, tx, tp, es, pl, sh, ?_, h10.off (hC 9 0 0 0 (by omega) (by omega)) fun v c => hC 21 0 v c (by omega) (by omega)⟩
  · intro v hv
    obtain ⟨e, he, q⟩ := h2 v hv
    exact ⟨e, he, (hC 19 0 v 2 (by omega) (by omega)).trans q⟩
  · refine ⟨fun v q1 q2 => ?_, fun f q1 q2 => (hC 22 0 f 4 (by omega) (by omega)).trans (h3.2 f q1 q2)⟩
    obtain ⟨k1, k2, k3, k4⟩ := h3.1 v q1 q2
    exact ⟨(hC 19 0 v 4 (by omega) (by omega)).trans k1, (hC 19 0 v 9 (by omega) (by omega)).trans k2, (hC 19 0 v 10 (by omega) (by omega)).trans k3, fun c hc => (hC 21 0 v c (by omega) (by omega)).trans (k4 c hc)⟩
  · intro k hk
    rw [hR1 18 (by omega)]
    exact h9 k hk
theorem sc_force {gC gR : Mm} (h : Rel gC gR) (a : Int32) : ∃ gC1 gR1 r, fX10_force gC a = some (gC1, r) ∧ fX11_force gR a = some (gR1, r) ∧ Rel gC1 gR1 := by
  obtain ⟨nv, nf, ns, h⟩ := h
  have stay := fun r : Int32 => stays (r := r) (⟨nv, nf, ns, h⟩ : Rel gC gR)
  obtain ⟨nt, t, a1, a2, a3, a4, a5, a6, a7, a8⟩ := h.2.2.2.1
  unfold fX10_force fX11_force
  rw [a3, a4]
  rcases in_cnt gR (show nt < 2 ^ 31 by omega) a with ⟨n, hn, rfl, e⟩ | ⟨q, e⟩
  · rw [e, wBd_e, if_neg c10, if_neg (nI_pos (by omega)), if_pos (nI_lt hn (by omega)), wLe_e, wLe_e, wLe_e, wLe_e]
    unfold fX8_rule
    rw [st_eq, wGi_ok (by omega) (by omega), nI_clamp (by omega), wBd_e, wGd_ok (by omega), wLe_e, a5, a6]
    refine ⟨_, _, nI t, rfl, rfl, nv, nf, ns, h.ot (fun t i v j q q9 => by rw [st_ne (by omega), st_ne (by omega)]) (fun t q => st_kind (by omega)) (fun j q1 q2 => st_ne (by omega)) ⟨nt, n, hn, a2, ?_, ?_, ?_, st_eq, st_eq, fun t' ht' => ?_⟩ ?_ ?_ ?_ ?_⟩
    · rw [st_ne (by omega), st_ne (by omega)]; exact a3
    · rw [st_ne (by omega)]; exact a4
    · rw [st_ne (by omega), st_eq]
    · exact (a8 t' ht').off (by rw [st_kind (by decide), st_kind (by decide)]) (by rw [st_kind (by decide), st_kind (by decide)]) (st_kind (by decide)) (st_kind (by decide))
    · exact h.2.2.2.2.1.off (by rw [st_ne (by omega), st_ne (by omega)]) (by rw [st_kind (by decide), st_kind (by decide)]) (st_ne (by omega)) (st_kind (by decide))
    · exact h.2.2.2.2.2.1.off (by rw [st_kind (by decide), st_kind (by decide)]) (by rw [st_kind (by decide), st_kind (by decide)]) (by rw [st_kind (by decide), st_kind (by decide)]) (by rw [st_kind (by decide), st_kind (by decide)]) (st_ne (by omega)) (st_kind (by decide)) (st_kind (by decide)) (st_kind (by decide))
    · exact h.2.2.2.2.2.2.1.off (by rw [st_kind (by decide), st_kind (by decide)]) (st_ne (by omega)) (st_kind (by decide))
    · exact h.2.2.2.2.2.2.2.1.off (fun s => by rw [st_kind (by decide), st_kind (by decide)]) (fun s => by rw [st_kind (by decide), st_kind (by decide)]) (st_kind (by decide)) (st_kind (by decide)) (st_kind (by decide))
  · rw [e, wBd_e, if_pos rfl]
    rcases q with q | ⟨v, q1, q2, rfl⟩
    · rw [if_pos q]; exact stay _
    · rw [if_neg (nI_pos q2), if_neg (nI_nlt q1 q2)]; exact stay _
theorem SC.fw {nv nf : Nat} {g g' : Mm} (h : SC g g') : FW nv nf g g' := fun t i v j q => by rw [h t (by unfold wW at q; omega) (by unfold wW at q; omega)]
theorem SR.fv {g g' : Mm} (h : SR g g') : FV g g' := fun t _ b _ _ => h t b
theorem sc_tells {gC gR : Mm} (h : Rel gC gR) (a b : Int32) : ∃ gC1 gR1 r, fX10_tells gC a b = some (gC1, r) ∧ fX11_tells gR a b = some (gR1, r) ∧ Rel gC1 gR1 := by
  obtain ⟨nv, nf, ns, h⟩ := h
  have hP := h.1
  have stay : ∃ (gC1 gR1 : Mm) (r : Int64), some (gC, (-4611686018427387904 : Int64)) = some (gC1, r) ∧ some (gR, (-4611686018427387904 : Int64)) = some (gR1, r) ∧ Rel gC1 gR1 := ⟨gC, gR, _, rfl, rfl, nv, nf, ns, h⟩
  unfold fX10_tells fX11_tells
  rcases isv hP a with ⟨v, hv, rfl, e1, e2⟩ | ⟨e1, e2⟩
  · rw [e1, e2, wBd_e, wBd_e, if_neg c10, if_neg c10]
    rcases posneg b with hb | ⟨n, hn, rfl⟩
    · rw [if_pos hb, show fX11_in gR b 0 2 = some 0 from in_neg (lo := 0) hb (by omega), wBd_e, if_pos rfl]; exact stay
    · rw [if_neg (nI_pos hn), show fX11_in gR (nI n) 0 2 = _ from in_ev (lo := 0) (hi := 2) hn (by omega) (by omega), wBd_e]
      by_cases c : n < 3
      · obtain ⟨y, m, gC1, gC', gR', a1, a2, a3, a4, a5, a6, a7, a8⟩ := ask_pr (q := n) hP h.rs h.2.1 hv c (-1)
        have hx := a6.tr a7
        obtain ⟨hT, -⟩ := TK.scr hP hx a8
        rw [if_pos (show nI n < (3 : Int32) from nI_lt (b := 3) c (by omega)), if_pos (show 0 ≤ n ∧ n ≤ 2 by omega), if_neg c10, a2, wBd_e, a3, wGr_ok a1, a4, wB2_e, a5, wB2_e]
        refine ⟨gC', gR', _, rfl, rfl, nv, nf, ns, h.fw hT.1 hx.fw a8.fv (h.ct.off ?_ fun v c => ?_)⟩
        · rw [hx 9 (by decide) (by decide)]
        · rw [hx 21 (by decide) (by decide)]
      · rw [if_neg (show ¬ nI n < (3 : Int32) from nI_nlt (b := 3) (by omega) hn), if_neg (show ¬ (0 ≤ n ∧ n ≤ 2) by omega), if_pos rfl]; exact stay
  · rw [e1, e2, wBd_e, wBd_e, if_pos rfl, if_pos rfl]; exact stay
theorem sc_estimate {gC gR : Mm} (h : Rel gC gR) (a b : Int32) : ∃ gC1 gR1 r, fX10_estimate gC a b = some (gC1, r) ∧ fX11_estimate gR a b = some (gR1, r) ∧ Rel gC1 gR1 := by
  obtain ⟨nv, nf, ns, h⟩ := h
  have hP := h.1
  have stay := fun r : Int32 => stays (r := r) (⟨nv, nf, ns, h⟩ : Rel gC gR)
  unfold fX10_estimate fX11_estimate
  rcases isv hP a with ⟨v, hv, rfl, e1, e2⟩ | ⟨e1, e2⟩
  · rw [e1, e2, wBd_e, wBd_e, if_neg c10, if_neg c10]
    rcases posneg b with hb | ⟨n, hn, rfl⟩
    · rw [if_pos hb, show fX11_in gR b 0 9999 = some 0 from in_neg (lo := 0) hb (by omega), wBd_e, if_pos rfl]; exact stay _
    · rw [if_neg (nI_pos hn), show fX11_in gR (nI n) 0 9999 = _ from in_ev (lo := 0) (hi := 9999) hn (by omega) (by omega), wBd_e]
      by_cases c : n ≤ 9999
      · obtain ⟨ne, n1, n2, n3, n4⟩ := h.2.2.2.2.2.1
        rw [if_pos (show nI n ≤ (9999 : Int32) from nI_le (b := 9999) c (by omega)), if_pos (show 0 ≤ n ∧ n ≤ 9999 by omega), if_neg c10, n3, hP.e9]
        unfold fX0_add
        rw [n2]
        by_cases n40 : ne = 40
        · subst n40
          rw [if_neg (by decide), wB2_e, if_pos (by decide)]; exact stay _
        · have hn : ne < 40 := by omega
          rw [if_pos (show nI ne < (40 : Int32) from nI_lt (b := 40) hn (by omega)), if_neg (show ¬ nI ne = (40 : Int32) from fun z => by rw [show (40 : Int32) = nI 40 from rfl, nI_eq (by omega) (by omega)] at z; omega)]
          simp (disch := omega) only [wLe_e, wB2_e, wGi_ok, nI_clamp, st_ne, n2, n3, nI_1, st_eq, i480f, c480f]
          refine ⟨_, _, nI ne, rfl, congrArg (fun z => some (_, z)) (nI_s1 ne), nv, nf, ns, ?_⟩
          refine h.ot (fun t i v j q q9 => by simp (disch := omega) only [st_ne]) (fun t q => by rw [st_kind (by omega), st_kind (by omega), st_kind (by omega), st_kind (by omega)]) (fun j q1 q2 => by simp (disch := omega) only [st_ne]) ?_ ?_ ⟨ne + 1, by omega, st_eq, st_eq, fun e he => ?_⟩ ?_ ?_
          · exact h.2.2.2.1.off ⟨by simp (disch := omega) only [st_ne], by simp (disch := omega) only [st_ne]⟩ (by simp (disch := omega) only [st_ne]) (fun t => by simp (disch := omega) only [st_kind]) (fun t => by simp (disch := omega) only [st_kind]) ⟨by simp (disch := omega) only [st_ne], by simp (disch := omega) only [st_ne]⟩ (by simp (disch := omega) only [st_kind]) (by simp (disch := omega) only [st_kind])
          · exact h.2.2.2.2.1.off (by simp (disch := omega) only [st_ne]) (by simp (disch := omega) only [st_kind]) (by simp (disch := omega) only [st_ne]) (by simp (disch := omega) only [st_kind])
          · by_cases z : e = ne
            · subst z
              refine ⟨?_, ?_, ?_⟩ <;> simp (disch := omega) only [st_ne, st_eq]
            · obtain ⟨k1, k2, k3⟩ := n4 e (by omega)
              simp (disch := omega) only [st_ne]
              exact ⟨k1, k2, k3⟩
          · exact h.2.2.2.2.2.2.1.off (by simp (disch := omega) only [st_kind]) (by simp (disch := omega) only [st_ne]) (by simp (disch := omega) only [st_kind])
          · exact h.2.2.2.2.2.2.2.1.off (fun s => by simp (disch := omega) only [st_kind]) (fun s => by simp (disch := omega) only [st_kind]) (by simp (disch := omega) only [st_kind]) (by simp (disch := omega) only [st_kind]) (by simp (disch := omega) only [st_kind])
      · rw [if_neg (show ¬ nI n ≤ (9999 : Int32) from nI_ge (a := 9999) (by omega) hn), if_neg (show ¬ (0 ≤ n ∧ n ≤ 9999) by omega), if_pos rfl]; exact stay _
  · rw [e1, e2, wBd_e, wBd_e, if_pos rfl, if_pos rfl]; exact stay _
-- ===== the tape =====
theorem byte_and (x : Int64) : (x &&& (255 : Int64)).toInt32 = x.toInt32 &&& (255 : Int32) := by
  apply Int32.toBitVec_inj.mp
  rw [Int32.toBitVec_and]
  show ((x &&& (255 : Int64)).toBitVec.signExtend 32) = (x.toBitVec.signExtend 32) &&& _
  rw [Int64.toBitVec_and]
  refine BitVec.eq_of_getLsbD_eq fun i hi => ?_
  rw [BitVec.getLsbD_and, BitVec.getLsbD_signExtend, BitVec.getLsbD_signExtend, BitVec.getLsbD_and]
  have e : (255 : Int64).toBitVec.getLsbD i = (255 : Int32).toBitVec.getLsbD i := by
    have : ∀ i, i < 32 → (255 : Int64).toBitVec.getLsbD i = (255 : Int32).toBitVec.getLsbD i := by decide
    exact this i hi
  rw [e]
  simp [hi, show i < 64 by omega]
theorem byte_of (x : Int32) : ∃ b : Nat, b < 256 ∧ x &&& (255 : Int32) = nI b := by
  refine ⟨(x &&& (255 : Int32)).toBitVec.toNat, ?_, ?_⟩
  · rw [Int32.toBitVec_and, BitVec.toNat_and]
    have : (255 : Int32).toBitVec.toNat = 255 := by decide
    rw [this]
    exact Nat.lt_of_le_of_lt Nat.and_le_right (by omega)
  · apply Int32.toBitVec_inj.mp
    show _ = BitVec.ofNat 32 _
    rw [BitVec.ofNat_toNat, BitVec.setWidth_eq]
theorem sc_feedTape {gC gR : Mm} (h : Rel gC gR) (w : Int64) (a : Int32) : ∃ gC1 gR1 r, fX10_feedTape gC w a = some (gC1, r) ∧ fX11_feedTape gR w a = some (gR1, r) ∧ Rel gC1 gR1 := by
  obtain ⟨nv, nf, ns, h⟩ := h
  have stay := fun r : Int32 => stays (r := r) (⟨nv, nf, ns, h⟩ : Rel gC gR)
  unfold fX10_feedTape fX11_feedTape
  rcases posneg a with ha | ⟨n, hn, rfl⟩
  · rw [if_pos (show a < (1 : Int32) from neg_lt (n := 1) ha (by omega)), show fX11_in gR a 1 8 = some 0 from in_neg (lo := 1) ha (by omega), wBd_e, if_pos rfl]; exact stay _
  · rw [show fX11_in gR (nI n) 1 8 = _ from in_ev (lo := 1) (hi := 8) hn (by omega) (by omega), wBd_e]
    by_cases c1 : n < 1
    · rw [if_pos (show nI n < (1 : Int32) from nI_lt (b := 1) c1 (by omega)), if_neg (show ¬ (1 ≤ n ∧ n ≤ 8) by omega), if_pos rfl]; exact stay _
    · rw [if_neg (show ¬ nI n < (1 : Int32) from nI_nlt (b := 1) (by omega) hn)]
      by_cases c2 : n ≤ 8
      · obtain ⟨k, k1, k2, k3, k4⟩ := h.2.2.2.2.1
        rw [if_pos (show nI n ≤ (8 : Int32) from nI_le (b := 8) c2 (by omega)), if_pos (show 1 ≤ n ∧ n ≤ 8 by omega), if_neg c10, k3, nI_add]
        unfold fX8_append
        rw [k2, nI_add]
        by_cases d : k + n ≤ 160
        · rw [if_pos (show nI (k + n) ≤ (160 : Int32) from nI_le (b := 160) d (by omega)), if_pos (show nI (k + n) ≤ (160 : Int32) from nI_le (b := 160) d (by omega)), wLe_e, wLe_e]
          have key := wLp_two (f1 := fun q : Mm × Int32 => fX8_append_B20 q.1 w (nI n) q.2) (f2 := fun q : Mm × Int32 => fX11_feedTape_B33 q.1 w (nI n) q.2) (fun t1 t2 => ∃ gC1 gR1 r, t1 = (gC1, r) ∧ t2 = (gR1, r) ∧ R3 gC1 gR1 nv nf ns)
            (fun m s1 s2 => ∃ g1 g2, s1 = (g1, nI (n - m) + -nI 1) ∧ s2 = (g2, nI (n - m) + -nI 1) ∧ R3 g1 g2 nv nf ns ∧ g1 1 0 0 0 = nI (k + m) ∧ g2 0 0 0 11 = nI (k + m)) n
            (fun m s1 s2 hm ⟨g1, g2, e1, e2, e3, e4, e5⟩ => by
              subst e1; subst e2
              left
              have nm : nI (n - m) + -nI 1 = nI (n - (m + 1)) := by
                rw [show n - m = n - (m + 1) + 1 by omega]
                exact nI_p1 _
              dsimp only
              unfold fX8_append_B20 fX11_feedTape_B33
              rw [nm, if_neg (nI_pos (by omega)), if_neg (nI_pos (by omega)), e4, e5, wGi_ok (by omega) (by omega), wGi_ok (by omega) (by omega), nI_clamp (by omega), byte_and]
              obtain ⟨b, hb, eb⟩ := byte_of ((w >>> (((8 : Int32) * nI (n - (m + 1))).toInt64 &&& 63)).toInt32)
              rw [eb, wLe_e, wLe_e, wLe_e, wLe_e, wLe_e, wLe_e, st_ne (by omega), st_ne (by omega), e4, e5, nI_1]
              refine ⟨_, _, rfl, rfl, _, _, rfl, rfl, ?_, st_eq.trans (by rw [Nat.add_assoc]), st_eq.trans (by rw [Nat.add_assoc])⟩
              obtain ⟨k', p1, p2, p3, p4⟩ := e3.2.2.2.2.1
              have kk : k' = k + m := by
                rw [e4, nI_eq (by omega) (by omega)] at p2
                omega
              subst kk
              refine e3.ot (fun t i v j q q9 => by rw [st_ne (by omega), st_ne (by omega)]) (fun t q => by rw [st_kind (by omega), st_kind (by omega)]) (fun j q1 q2 => by rw [st_ne (by omega), st_ne (by omega)]) ?_ ⟨k + m + 1, by omega, st_eq, st_eq, fun j hj => ?_⟩ ?_ ?_ ?_
              · exact e3.2.2.2.1.off ⟨by rw [st_ne (by omega), st_ne (by omega)], by rw [st_ne (by omega), st_ne (by omega)]⟩ (by rw [st_ne (by omega), st_ne (by omega)]) (fun t => by rw [st_kind (by decide), st_kind (by decide)]) (fun t => by rw [st_kind (by decide), st_kind (by decide)]) ⟨by rw [st_ne (by omega), st_ne (by omega)], by rw [st_ne (by omega), st_ne (by omega)]⟩ (by rw [st_kind (by decide), st_kind (by decide)]) (by rw [st_kind (by decide), st_kind (by decide)])
              · by_cases z : j = k + m
                · subst z
                  exact ⟨b, hb, by rw [st_ne (by omega), st_eq], by rw [st_ne (by omega), st_eq]⟩
                · obtain ⟨b', q1, q2, q3⟩ := p4 j (by omega)
                  exact ⟨b', q1, by rw [st_ne (by omega), st_ne (by omega)]; exact q2, by rw [st_ne (by omega), st_ne (by omega)]; exact q3⟩
              · exact e3.2.2.2.2.2.1.off (by rw [st_kind (by decide), st_kind (by decide)]) (by rw [st_kind (by decide), st_kind (by decide)]) (by rw [st_kind (by decide), st_kind (by decide)]) (by rw [st_kind (by decide), st_kind (by decide)]) (by rw [st_ne (by omega), st_ne (by omega)]) (by rw [st_kind (by decide), st_kind (by decide)]) (by rw [st_kind (by decide), st_kind (by decide)]) (by rw [st_kind (by decide), st_kind (by decide)])
              · exact e3.2.2.2.2.2.2.1.off (by rw [st_kind (by decide), st_kind (by decide)]) (by rw [st_ne (by omega), st_ne (by omega)]) (by rw [st_kind (by decide), st_kind (by decide)])
              · exact e3.2.2.2.2.2.2.2.1.off (fun s => by rw [st_kind (by decide), st_kind (by decide)]) (fun s => by rw [st_kind (by decide), st_kind (by decide)]) (by rw [st_kind (by decide), st_kind (by decide)]) (by rw [st_kind (by decide), st_kind (by decide)]) (by rw [st_kind (by decide), st_kind (by decide)]))
            (fun s1 s2 ⟨g1, g2, e1, e2, e3, e4, e5⟩ => by
              subst e1; subst e2
              have z : nI (n - n) + -nI 1 < 0 := by rw [Nat.sub_self]; decide
              dsimp only
              unfold fX8_append_B20 fX11_feedTape_B33
              rw [if_pos z, if_pos z, wEx_e, wEx_e]
              exact ⟨_, _, rfl, rfl, g1, g2, g1 1 0 0 0, rfl, by rw [e4, e5], e3⟩)
            (k := 0) (Nat.zero_le _) (s1 := (gC, nI n - 1)) (s2 := (gR, nI n - 1)) ⟨gC, gR, by rw [Int32.sub_eq_add_neg]; rfl, by rw [Int32.sub_eq_add_neg]; rfl, h, k2, k3⟩ (u1 := 1000) (u2 := 1000) (by omega) (by omega)
          obtain ⟨t1, t2, r1, r2, gC1, gR1, r, b1, b2, b3⟩ := key
          subst b1; subst b2
          refine ⟨gC1, gR1, r, ?_, r2, nv, nf, ns, b3⟩
          rw [show fX8_append_L20 gC w (nI n) (nI n - 1) = some (gC1, r) from r1, wB2_e]
        · rw [if_neg (show ¬ nI (k + n) ≤ (160 : Int32) from nI_ge (a := 160) (by omega) (by omega)), if_neg (show ¬ nI (k + n) ≤ (160 : Int32) from nI_ge (a := 160) (by omega) (by omega)), wB2_e]; exact stay _
      · rw [if_neg (show ¬ nI n ≤ (8 : Int32) from nI_ge (a := 8) (by omega) hn), if_neg (show ¬ (1 ≤ n ∧ n ≤ 8) by omega), if_pos rfl]; exact stay _
