-- ===== settings, visits, feeds =====
theorem sv01 : ∀ n, n < 9 → sV 0 n = nI (if n = 8 then 1 else 0) ∧ sV 1 n = nI (if n < 5 ∨ n = 7 then 9 else if n = 8 then 2 else 1) := by decide +kernel
def okS (n m : Nat) : Prop := (if n = 8 then 1 else 0) ≤ m ∧ m ≤ (if n < 5 ∨ n = 7 then 9 else if n = 8 then 2 else 1)
theorem maySet_ev {g : Mm} {n m : Nat} (hn : n < 9) (hm : m < 2 ^ 31) : fX4_maySet g (nI n) (nI m) = some (if (if n = 8 then 1 else 0) ≤ m ∧ m ≤ (if n < 5 ∨ n = 7 then 9 else if n = 8 then 2 else 1) then 1 else 0) := by
  obtain ⟨s0, s1⟩ := sv01 n hn
  unfold fX4_maySet
  rw [if_neg (nI_pos (by omega)), if_neg (show ¬ (9 : Int32) ≤ nI n from nI_ge (b := 9) hn (by omega)), wGi_ok (by omega) (by omega), nI_clamp (by omega), s0, wGi_ok (by omega) (by omega), s1]
  have hl : (if n = 8 then 1 else 0) < 2 ^ 31 := by split <;> omega
  have hh : (if n < 5 ∨ n = 7 then 9 else if n = 8 then 2 else 1) < 2 ^ 31 := by
    split
    · omega
    · split <;> omega
  by_cases c : m < (if n = 8 then 1 else 0)
  · rw [if_pos (nI_lt c hl), if_neg (by omega)]
  · rw [if_neg (nI_nlt (by omega) hm)]
    by_cases d : (if n < 5 ∨ n = 7 then 9 else if n = 8 then 2 else 1) < m
    · rw [if_pos (nI_lt d hm), if_neg (by omega)]
    · rw [if_neg (nI_nlt (by omega) hh), if_pos (by omega)]
theorem setR_ev {g : Mm} {n m : Nat} (hn : n < 9) (hm : m < 2 ^ 31) : fX11_set g (nI n) (nI m) = fX11_set_b65 g (nI n) (nI m) (if (if n = 8 then 1 else 0) ≤ m ∧ m ≤ (if n < 5 ∨ n = 7 then 9 else if n = 8 then 2 else 1) then 1 else 0) := by
  have h9 : fX11_in g (nI m) 0 9 = some (if 0 ≤ m ∧ m ≤ 9 then 1 else 0) := in_ev (lo := 0) (hi := 9) hm (by omega) (by omega)
  have h1 : fX11_in g (nI m) 0 1 = some (if 0 ≤ m ∧ m ≤ 1 then 1 else 0) := in_ev (lo := 0) (hi := 1) hm (by omega) (by omega)
  have h2 : fX11_in g (nI m) 1 2 = some (if 1 ≤ m ∧ m ≤ 2 then 1 else 0) := in_ev (lo := 1) (hi := 2) hm (by omega) (by omega)
  unfold fX11_set fX11_set_b15 fX11_set_b36 fX11_set_b64
  rw [show fX11_in g (nI n) 0 4 = _ from in_ev (lo := 0) (hi := 4) (show n < 2 ^ 31 by omega) (by omega) (by omega), wBd_e, h9, h1, h2, wBd_e, wBd_e, wBd_e]
  rcases (show n = 0 ∨ n = 1 ∨ n = 2 ∨ n = 3 ∨ n = 4 ∨ n = 5 ∨ n = 6 ∨ n = 7 ∨ n = 8 by omega) with rfl | rfl | rfl | rfl | rfl | rfl | rfl | rfl | rfl
  · rfl
  · rfl
  · rfl
  · rfl
  · rfl
  · rfl
  · rfl
  · rfl
  · show (if (if 1 ≤ m ∧ m ≤ 2 then (1 : Int32) else 0) = 0 then fX11_set_b65 g (nI 8) (nI m) 0 else fX11_set_b65 g (nI 8) (nI m) 1) = fX11_set_b65 g (nI 8) (nI m) (if 1 ≤ m ∧ m ≤ 2 then 1 else 0)
    by_cases c : 1 ≤ m ∧ m ≤ 2
    · rw [if_pos c, if_neg c10]
    · rw [if_neg c, if_pos rfl]
theorem sc_set {gC gR : Mm} (h : Rel gC gR) (a b : Int32) : ∃ gC1 gR1 r, fX10_set gC a b = some (gC1, r) ∧ fX11_set gR a b = some (gR1, r) ∧ Rel gC1 gR1 := by
  obtain ⟨nv, nf, ns, h⟩ := h
  have hP := h.1
  have hf16 := hP.nf16
  have hv12 := hP.nv12
  have stay := fun r : Int32 => stays (r := r) (⟨nv, nf, ns, h⟩ : Rel gC gR)
  rcases posneg a with ha | ⟨n, hn, rfl⟩
  · unfold fX10_set fX11_set fX11_set_b64 fX11_set_b65
    rw [show fX4_maySet gC a b = some 0 from if_pos ha, wBd_e, if_pos rfl, show fX11_in gR a 0 4 = some 0 from in_neg (lo := 0) ha (by omega), wBd_e, if_pos rfl, if_neg (show ¬ a = 7 from neg_ne (n := 7) ha (by omega)), if_neg (show ¬ a = 5 from neg_ne (n := 5) ha (by omega)), if_neg (show ¬ a = 6 from neg_ne (n := 6) ha (by omega)), if_neg (show ¬ a = 8 from neg_ne (n := 8) ha (by omega)), if_pos rfl]
    exact stay _
  · by_cases c9 : n < 9
    · rcases posneg b with hb | ⟨m, hm, rfl⟩
      · obtain ⟨s0, s1⟩ := sv01 n c9
        have e0 : fX4_maySet gC (nI n) b = some 0 := by
          unfold fX4_maySet
          rw [if_neg (nI_pos hn), if_neg (show ¬ (9 : Int32) ≤ nI n from nI_ge (b := 9) c9 (by omega)), wGi_ok (by omega) (by omega), nI_clamp (by omega), s0, if_pos (neg_lt hb (by split <;> omega))]
        have h9 : fX11_in gR b 0 9 = some 0 := in_neg (lo := 0) hb (by omega)
        have h1 : fX11_in gR b 0 1 = some 0 := in_neg (lo := 0) hb (by omega)
        have h2 : fX11_in gR b 1 2 = some 0 := in_neg (lo := 1) hb (by omega)
        unfold fX10_set fX11_set fX11_set_b15 fX11_set_b36 fX11_set_b64 fX11_set_b65
        rw [e0, wBd_e, if_pos rfl, h9, h1, h2]
        simp only [wBd_e, eq_self, if_true]
        have : ∃ y, fX11_in gR (nI n) 0 4 = some y := by
          unfold fX11_in
          repeat' split
          all_goals exact ⟨_, rfl⟩
        obtain ⟨y, ey⟩ := this
        rw [ey, wBd_e]
        repeat' split
        all_goals exact stay _
      · unfold fX10_set
        rw [maySet_ev c9 hm, setR_ev c9 hm, wBd_e]
        by_cases ok : (if n = 8 then 1 else 0) ≤ m ∧ m ≤ (if n < 5 ∨ n = 7 then 9 else if n = 8 then 2 else 1)
        · rw [if_pos ok, if_neg c10]
          -- the number is written
          have wr : ∃ gC1 gR1 r, fX10_set_b32 gC (nI n) (nI m) = some (gC1, r) ∧ fX11_set_b95 gR (nI n) (nI m) = some (gR1, r) ∧ Rel gC1 gR1 := by
            obtain ⟨at', ix, e95, hat, hpi⟩ : ∃ at' : Nat, ixR nv nf ns 10 0 n at' ∧ fX11_set_b95 gR (nI n) (nI m) = fX11_set_b146 gR (nI n) (nI m) (nI at') ∧ at' < 510 ∧ PI (upd (gR 1 0 0) at' (nI m)) nv nf ns := by
              have fr : ∀ k, (470 ≤ k ∧ k < 480) ∨ (481 ≤ k ∧ k < 484) → PI (upd (gR 1 0 0) k (nI m)) nv nf ns := fun k hk => hP.2.2.2.2.1.free (by unfold piI; rintro (q | q | q | q | q | ⟨v', q1, q2⟩ | ⟨f, q1, q2⟩) <;> omega)
              by_cases n5 : n < 5
              · refine ⟨470 + n, ix_e10s n5, ?_, by omega, fr _ (by omega)⟩
                unfold fX11_set_b95
                rw [if_neg (show ¬ (4 : Int32) < nI n from nI_nlt (a := 4) (by omega) (by omega)), show (470 : Int32) + nI n = nI (470 + n) from nI_add 470 n]
              · rcases (show n = 5 ∨ n = 6 ∨ n = 7 ∨ n = 8 by omega) with rfl | rfl | rfl | rfl
                · exact ⟨481, ix_e10_5, rfl, by omega, fr _ (by omega)⟩
                · exact ⟨482, ix_e10_6, rfl, by omega, fr _ (by omega)⟩
                · exact ⟨483, ix_e10_7, rfl, by omega, fr _ (by omega)⟩
                · refine ⟨484, ix_e10_8, rfl, by omega, hP.2.2.2.2.1.runways ?_⟩
                  have ok : 1 ≤ m ∧ m ≤ 2 := ok
                  rcases (show m = 1 ∨ m = 2 by omega) with rfl | rfl
                  · exact Or.inl rfl
                  · exact Or.inr rfl
            have u := hP.2.2.1 10 0 n at' ix
            rw [e95]
            unfold fX10_set_b32 fX11_set_b146
            rw [wGi_ok (by omega) (by omega), nI_clamp (by omega), wLe_e, wGi_ok (by omega) (by omega), wLe_e, wGi_ok (by omega) (by omega), nI_clamp (by omega), wLe_e, wGi_ok (by omega) (by omega), wLe_e, u]
            exact ⟨_, _, _, rfl, rfl, nv, nf, ns, h.set ix hpi (by decide) (by decide) (by omega)⟩
          unfold fX11_set_b65
          rw [if_neg c10]
          by_cases n5 : n < 5
          · have e11 := hP.e11s n5
            rw [if_neg (show ¬ (5 : Int32) ≤ nI n from nI_ge (b := 5) n5 (by omega)), if_neg (show ¬ (4 : Int32) < nI n from nI_nlt (a := 4) (by omega) (by omega)), wGi_ok (by omega) (by omega), nI_clamp (by omega), e11, show (475 : Int32) + nI n = nI (475 + n) from nI_add 475 n, wGi_ok (by omega) (by omega), nI_clamp (by omega)]
            by_cases d : gR 1 0 0 (475 + n) ≤ nI m
            · rw [if_pos d, if_pos d]; exact wr
            · rw [if_neg d, if_neg d]; exact stay _
          · rw [if_pos (show (5 : Int32) ≤ nI n from nI_le (a := 5) (by omega) (by omega)), if_pos (show (4 : Int32) < nI n from nI_lt (a := 4) (by omega) (by omega))]
            exact wr
        · rw [if_neg ok, if_pos rfl]
          unfold fX11_set_b65
          rw [if_pos rfl]
          exact stay _
    · have e0 : fX4_maySet gC (nI n) b = some 0 := by
        unfold fX4_maySet
        rw [if_neg (nI_pos hn), if_pos (show (9 : Int32) ≤ nI n from nI_le (a := 9) (by omega) hn)]
      have ne : ∀ k : Nat, k < 9 → ¬ nI n = nI k := fun k hk e => by rw [nI_eq hn (by omega)] at e; omega
      unfold fX10_set fX11_set fX11_set_b64 fX11_set_b65
      rw [e0, wBd_e, if_pos rfl, show fX11_in gR (nI n) 0 4 = _ from in_ev (lo := 0) (hi := 4) hn (by omega) (by omega), wBd_e, if_neg (show ¬ (0 ≤ n ∧ n ≤ 4) by omega), if_pos rfl, if_neg (show ¬ nI n = 7 from ne 7 (by omega)), if_neg (show ¬ nI n = 5 from ne 5 (by omega)), if_neg (show ¬ nI n = 6 from ne 6 (by omega)), if_neg (show ¬ nI n = 8 from ne 8 (by omega)), if_pos rfl]
      exact stay _
/-- a new visit, in both -/
theorem PS.visit {gC gR gC' gR' : Mm} {nv nf ns k t : Nat} {e d c : Int32} (h : PS 0 gC gR nv nf ns) (hf : FR gC nv nf) (hn : nv < 12) (hk : k < 6) (ht : gR 1 0 0 480 = nI t)
    (cC : ∀ t i v j, ¬ (t = 19 ∧ i = 0 ∧ v = nv) → ¬ (t = 9 ∧ i = 0 ∧ v = 0 ∧ j = 2) → gC' t i v j = gC t i v j) (c9 : gC' 9 0 0 2 = nI (nv + 1)) (c19 : gC' 19 0 nv 0 = nI k ∧ gC' 19 0 nv 1 = e ∧ gC' 19 0 nv 2 = d ∧ gC' 19 0 nv 3 = c ∧ gC' 19 0 nv 4 = 0 ∧ gC' 19 0 nv 5 = -1 ∧ gC' 19 0 nv 6 = 0 ∧ gC' 19 0 nv 7 = nI t ∧ gC' 19 0 nv 8 = -1 ∧ gC' 19 0 nv 9 = 0 ∧ gC' 19 0 nv 10 = 0 ∧ gC' 19 0 nv 12 = -1)
    (cR : ∀ t, t ≠ 0 → t ≠ 1 → gR' t = gR t) (cR0 : gR' 0 0 0 1 = nI (nv + 1) ∧ gR' 0 0 0 2 = gR 0 0 0 2 ∧ gR' 0 0 0 3 = gR 0 0 0 3) (cp : ∀ m, m < 30 * nv ∨ 30 * nv + 30 ≤ m → gR' 1 0 0 m = gR 1 0 0 m)
    (p0 : gR' 1 0 0 (30 * nv) = nI k ∧ gR' 1 0 0 (30 * nv + 1) = e ∧ gR' 1 0 0 (30 * nv + 2) = d ∧ gR' 1 0 0 (30 * nv + 3) = c ∧ gR' 1 0 0 (30 * nv + 4) = -1 ∧ gR' 1 0 0 (30 * nv + 7) = nI t ∧ gR' 1 0 0 (30 * nv + 8) = -1 ∧ gR' 1 0 0 (30 * nv + 10) = -1000) (pz : ∀ j, j < 30 → j = 5 ∨ j = 6 ∨ j = 9 ∨ 11 ≤ j → gR' 1 0 0 (30 * nv + j) = 0) : PS 0 gC' gR' (nv + 1) nf ns := by
  have hf16 := h.nf16
  have hs6 := h.ns6
  obtain ⟨⟨a1, a2, a3⟩, ⟨b1, b2, b3⟩, hE, hU, hP, hK⟩ := h
  obtain ⟨d0, d1, d2, d3, d4, d5, d6, d7, d8, d9, d10, d12⟩ := c19
  obtain ⟨r0, r1, r2, r3, r4, r7, r8, r10⟩ := p0
  have z6 := pz 6 (by omega) (by omega)
  refine ⟨⟨(cC 9 0 0 1 (by omega) (by omega)).trans a1, c9, (cC 9 0 0 3 (by omega) (by omega)).trans a3⟩, ⟨cR0.1, cR0.2.1.trans b2, cR0.2.2.trans b3⟩, ?_, ?_, ?_, ?_⟩
  · intro t' v j n q
    by_cases cv : (t' = 19 ∨ t' = 21) ∧ v = nv
    · obtain ⟨ct, rfl⟩ := cv
      rcases ct with rfl | rfl
      · have q : (j < 10 ∧ j ≠ 4 ∧ j ≠ 5 ∧ n = 30 * v + j) ∨ (j = 4 ∧ n = 30 * v + 5) ∨ (j = 5 ∧ n = 30 * v + 4) := by unfold ixR at q; omega
        rcases q with ⟨q1, q2, q3, rfl⟩ | ⟨rfl, rfl⟩ | ⟨rfl, rfl⟩
        · rcases (show j = 0 ∨ j = 1 ∨ j = 2 ∨ j = 3 ∨ j = 6 ∨ j = 7 ∨ j = 8 ∨ j = 9 by omega) with rfl | rfl | rfl | rfl | rfl | rfl | rfl | rfl
          · exact d0.trans r0.symm
          · exact d1.trans r1.symm
          · exact d2.trans r2.symm
          · exact d3.trans r3.symm
          · exact d6.trans z6.symm
          · exact d7.trans r7.symm
          · exact d8.trans r8.symm
          · exact d9.trans (pz 9 (by omega) (by omega)).symm
        · exact d4.trans (pz 5 (by omega) (by omega)).symm
        · exact d5.trans r4.symm
      · have q : j < 9 ∧ n = 30 * v + 19 + j := by unfold ixR at q; omega
        obtain ⟨q1, rfl⟩ := q
        rw [cC 21 0 v j (by omega) (by omega), Nat.add_assoc, pz (19 + j) (by omega) (by omega)]
        exact (hf.1 v (Nat.le_refl _) hn).2.2.2 j q1
    · have q' : ixR nv nf ns t' v j n := by
        unfold ixR at q ⊢
        rcases q with q | q | q | q | q | q | q | q | q | q | q | q | q
        · exact Or.inl q
        · exact Or.inr (Or.inl q)
        · exact Or.inr (Or.inr (Or.inl q))
        · exact Or.inr (Or.inr (Or.inr (Or.inl q)))
        · exact Or.inr (Or.inr (Or.inr (Or.inr (Or.inl q))))
        · exact Or.inr (Or.inr (Or.inr (Or.inr (Or.inr (Or.inl q)))))
        · exact Or.inr (Or.inr (Or.inr (Or.inr (Or.inr (Or.inr (Or.inl q))))))
        · exact Or.inr (Or.inr (Or.inr (Or.inr (Or.inr (Or.inr (Or.inr (Or.inl q)))))))
        · exact Or.inr (Or.inr (Or.inr (Or.inr (Or.inr (Or.inr (Or.inr (Or.inr (Or.inl ⟨by omega, by omega, by omega, by omega, by omega, by omega⟩))))))))
        · exact Or.inr (Or.inr (Or.inr (Or.inr (Or.inr (Or.inr (Or.inr (Or.inr (Or.inr (Or.inl ⟨by omega, by omega, by omega, by omega⟩)))))))))
        · exact Or.inr (Or.inr (Or.inr (Or.inr (Or.inr (Or.inr (Or.inr (Or.inr (Or.inr (Or.inr (Or.inl ⟨by omega, by omega, by omega, by omega⟩))))))))))
        · exact Or.inr (Or.inr (Or.inr (Or.inr (Or.inr (Or.inr (Or.inr (Or.inr (Or.inr (Or.inr (Or.inr (Or.inl ⟨by omega, by omega, by omega, by omega⟩)))))))))))
        · exact Or.inr (Or.inr (Or.inr (Or.inr (Or.inr (Or.inr (Or.inr (Or.inr (Or.inr (Or.inr (Or.inr (Or.inr q)))))))))))
      rw [cp n (by unfold ixR at q'; omega), cC t' 0 v j (by omega) (by unfold ixR at q'; omega)]
      exact hE t' v j n q'
  · intro v hv
    by_cases e : v = nv
    · subst e
      refine ⟨⟨0, by omega, d10, fun a ha => ?_⟩, Or.inl ⟨d12, r10⟩⟩
      have := pz (11 + a) (by omega) (by omega)
      rw [← Nat.add_assoc] at this
      rw [this]
      simp
    · obtain ⟨⟨m, h1, h2, h3⟩, h4⟩ := hU v (by omega)
      rw [cC 19 0 v 12 (by omega) (by omega), cp (30 * v + 10) (by omega)]
      refine ⟨⟨m, h1, (cC 19 0 v 10 (by omega) (by omega)).trans h2, fun a ha => ?_⟩, h4⟩
      rw [cp (30 * v + 11 + a) (by omega), cC 20 0 v a (by omega) (by omega)]
      exact h3 a ha
  · obtain ⟨h1, h2, h3, h4, h5, h6, h7, h8, h9⟩ := hP
    refine ⟨⟨by omega, hf16, hs6⟩, ?_, ?_, ?_, ?_, ?_, ?_, ?_, ?_⟩
    · rw [cp _ (by omega)]; exact h2
    · rw [cp _ (by omega)]; exact h3
    · intro r hr; rw [cp _ (by omega)]; exact h4 r hr
    · intro v hv
      by_cases e : v = nv
      · subst e
        exact ⟨⟨k, hk, r0⟩, Or.inl r4, ⟨0, by omega, z6⟩, Or.inl r8⟩
      · rw [cp (30 * v) (by omega), cp (30 * v + 4) (by omega), cp (30 * v + 6) (by omega), cp (30 * v + 8) (by omega)]
        exact h5 v (by omega)
    · intro v hv
      by_cases e : v = nv
      · subst e
        refine ⟨Or.inl r10, fun a ha => ⟨0, by omega, ?_⟩⟩
        have := pz (11 + a) (by omega) (by omega)
        rw [← Nat.add_assoc] at this
        exact this
      · rw [cp (30 * v + 10) (by omega)]
        refine ⟨(h6 v (by omega)).1, fun a ha => ?_⟩
        rw [cp (30 * v + 11 + a) (by omega)]
        exact (h6 v (by omega)).2 a ha
    · intro v hv
      by_cases e : v = nv
      · subst e
        refine ⟨fun n q1 q2 q3 => ?_, fun n q1 q2 => ?_, fun q => (q (pz 18 (by omega) (by omega))).elim⟩
        · rw [z6, show (0 : Int32) = nI 0 from rfl, nI_eq (by omega) (by omega)] at q3
          omega
        · rw [pz 9 (by omega) (by omega)]; rfl
      · rw [cp (30 * v + 6) (by omega), cp (30 * v + 8) (by omega), cp (30 * v + 9) (by omega), cp (30 * v + 18) (by omega)]
        exact h7 v (by omega)
    · intro f hf'
      rw [cp _ (by omega), cp _ (by omega)]
      obtain ⟨⟨n, hn1, q1⟩, ⟨n', hn2, q2⟩⟩ := h8 f hf'
      exact ⟨⟨n, by omega, q1⟩, ⟨n', by omega, q2⟩⟩
    · intro s hs
      rw [cp _ (by omega)]; exact h9 s hs
  · unfold KR at *
    rw [cR 13 (by decide) (by decide), cR 14 (by decide) (by decide), cR 15 (by decide) (by decide), cR 16 (by decide) (by decide), cR 17 (by decide) (by decide)]
    exact hK
/-- the reference's row is cleared, then written -/
theorem visitR_ev {gR : Mm} {nv t k : Nat} {e d c : Int32} (hn : nv < 12) (h1 : gR 0 0 0 1 = nI nv) (ht : gR 1 0 0 480 = nI t) :
    ∃ gR', fX11_visit_L79 gR (nI k) e d c (nI (30 * nv)) 0 = some (gR', nI nv) ∧ (∀ t, t ≠ 0 → t ≠ 1 → gR' t = gR t) ∧ (∀ j, j ≠ 1 → gR' 0 0 0 j = gR 0 0 0 j) ∧ gR' 0 0 0 1 = nI (nv + 1) ∧ (∀ m, m < 30 * nv ∨ 30 * nv + 30 ≤ m → gR' 1 0 0 m = gR 1 0 0 m) ∧
      (gR' 1 0 0 (30 * nv) = nI k ∧ gR' 1 0 0 (30 * nv + 1) = e ∧ gR' 1 0 0 (30 * nv + 2) = d ∧ gR' 1 0 0 (30 * nv + 3) = c ∧ gR' 1 0 0 (30 * nv + 4) = -1 ∧ gR' 1 0 0 (30 * nv + 7) = nI t ∧ gR' 1 0 0 (30 * nv + 8) = -1 ∧ gR' 1 0 0 (30 * nv + 10) = -1000) ∧ (∀ j, j < 30 → j = 5 ∨ j = 6 ∨ j = 9 ∨ 11 ≤ j → gR' 1 0 0 (30 * nv + j) = 0) := by
  obtain ⟨⟨g', r⟩, p1, p2, p3⟩ := wLp_one (f := fun q : Mm × Int32 => fX11_visit_B79 q.1 (nI k) e d c (nI (30 * nv)) q.2) (fun s => s.2 = nI nv ∧ ((∀ t, t ≠ 0 → t ≠ 1 → s.1 t = gR t) ∧ (∀ j, j ≠ 1 → s.1 0 0 0 j = gR 0 0 0 j) ∧ s.1 0 0 0 1 = nI (nv + 1) ∧ (∀ m, m < 30 * nv ∨ 30 * nv + 30 ≤ m → s.1 1 0 0 m = gR 1 0 0 m) ∧
      (s.1 1 0 0 (30 * nv) = nI k ∧ s.1 1 0 0 (30 * nv + 1) = e ∧ s.1 1 0 0 (30 * nv + 2) = d ∧ s.1 1 0 0 (30 * nv + 3) = c ∧ s.1 1 0 0 (30 * nv + 4) = -1 ∧ s.1 1 0 0 (30 * nv + 7) = nI t ∧ s.1 1 0 0 (30 * nv + 8) = -1 ∧ s.1 1 0 0 (30 * nv + 10) = -1000) ∧ (∀ j, j < 30 → j = 5 ∨ j = 6 ∨ j = 9 ∨ 11 ≤ j → s.1 1 0 0 (30 * nv + j) = 0)))
    (fun n s => ∃ g1, s = (g1, nI n) ∧ (∀ t, t ≠ 1 → g1 t = gR t) ∧ (∀ m, m < 30 * nv ∨ 30 * nv + n ≤ m → g1 1 0 0 m = gR 1 0 0 m) ∧ ∀ j, j < n → g1 1 0 0 (30 * nv + j) = 0) 30
    (fun n s hk ⟨g1, a1, a2, a3, a4⟩ => by
      subst a1
      left
      dsimp only
      unfold fX11_visit_B79
      rw [if_neg (show ¬ (30 : Int32) ≤ nI n from nI_ge (b := 30) hk (by omega)), nI_add, wGi_ok (by omega) (by omega), nI_clamp (by omega), wLe_e, wLe_e, nI_1]
      refine ⟨_, rfl, _, rfl, fun t ht => (st_kind ht).trans (a2 t ht), fun m hm => (st_ne (by omega)).trans (a3 m (by omega)), fun j hj => ?_⟩
      by_cases q : j = n
      · subst q; exact st_eq
      · rw [st_ne (by omega)]; exact a4 j (by omega))
    (fun s ⟨g1, a1, a2, a3, a4⟩ => by
      subst a1
      have t480 : g1 1 0 0 480 = nI t := (a3 480 (by omega)).trans ht
      have b1 : g1 0 0 0 1 = nI nv := by rw [a2 0 (by decide)]; exact h1
      have ad : ∀ j : Nat, nI (30 * nv) + nI j = nI (30 * nv + j) := fun j => nI_add _ _
      have x1 : (1 : Int32) = nI 1 := rfl
      have x2 : (2 : Int32) = nI 2 := rfl
      have x3 : (3 : Int32) = nI 3 := rfl
      have x4 : (4 : Int32) = nI 4 := rfl
      have x7 : (7 : Int32) = nI 7 := rfl
      have x8 : (8 : Int32) = nI 8 := rfl
      have x10 : (10 : Int32) = nI 10 := rfl
      dsimp only
      unfold fX11_visit_B79
      rw [if_pos (show (30 : Int32) ≤ nI 30 by decide), wGi_ok (by omega) (by omega), nI_clamp (show 30 * nv < 2 ^ 31 by omega), wLe_e, show nI (30 * nv) + 1 = nI (30 * nv + 1) from ad 1, wGi_ok (by omega) (by omega), nI_clamp (show 30 * nv + 1 < 2 ^ 31 by omega), wLe_e, show nI (30 * nv) + 2 = nI (30 * nv + 2) from ad 2, wGi_ok (by omega) (by omega), nI_clamp (show 30 * nv + 2 < 2 ^ 31 by omega), wLe_e, show nI (30 * nv) + 3 = nI (30 * nv + 3) from ad 3, wGi_ok (by omega) (by omega), nI_clamp (show 30 * nv + 3 < 2 ^ 31 by omega), wLe_e, show nI (30 * nv) + 4 = nI (30 * nv + 4) from ad 4, wGi_ok (by omega) (by omega), nI_clamp (show 30 * nv + 4 < 2 ^ 31 by omega), wLe_e, i480f, c480f, show nI (30 * nv) + 7 = nI (30 * nv + 7) from ad 7, wGi_ok (by omega) (by omega), nI_clamp (show 30 * nv + 7 < 2 ^ 31 by omega), wLe_e,
        show nI (30 * nv) + 8 = nI (30 * nv + 8) from ad 8, wGi_ok (by omega) (by omega), nI_clamp (show 30 * nv + 8 < 2 ^ 31 by omega), wLe_e, show nI (30 * nv) + 10 = nI (30 * nv + 10) from ad 10, wGi_ok (by omega) (by omega), nI_clamp (show 30 * nv + 10 < 2 ^ 31 by omega), wLe_e, wLe_e]
      simp (disch := omega) only [st_ne, st_eq, t480, b1, nI_1, nI_s1, wEx_e]
      refine ⟨_, rfl, nI_s1 nv, fun t q0 q1 => ?_, fun j q => ?_, ?_, fun m q => ?_, ⟨?_, ?_, ?_, ?_, ?_, ?_, ?_, ?_⟩, fun j q1 q2 => ?_⟩
      · simp only [st_kind q0, st_kind q1]; exact a2 t q1
      · simp (disch := omega) only [st_ne]; rw [a2 0 (by decide)]
      · simp (disch := omega) only [st_eq]
      · simp (disch := omega) only [st_ne]; exact a3 m (by omega)
      all_goals first | (simp (disch := omega) only [st_ne, st_eq]; done) | (simp (disch := omega) only [st_ne]; exact a4 j q1))
    (k := 0) (Nat.zero_le _) (s := (gR, 0)) ⟨gR, rfl, fun _ _ => rfl, fun _ _ => rfl, fun j hj => absurd hj (by omega)⟩ (u := 1000) (by omega)
  have p2 : r = nI nv := p2
  subst p2
  exact ⟨g', p1, p3⟩
