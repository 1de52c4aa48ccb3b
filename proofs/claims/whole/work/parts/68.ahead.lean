-- ===== what was thought =====
theorem there_pr {gC gR : Mm} {nv nf ns v : Nat} (h : R3 gC gR nv nf ns) (hv : v < nv) (known : Int32) : ∃ r, fX10_thereBy gC (nI v) known = some r ∧ fX11_there gR (nI v) known = some r := by
  have hP := h.1
  have hv12 := hP.nv12
  obtain ⟨⟨kd, hk6, hkd⟩, -⟩ := hP.2.2.2.2.1.2.2.2.2.1 v hv
  have hkd' : gR 1 0 0 (30 * v + 0) = nI kd := hkd
  have v0 := hP.v0 hv
  have v1 := hP.v1 hv
  have kr := hP.2.2.2.2.2.2.2.1 kd hk6
  obtain ⟨ne, n1, n2, n3, n4⟩ := h.2.2.2.2.2.1
  -- the last estimate that is known, going back
  have back : ∀ m, m ≤ ne → ∃ y, (∀ u, m < u → fX0_thought_L8 gC (nI v) known (gR 1 0 0 (30 * v + 1)) (nI m + -nI 1) = some y) ∨ True := fun m _ => ⟨0, Or.inr trivial⟩
  let T : Nat → Int32 := fun m => Nat.rec (gR 1 0 0 (30 * v + 1)) (fun k y => if gR 2 0 0 k = nI v ∧ gR 4 0 0 k ≤ known then gR 3 0 0 k else y) m
  have T0 : T 0 = gR 1 0 0 (30 * v + 1) := rfl
  have TS : ∀ k, T (k + 1) = if gR 2 0 0 k = nI v ∧ gR 4 0 0 k ≤ known then gR 3 0 0 k else T k := fun k => rfl
  clear_value T
  -- the component: from the last one back
  have hC : fX0_thought gC (nI v) known (gR 1 0 0 (30 * v + 1)) = some (T ne) := by
    have key := wLp_one (f := fun q : Int32 => fX0_thought_B8 gC (nI v) known (gR 1 0 0 (30 * v + 1)) q) (fun y => y = T ne) (fun m s => s = nI (ne - m) + -nI 1 ∧ T ne = T (ne - m)) ne
      (fun m s hm ⟨e1, e2⟩ => by
        subst e1
        have nm : nI (ne - m) + -nI 1 = nI (ne - (m + 1)) := by
          rw [show ne - m = ne - (m + 1) + 1 by omega]
          exact nI_p1 _
        obtain ⟨k1, k2, k3⟩ := n4 (ne - (m + 1)) (by omega)
        have tS := TS (ne - (m + 1))
        rw [show ne - (m + 1) + 1 = ne - m by omega] at tS
        rw [tS] at e2
        unfold fX0_thought_B8 fX0_thought_b43
        rw [nm, if_neg (nI_pos (by omega)), wGi_ok (by omega) (by omega), nI_clamp (by omega), k1, k2, k3, wGi_ok (by omega) (by omega), wGi_ok (by omega) (by omega)]
        by_cases c1 : gR 2 0 0 (ne - (m + 1)) = nI v
        · rw [if_pos c1]
          by_cases c2 : known < gR 4 0 0 (ne - (m + 1))
          · rw [if_pos c2, wLe_e]
            rw [if_neg (fun q => Int32.not_le.mpr c2 q.2)] at e2
            exact Or.inl ⟨_, rfl, rfl, e2⟩
          · rw [if_neg c2, wEx_e]
            rw [if_pos ⟨c1, Int32.not_lt.mp c2⟩] at e2
            exact Or.inr ⟨_, rfl, e2.symm⟩
        · rw [if_neg c1, wLe_e]
          rw [if_neg (fun q => c1 q.1)] at e2
          exact Or.inl ⟨_, rfl, rfl, e2⟩)
      (fun s ⟨e1, e2⟩ => by
        subst e1
        unfold fX0_thought_B8
        rw [Nat.sub_self] at e2 ⊢
        rw [if_pos (show nI 0 + -nI 1 < 0 by decide), wEx_e]
        exact ⟨_, rfl, by rw [e2, T0]⟩)
      (k := 0) (Nat.zero_le _) (s := nI ne - 1) ⟨by rw [Int32.sub_eq_add_neg]; rfl, rfl⟩ (u := 1000) (by omega)
    obtain ⟨y, p1, p2⟩ := key
    subst p2
    unfold fX0_thought
    rw [n2, wLe_e]
    exact p1
  have hR : fX11_there gR (nI v) known = some (T ne + sV 4 kd + 4) := by
    have key := wLp_one (f := fun q : Int32 × Int32 => fX11_there_B10 gR (nI v) known q.1 q.2) (fun y => y = T ne + sV 4 kd + 4) (fun m s => s = (T m, nI m)) ne
      (fun m s hm e1 => by
        subst e1
        left
        have tS := TS m
        dsimp only
        unfold fX11_there_B10 fX11_there_b51 fX11_there_b52
        rw [n3, if_neg (nI_ge hm (by omega)), wGi_ok (by omega) (by omega), nI_clamp (by omega), wGi_ok (by omega) (by omega), wGi_ok (by omega) (by omega)]
        by_cases c1 : gR 2 0 0 m = nI v
        · rw [if_pos c1]
          by_cases c2 : known < gR 4 0 0 m
          · rw [if_neg (fun q => Int32.not_le.mpr c2 q.2)] at tS
            rw [if_pos c2, wLe_e, nI_1, tS]
            exact ⟨_, rfl, rfl⟩
          · rw [if_pos ⟨c1, Int32.not_lt.mp c2⟩] at tS
            rw [if_neg c2, wLe_e, nI_1, tS]
            exact ⟨_, rfl, rfl⟩
        · rw [if_neg (fun q => c1 q.1)] at tS
          rw [if_neg c1, wLe_e, nI_1, tS]
          exact ⟨_, rfl, rfl⟩)
      (fun s e1 => by
        subst e1
        dsimp only
        unfold fX11_there_B10
        rw [n3, if_pos (nI_le (Nat.le_refl _) (by omega)), show fX11_of gR (nI v) 0 = some (nI kd) from (of_ev gR (c := 0) (by omega)).trans (congrArg some hkd'), wBd_e, wGi_ok (by omega) (by omega), nI_clamp (by omega), kr, wEx_e]
        exact ⟨_, rfl, rfl⟩)
      (k := 0) (Nat.zero_le _) (s := (gR 1 0 0 (30 * v + 1), 0)) (by rw [T0]; rfl) (u := 1000) (by omega)
    obtain ⟨y, p1, p2⟩ := key
    subst p2
    unfold fX11_there
    rw [show fX11_of gR (nI v) 1 = some (gR 1 0 0 (30 * v + 1)) from of_ev gR (c := 1) (by omega), wBd_e, wLe_e]
    exact p1
  refine ⟨_, ?_, hR⟩
  unfold fX10_thereBy
  rw [wGi_ok (by omega) (by omega), nI_clamp (by omega), v1, hC, wBd_e, v0, hkd, roll_ev hk6, wBd_e]
theorem known_ev {gC gR : Mm} {t : Nat} (ht : t ≤ 10000) (et : gR 1 0 0 480 = nI t) (et' : gC 9 0 0 0 = nI t) (b : Int32) : (0 ≤ b ∧ b ≤ nI t ∧ fX11_in gR b 0 (gR 1 0 0 480) = some 1) ∨ ((b < 0 ∨ (¬ b < 0 ∧ ¬ b ≤ nI t)) ∧ fX11_in gR b 0 (gR 1 0 0 480) = some 0) := by
  rw [et]
  rcases posneg b with hb | ⟨n, hn, rfl⟩
  · exact Or.inr ⟨Or.inl hb, in_neg (lo := 0) hb (by omega)⟩
  · rw [show fX11_in gR (nI n) 0 (nI t) = _ from in_ev (lo := 0) hn (by omega) (by omega)]
    by_cases c : n ≤ t
    · exact Or.inl ⟨nI_pos' hn, nI_le c (by omega), by rw [if_pos (by omega)]⟩
    · exact Or.inr ⟨Or.inr ⟨nI_pos hn, nI_ge (by omega) hn⟩, by rw [if_neg (by omega)]⟩
section WAY
variable {gC gR : Mm} {nv nf ns v k : Nat}
theorem unload_pr (h : PS 0 gC gR nv nf ns) (hv : v < nv) (hk : k < 6) (e : gR 1 0 0 (30 * v) = nI k) : fX3_wayToUnload gC (nI k) = some (sV 5 (8 * k) + sV 5 (8 * k + 1)) ∧ fX11_toUnload gR (nI v) = some (sV 5 (8 * k) + sV 5 (8 * k + 1)) := by
  have hv12 := h.nv12
  have hK := h.2.2.2.2.2
  have v12 : v < 12 := by omega
  constructor
  · unfold fX3_wayToUnload
    rw [show fX3_lasts gC (nI k) 0 = some (sV 5 (8 * k)) from lasts_ev (a := 0) hk (by omega), wBd_e, show fX3_lasts gC (nI k) 1 = some (sV 5 (8 * k + 1)) from lasts_ev (a := 1) hk (by omega), wBd_e]
  · unfold fX11_toUnload
    rw [show fX11_ticksOf gR (nI v) 0 = some (sV 5 (8 * k)) from ticksOf_ev (a := 0) v12 hk (by omega) e hK, wBd_e, show fX11_ticksOf gR (nI v) 1 = some (sV 5 (8 * k + 1)) from ticksOf_ev (a := 1) v12 hk (by omega) e hK, wBd_e]
theorem load_pr (h : PS 0 gC gR nv nf ns) (hv : v < nv) (hk : k < 6) (e : gR 1 0 0 (30 * v) = nI k) : ∃ r, fX3_wayToLoad gC (nI k) = some r ∧ fX11_toLoad gR (nI v) = some r := by
  have hv12 := h.nv12
  have hK := h.2.2.2.2.2
  have v12 : v < 12 := by omega
  obtain ⟨u1, u2⟩ := unload_pr h hv hk e
  have l : ∀ a, a < 8 → fX3_lasts gC (nI k) (nI a) = some (sV 5 (8 * k + a)) := fun a ha => lasts_ev hk ha
  have t : ∀ a, a < 8 → fX11_ticksOf gR (nI v) (nI a) = some (sV 5 (8 * k + a)) := fun a ha => ticksOf_ev v12 hk ha e hK
  unfold fX3_wayToLoad fX11_toLoad fX11_toLoad_b36
  rw [show fX3_lasts gC (nI k) 2 = _ from l 2 (by omega), show fX3_lasts gC (nI k) 4 = _ from l 4 (by omega), show fX3_lasts gC (nI k) 3 = _ from l 3 (by omega), show fX3_lasts gC (nI k) 5 = _ from l 5 (by omega), show fX11_ticksOf gR (nI v) 2 = _ from t 2 (by omega), show fX11_ticksOf gR (nI v) 4 = _ from t 4 (by omega), show fX11_ticksOf gR (nI v) 3 = _ from t 3 (by omega), show fX11_ticksOf gR (nI v) 5 = _ from t 5 (by omega), u1, u2]
  simp only [wBd_e, wLe_e]
  by_cases c : sV 5 (8 * k + 3) < sV 5 (8 * k + 2) + sV 5 (8 * k + 4)
  · rw [if_pos c, if_neg (Int32.not_le.mpr c)]; exact ⟨_, rfl, rfl⟩
  · rw [if_neg c, if_pos (Int32.not_lt.mp c)]; exact ⟨_, rfl, rfl⟩
end WAY
theorem sr_expects {gC gR : Mm} {nv nf ns : Nat} (h : R3 gC gR nv nf ns) (a b : Int32) : ∃ r, fX10_expects gC a b = some r ∧ fX11_expects gR a b = some r := by
  have hP := h.1
  have hv12 := hP.nv12
  obtain ⟨t, ht, et', -⟩ := h.ct
  have et : gR 1 0 0 480 = nI t := hP.e9.symm.trans et'
  unfold fX10_expects fX11_expects
  rcases isv hP a with ⟨v, hv, rfl, e1, e2⟩ | ⟨e1, e2⟩
  · rw [e1, e2, wBd_e, wBd_e, if_neg c10, if_neg c10, i480f, c480f, et']
    rcases known_ev ht et et' b with ⟨b1, b2, b3⟩ | ⟨b1, b3⟩
    · obtain ⟨r, r1, r2⟩ := there_pr h hv b
      obtain ⟨⟨kd, hk6, hkd⟩, -⟩ := hP.2.2.2.2.1.2.2.2.2.1 v hv
      obtain ⟨l, l1, l2⟩ := load_pr hP hv hk6 hkd
      have v0 := hP.v0 hv
      have v2 := hP.v2 hv
      have w6 : gC 10 0 0 6 = gR 1 0 0 482 := hP.e10_6
      have i6 : ∀ f : Option Int32, wGi (6 : Int32) 9 f = f := fun f => wGi_ok (n := 6) (by omega) (by omega)
      have c6 : (6 : Int32).toNatClampNeg = 6 := nI_clamp (n := 6) (by omega)
      have i2 : ∀ f : Option Int32, wGi (482 : Int32) 510 f = f := fun f => wGi_ok (n := 482) (by omega) (by omega)
      have c2 : (482 : Int32).toNatClampNeg = 482 := nI_clamp (n := 482) (by omega)
      have v12 : v < 12 := by omega
      have lp : fX3_lasts gC (nI kd) 7 = some (sV 5 (8 * kd + 7)) := lasts_ev (a := 7) hk6 (by omega)
      have li : fX3_lasts gC (nI kd) 6 = some (sV 5 (8 * kd + 6)) := lasts_ev (a := 6) hk6 (by omega)
      have tp : fX11_ticksOf gR (nI v) 7 = some (sV 5 (8 * kd + 7)) := ticksOf_ev (a := 7) v12 hk6 (by omega) hkd hP.2.2.2.2.2
      have ti : fX11_ticksOf gR (nI v) 6 = some (sV 5 (8 * kd + 6)) := ticksOf_ev (a := 6) v12 hk6 (by omega) hkd hP.2.2.2.2.2
      have o2 : fX11_of gR (nI v) 2 = some (gR 1 0 0 (30 * v + 2)) := of_ev gR (c := 2) (by omega)
      rw [if_neg (Int32.not_lt.mpr b1), if_pos b2, b3, wBd_e, if_neg c10, r2, wBd_e, l2, wBd_e, i6, c6, w6, i2, c2, wGi_ok (by omega) (by omega), nI_clamp (by omega)]
      -- the end of the way, then the later one
      have fin : ∀ z : Int32, (fX3_wayThrough gC (nI kd) (if gR 1 0 0 482 = 1 then 1 else 0) = some ((l + z) + sV 5 (8 * kd + 7))) → ∃ y, fX10_expects_b60 gC (nI v) b v (if gR 1 0 0 482 = 1 then 1 else 0) = some y ∧ fX11_expects_b64 gR (nI v) b (r + l) z = some y := fun z hz => by
        unfold fX10_expects_b60 fX11_expects_b64
        rw [r1, wBd_e, v0, hkd, hz, wBd_e, v2, tp, wBd_e, wLe_e, o2, wBd_e, wBd_e]
        have as : r + (l + z + sV 5 (8 * kd + 7)) = r + l + z + sV 5 (8 * kd + 7) := by rw [← Int32.add_assoc, ← Int32.add_assoc]
        rw [as]
        by_cases c : gR 1 0 0 (30 * v + 2) < r + l + z + sV 5 (8 * kd + 7)
        · rw [if_pos c, if_neg (Int32.not_le.mpr c)]; exact ⟨_, rfl, rfl⟩
        · rw [if_neg c, if_pos (Int32.not_lt.mp c)]; exact ⟨_, rfl, rfl⟩
      by_cases cold : gR 1 0 0 482 = 1
      · rw [if_pos cold] at fin
        rw [if_pos cold, if_pos cold, ti, wBd_e]
        refine fin _ ?_
        unfold fX3_wayThrough fX3_wayThrough_b18
        rw [l1, wBd_e, if_neg c10, li, wBd_e, lp, wBd_e]
      · rw [if_neg cold] at fin
        rw [if_neg cold, if_neg cold]
        refine fin _ ?_
        unfold fX3_wayThrough fX3_wayThrough_b18
        rw [l1, wBd_e, if_pos rfl, lp, wBd_e]
    · rw [b3, wBd_e, if_pos rfl]
      rcases b1 with q | ⟨q1, q2⟩
      · rw [if_pos q]; exact ⟨_, rfl, rfl⟩
      · rw [if_neg q1, if_neg q2]; exact ⟨_, rfl, rfl⟩
  · rw [e1, e2, wBd_e, wBd_e, if_pos rfl, if_pos rfl]; exact ⟨_, rfl, rfl⟩
theorem sr_misses {gC gR : Mm} {nv nf ns : Nat} (h : R3 gC gR nv nf ns) (a b : Int32) : ∃ r, fX10_misses gC a b = some r ∧ fX11_misses gR a b = some r := by
  have hP := h.1
  have hv12 := hP.nv12
  have hf16 := hP.nf16
  obtain ⟨t, ht, et', -⟩ := h.ct
  have et : gR 1 0 0 480 = nI t := hP.e9.symm.trans et'
  unfold fX10_misses fX11_misses fX11_misses_b70
  rcases isv hP a with ⟨v, hv, rfl, e1, e2⟩ | ⟨e1, e2⟩
  · rw [e1, e2, wBd_e, wBd_e, if_neg c10, if_neg c10, i480f, c480f, et']
    rcases known_ev ht et et' b with ⟨b1, b2, b3⟩ | ⟨b1, b3⟩
    · obtain ⟨r, r1, r2⟩ := there_pr h hv b
      obtain ⟨⟨kd, hk6, hkd⟩, -⟩ := hP.2.2.2.2.1.2.2.2.2.1 v hv
      obtain ⟨l, l1, l2⟩ := load_pr hP hv hk6 hkd
      have v0 := hP.v0 hv
      have v2 := hP.v2 hv
      have v12 : v < 12 := by omega
      have lp : fX3_lasts gC (nI kd) 7 = some (sV 5 (8 * kd + 7)) := lasts_ev (a := 7) hk6 (by omega)
      have tp : fX11_ticksOf gR (nI v) 7 = some (sV 5 (8 * kd + 7)) := ticksOf_ev (a := 7) v12 hk6 (by omega) hkd hP.2.2.2.2.2
      have o2 : fX11_of gR (nI v) 2 = some (gR 1 0 0 (30 * v + 2)) := of_ev gR (c := 2) (by omega)
      have loop : ∀ last : Int32, ∃ y, fX10_misses_L84 gC (nI v) b last 0 0 = some y ∧ fX11_misses_L80 gR (nI v) b last 0 360 = some y := fun last => by
        obtain ⟨t1, t2, q1, q2, rfl⟩ := wLp_two (f1 := fun q : Int32 × Int32 => fX10_misses_B84 gC (nI v) b last q.1 q.2) (f2 := fun q : Int32 × Int32 => fX11_misses_B80 gR (nI v) b last q.1 q.2)
          (fun t1 t2 => t1 = t2) (fun k s1 s2 => ∃ x, s1 = (x, nI k) ∧ s2 = (x, nI (360 + 6 * k))) nf
          (fun k s1 s2 hk ⟨x, a1, a2⟩ => by
            subst a1; subst a2
            left
            obtain ⟨⟨n0, hn0, k0⟩, ⟨n1, hn1, k1⟩⟩ := hP.2.2.2.2.1.2.2.2.2.2.2.2.1 k hk
            obtain ⟨⟨kd0, hk0, hkd0⟩, -⟩ := hP.2.2.2.2.1.2.2.2.2.1 n0 hn0
            obtain ⟨r0, r01, r02⟩ := there_pr h hn0 b
            obtain ⟨u1, u2⟩ := unload_pr hP hn0 hk0 hkd0
            have f0 := hP.f0 hk
            have f1 := hP.f1 hk
            have f2 := hP.f2 hk
            have f3 := hP.f3 hk
            have w0 := hP.v0 hn0
            have ad : ∀ j : Nat, nI (360 + 6 * k) + nI j = nI (360 + 6 * k + j) := fun j => nI_add _ _
            have e36 : (360 : Int32) + (6 : Int32) * nI nf = nI (360 + 6 * nf) := by simp only [li_0, li_1, li_2, li_3, li_4, li_5, li_6, li_7, li_8, li_9, li_10, li_11, li_12, li_13, li_14, li_15, li_16, li_17, li_18, li_19, li_30, li_32, li_40, li_41, li_42, li_43, li_45, li_48, li_57, li_59, li_60, li_61, li_63, li_97, li_99, li_122, li_160, li_200, li_255, li_256, li_257, li_258, li_259, li_360, li_460, li_462, li_470, li_475, li_480, li_481, li_482, li_483, li_484, li_490, li_496, li_510, li_999, li_9999, li_10000, li_10008, li_10009, li_10010, li_10011, li_10012, li_10013, li_10014, li_10015, li_10016, li_100000, nI_mul, nI_add]
            have nx : nI (360 + 6 * k) + 6 = nI (360 + 6 * (k + 1)) := by rw [show 360 + 6 * (k + 1) = 360 + 6 * k + 6 by omega]; exact ad 6
            dsimp only
            unfold fX10_misses_B84 fX11_misses_B80 fX10_cartThereBy fX10_misses_b139 fX11_misses_b166 fX11_misses_b167
            rw [hP.1.2.2, hP.2.1.2.1, e36, if_neg (nI_ge hk (by omega)), if_neg (nI_ge (show 360 + 6 * k < 360 + 6 * nf by omega) (by omega)), wGi_ok (by omega) (by omega), nI_clamp (show k < 2 ^ 31 by omega), f1, f0, f3, f2, k0, r01, wBd_e, wGi_ok (by omega) (by omega), nI_clamp (show n0 < 2 ^ 31 by omega), w0, hkd0, u1, wBd_e, wBd_e]
            rw [wGi_ok (by omega) (by omega), nI_clamp (show 360 + 6 * k < 2 ^ 31 by omega), k0, r02, wBd_e, wGi_ok (by omega) (by omega), u2, wBd_e, show nI (360 + 6 * k) + 3 = nI (360 + 6 * k + 3) from ad 3, wGi_ok (by omega) (by omega), nI_clamp (show 360 + 6 * k + 3 < 2 ^ 31 by omega)]
            simp only [wLe_e]
            rw [show nI (360 + 6 * k) + 1 = nI (360 + 6 * k + 1) from ad 1, wGi_ok (by omega) (by omega), nI_clamp (show 360 + 6 * k + 1 < 2 ^ 31 by omega), show nI (360 + 6 * k) + 2 = nI (360 + 6 * k + 2) from ad 2, wGi_ok (by omega) (by omega), nI_clamp (show 360 + 6 * k + 2 < 2 ^ 31 by omega), nx]
            by_cases c1 : gR 1 0 0 (360 + 6 * k + 1) = nI v
            · rw [if_pos c1, if_pos c1]
              by_cases c2 : r0 + (sV 5 (8 * kd0) + sV 5 (8 * kd0 + 1)) + gR 1 0 0 (360 + 6 * k + 3) ≤ last
              · simp only [if_pos c2, wLe_e, nI_1, Int32.add_zero]; exact ⟨_, _, rfl, rfl, x, rfl, rfl⟩
              · simp only [if_neg c2, wLe_e, nI_1]; exact ⟨_, _, rfl, rfl, _, rfl, rfl⟩
            · simp only [if_neg c1, wLe_e, nI_1, Int32.add_zero]; exact ⟨_, _, rfl, rfl, x, rfl, rfl⟩)
          (fun s1 s2 ⟨x, a1, a2⟩ => by
            subst a1; subst a2
            have e36 : (360 : Int32) + (6 : Int32) * nI nf = nI (360 + 6 * nf) := by simp only [li_0, li_1, li_2, li_3, li_4, li_5, li_6, li_7, li_8, li_9, li_10, li_11, li_12, li_13, li_14, li_15, li_16, li_17, li_18, li_19, li_30, li_32, li_40, li_41, li_42, li_43, li_45, li_48, li_57, li_59, li_60, li_61, li_63, li_97, li_99, li_122, li_160, li_200, li_255, li_256, li_257, li_258, li_259, li_360, li_460, li_462, li_470, li_475, li_480, li_481, li_482, li_483, li_484, li_490, li_496, li_510, li_999, li_9999, li_10000, li_10008, li_10009, li_10010, li_10011, li_10012, li_10013, li_10014, li_10015, li_10016, li_100000, nI_mul, nI_add]
            dsimp only
            unfold fX10_misses_B84 fX11_misses_B80
            rw [hP.1.2.2, hP.2.1.2.1, e36, if_pos (nI_le (Nat.le_refl _) (by omega)), if_pos (nI_le (Nat.le_refl _) (by omega)), wEx_e]
            exact ⟨_, _, rfl, rfl, rfl⟩)
          (k := 0) (Nat.zero_le _) (s1 := (0, 0)) (s2 := (0, 360)) ⟨0, rfl, rfl⟩ (u1 := 1000) (u2 := 1000) (by omega) (by omega)
        exact ⟨_, q1, q2⟩
      rw [if_neg (Int32.not_lt.mpr b1), if_pos b2, b3, wBd_e, if_neg c10, r2, wBd_e, l2, wBd_e, wLe_e, o2, wBd_e, tp, wBd_e, wLe_e, wLe_e, wLe_e, wGi_ok (by omega) (by omega), r1, wBd_e, nI_clamp (by omega), v0, hkd, l1, wBd_e, wLe_e, lp, wBd_e, wLe_e, wLe_e, wLe_e, v2]
      by_cases c : gR 1 0 0 (30 * v + 2) - sV 5 (8 * kd + 7) < r + l
      · rw [if_pos c, if_pos (Int32.le_of_lt c)]; exact loop _
      · rw [if_neg c]
        by_cases d : gR 1 0 0 (30 * v + 2) - sV 5 (8 * kd + 7) ≤ r + l
        · rw [if_pos d]
          have e : gR 1 0 0 (30 * v + 2) - sV 5 (8 * kd + 7) = r + l := Int32.le_antisymm d (Int32.not_lt.mp c)
          rw [e]; exact loop _
        · rw [if_neg d]; exact loop _
    · rw [b3, wBd_e, if_pos rfl]
      rcases b1 with q | ⟨q1, q2⟩
      · rw [if_pos q]; exact ⟨_, rfl, rfl⟩
      · rw [if_neg q1, if_neg q2]; exact ⟨_, rfl, rfl⟩
  · rw [e1, e2, wBd_e, wBd_e, if_pos rfl, if_pos rfl]; exact ⟨_, rfl, rfl⟩
-- ===== one kind taken for another =====
theorem isA_all : ∀ k, k < 6 → ∀ o, o < 6 → ∃ z, (z = 0 ∨ z = 1) ∧ fX3_isA (fun _ _ _ _ => 0) (nI k) (nI o) = some z ∧ fX11_isUnder (fun _ _ _ _ => 0) (nI k) (nI o) = some z := by
  have h : ∀ k, k < 6 → ∀ o, o < 6 → (fX3_isA (fun _ _ _ _ => 0) (nI k) (nI o) = some 0 ∧ fX11_isUnder (fun _ _ _ _ => 0) (nI k) (nI o) = some 0) ∨ (fX3_isA (fun _ _ _ _ => 0) (nI k) (nI o) = some 1 ∧ fX11_isUnder (fun _ _ _ _ => 0) (nI k) (nI o) = some 1) := by decide +kernel
  intro k hk o ho
  rcases h k hk o ho with ⟨a, b⟩ | ⟨a, b⟩
  · exact ⟨0, Or.inl rfl, a, b⟩
  · exact ⟨1, Or.inr rfl, a, b⟩
theorem isA_ev {g g' : Mm} {k o : Nat} (hk : k < 6) (ho : o < 6) : ∃ z, (z = 0 ∨ z = 1) ∧ fX3_isA g (nI k) (nI o) = some z ∧ fX11_isUnder g' (nI k) (nI o) = some z := isA_all k hk o ho
theorem sr_taken {gC gR : Mm} {nv nf ns : Nat} (h : PS 0 gC gR nv nf ns) (a b : Int32) : ∃ r, fX10_taken gC a b = some r ∧ fX11_taken gR a b = some r := by
  have hv12 := h.nv12
  unfold fX10_taken fX11_taken
  rcases kind_ev (g := gC) b gR with ⟨o, ho, rfl, e1, e2⟩ | ⟨e1, e2⟩
  · rw [e1, e2, wBd_e, wBd_e, if_neg c10, if_neg c10]
    rcases isv h a with ⟨v, hv, rfl, e3, e4⟩ | ⟨e3, e4⟩
    · obtain ⟨⟨kd, hk6, hkd⟩, -⟩ := h.2.2.2.2.1.2.2.2.2.1 v hv
      have hkd' : gR 1 0 0 (30 * v + 0) = nI kd := hkd
      have v0 := h.v0 hv
      have kr := h.2.2.2.2.2.2.1 kd hk6
      obtain ⟨z, z1, z2, z3⟩ := isA_ev (g := gC) (g' := gR) hk6 ho
      rw [e3, e4, wBd_e, wBd_e, if_neg c10, if_neg c10, wGi_ok (by omega) (by omega), nI_clamp (by omega), wLe_e, v0, hkd, z2, wBd_e, show fX11_of gR (nI v) 0 = some (nI kd) from (of_ev gR (c := 0) (by omega)).trans (congrArg some hkd'), wBd_e, z3, wBd_e, wBd_e, size_ev hk6, wBd_e, wGi_ok (by omega) (by omega), nI_clamp (by omega), kr]
      rcases z1 with rfl | rfl
      · exact ⟨_, rfl, rfl⟩
      · exact ⟨_, rfl, rfl⟩
    · rw [e3, e4, wBd_e, wBd_e, if_pos rfl, if_pos rfl]; exact ⟨_, rfl, rfl⟩
  · rw [e1, e2, wBd_e, wBd_e, if_pos rfl, if_pos rfl]; exact ⟨_, rfl, rfl⟩
