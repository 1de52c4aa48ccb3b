-- ===== the parts of a text =====
section PRT
variable {g0C g0R gC gR g0 g : Mm} {T K q a k v b e : Nat} {tp : Nat → Nat} {C : List Nat}
theorem ri_next (h : RI gR T K tp a C) (ht : Tok K tp a k v b e) : ∃ g', fX11_next gR = some g' ∧ RI g' T K tp e C ∧ FT T gR g' ∧ g' 0 0 0 26 = nI b ∧ g' 0 0 0 27 = tkR k ∧ (1 ≤ k → k ≤ 3 → g' 0 0 0 28 = nI v) := by
  obtain ⟨h1, h2, h3, h4, h5, h6⟩ := h
  obtain ⟨g', p1, p2, p3, p4, p5, p6, p7⟩ := ht.2.2.2.2.2.2 gR h1 h2 h4
  refine ⟨g', p1, ⟨h1.fc (p3 11 (by decide) (by decide) (by decide) (by decide)) (p2 6 (by decide)), fun k hk => by rw [p2 18 (by decide)]; exact h2 k hk, (p3 12 (by decide) (by decide) (by decide) (by decide)).trans h3, p4, (p3 33 (by decide) (by decide) (by decide) (by decide)).trans h5, h6.cg fun q hq => by rw [p2 7 (by decide)]⟩, fun t i v j a1 a2 a3 => ?_, p5, p6, p7⟩
  by_cases c : t = 0
  · obtain ⟨rfl, rfl, c2⟩ := a1 c
    subst c
    rw [p3 j (by omega) (by omega) (by omega) (by omega)]
  · rw [p2 t c]
theorem RI.st8 {j : Nat} {x : Int32} (h : RI gR T K tp a C) : RI (st gR 8 0 0 j x) T K tp a C := by
  obtain ⟨h1, h2, h3, h4, h5, h6⟩ := h
  exact ⟨h1.fc (st_ne (by omega)) (st_kind (by decide)), h2.st (by decide), (st_ne (by omega)).trans h3, (st_ne (by omega)).trans h4, (st_ne (by omega)).trans h5, h6.cg fun q hq => st_ne (by omega)⟩
theorem CSt.st7 {j : Nat} {x : Int32} (h : CSt g0 T K tp a k v b e C g) : CSt (st g 7 T 0 j x) T K tp a k v b e C (st g 7 T 0 j x) := by
  obtain ⟨h1, h2, h3, h4, h5, h6, h7, h8, h9, h10⟩ := h
  exact ⟨h1.fc (st_ne (by omega)) (st_kind (by decide)), h2, (st_ne (by omega)).trans h3, (st_ne (by omega)).trans h4, (st_ne (by omega)).trans h5, (st_ne (by omega)).trans h6, fun a1 a2 => (st_ne (by omega)).trans (h7 a1 a2), (st_ne (by omega)).trans h8, h9.cg fun q hq => st_ne (by omega), FC.rf⟩
theorem tkR_0 {k : Nat} (hk : k < 256) : (tkR k = 0 ↔ k = 0) := by
  constructor
  · intro h
    by_cases c : k = 0
    · exact c
    · exact absurd h (tkR_ne (n := 0) hk (by omega) c (by omega))
  · rintro rfl; rfl
theorem tkC_256 {k : Nat} (hk : k < 256) (h : k ≠ 0) : ¬ tkC k = 256 := by
  unfold tkC
  rw [if_neg h]
  by_cases c1 : k = 1
  · rw [if_pos c1]; decide
  rw [if_neg c1]
  by_cases c2 : k < 7
  · rw [if_pos c2]; decide
  rw [if_neg c2]
  by_cases c3 : k = 7
  · rw [if_pos c3]; decide
  rw [if_neg c3]
  exact nI_ne (b := 256) (by omega) (by omega) (by omega)
/-- the end of the text -/
theorem t_last {P : Nat → List Nat} {a1 : Int32} {i2 u1 u2 : Nat} (hT : T < 6) (h : TI g0C g0R T K tp 3 P gC gR) : ∃ t1 t2, wLp (fun q : Mm × Int32 => fX5_read_B28 q.1 a1 i2 q.2) (u1 + 1) (gC, nI 3) = some t1 ∧ wLp (fun q : Mm × Int32 × Int32 => fX11_text_B26 q.1 q.2.1 q.2.2) (u2 + 1) (gR, 1, nI 3) = some t2 ∧ TQ g0C g0R T t1 t2 := by
  obtain ⟨a, k, v, b, e, C, h1, h2, h3, h4, h5, h6, h7, h8, h9⟩ := h
  have hk := h1.k_lt
  have hK := h1.1.1
  obtain ⟨s1, s2⟩ := h1.start
  obtain ⟨t1', t2', t3', -⟩ := h1.tok
  obtain ⟨g1, p1, p2, p3, p4, p5, -⟩ := ri_next h2 h1.tok
  have hx := h9.ft p3
  have p12 : g1 0 0 0 12 = nI T := p2.2.2.1
  by_cases c : k = 0
  · have l : pof P 3 = C.length := by rw [← flat_len, ← h3, List.length_reverse]
    have C1 : fX5_read_B28 gC a1 i2 (nI 3) = some (.inr (gC, -1)) := by
      unfold fX5_read_B28
      rw [if_pos (show (3 : Int32) ≤ nI 3 by decide), h1.token, if_pos (show tkC k = 256 by rw [c]; rfl), wEx_e]
    have R1 : ∃ g2, fX11_text_b122 g1 1 = some (g2, nI T) ∧ XR T g0R g2 ∧ g2 0 0 0 11 = 0 ∧ g2 0 0 0 12 = nI (T + 1) ∧ RT gC g2 T := by
      unfold fX11_text_b122
      rw [p12, show (3 : Int32) = nI 3 from rfl, w4i hT (by omega), w4n hT (by omega), wLe_e, wLe_e, if_neg c10, st_ne (by omega), st_ne (by omega), p12, nI_1, wLe_e, st_eq, show nI (T + 1) - 1 = nI T from nI_s1 _]
      refine ⟨_, rfl, ((hx.st (by omega)).st (by omega)).st (by omega), (st_ne (by omega)).trans st_eq, st_eq, P, by omega, h5, h6, fun q hq => ?_, fun q hq k hk => ⟨?_, ?_⟩⟩
      · rw [st_kind (by decide), st_kind (by decide)]
        by_cases c3 : q = 3
        · rw [c3, st_eq, p2.2.2.2.2.1, l]
        · rw [st_ne (by omega), p3 8 0 0 _ (by omega) (by omega) (by omega)]
          exact h7 q (by omega)
      · exact CL_get h1.2.2.2.2.2.2.2.2.1 (by rw [h3]; exact flat_get hk 3 hq)
      · rw [st_kind (by decide), st_kind (by decide), st_kind (by decide)]
        exact OL_get p2.2.2.2.2.2 (by rw [h3]; exact flat_get hk 3 hq)
    obtain ⟨g2, r1, r2, r3, r4, r5⟩ := R1
    refine ⟨(gC, -1), (g2, nI T), wLp_out C1, wLp_out ?_, h8, r2, r3, Or.inr ⟨rfl, rfl, r4, r5⟩⟩
    show fX11_text_B26 gR 1 (nI 3) = _
    unfold fX11_text_B26 fX11_text_b101 fX11_text_b121
    rw [if_pos (show (3 : Int32) ≤ nI 3 by decide), if_neg c10, p1, wBd_e, p5, if_pos ((tkR_0 hk).mpr c), r1, wEx_e]
  · have C1 : fX5_read_B28 gC a1 i2 (nI 3) = some (.inr (gC, nI b)) := by
      unfold fX5_read_B28
      rw [if_pos (show (3 : Int32) ≤ nI 3 by decide), h1.token, if_neg (tkC_256 hk c), s1, wEx_e]
    obtain ⟨g2, r1, r2, r3, r4⟩ := t_fail hT p12 p4 hx
    refine ⟨(gC, nI b), (g2, -100 - nI b), wLp_out C1, wLp_out ?_, h8, r2, r3, Or.inl ⟨b, s2, rfl, rfl, r4⟩⟩
    show fX11_text_B26 gR 1 (nI 3) = _
    unfold fX11_text_B26 fX11_text_b101 fX11_text_b121
    rw [if_pos (show (3 : Int32) ≤ nI 3 by decide), if_neg c10, p1, wBd_e, p5, if_neg (fun q => c ((tkR_0 hk).mp q)), r1, wEx_e]
/-- one part -/
theorem t_part {P : Nat → List Nat} {a1 : Int32} {i2 : Nat} (hT : T < 6) (hq : q < 3) (h : TI g0C g0R T K tp q P gC gR) :
    (∃ gC' gR' P', fX5_read_B28 gC a1 i2 (nI q) = some (.inl (gC', nI (q + 1))) ∧ fX11_text_B26 gR 1 (nI q) = some (.inl (gR', 1, nI (q + 1))) ∧ TI g0C g0R T K tp (q + 1) P' gC' gR') ∨
    ∃ gC' gR' b, fX5_read_B28 gC a1 i2 (nI q) = some (.inr (gC', nI b)) ∧ fX11_text_B26 gR 1 (nI q) = some (.inl (gR', 0, nI (q + 1))) ∧ b ≤ 160 ∧ XC T g0C gC' ∧ XR T g0R gR' ∧ gR' 0 0 0 12 = nI T ∧ gR' 0 0 0 26 = nI b := by
  obtain ⟨a, k, v, b, e, C, h1, h2, h3, h4, h5, h6, h7, h8, h9⟩ := h
  have hk := h1.k_lt
  have hK := h1.1.1
  obtain ⟨s1, s2⟩ := h1.start
  obtain ⟨t1', t2', t3', t4', ok, -⟩ := h1.tok
  obtain ⟨g1, p1, p2, p3, p4, p5, p6⟩ := ri_next h2 h1.tok
  have p12 : g1 0 0 0 12 = nI T := p2.2.2.1
  have n3 : ¬ (3 : Int32) ≤ nI q := nI_ge (b := 3) hq (by omega)
  have hx : XR T g0R (st g1 8 0 0 (4 * T + q) (nI C.length)) := (h9.ft p3).st (by omega)
  by_cases c : k = 3 ∧ v = q
  · have lt : b < e := t4' (by omega)
    obtain ⟨kn, vn, bn, en, gn, n1, n2⟩ := c_next h1
    -- the reference begins an expression
    have ri := p2.st8 (j := 4 * T + q) (x := nI C.length)
    obtain ⟨i1, i2', i3, i4, i5, i6⟩ := ri
    have r0 : RSt (st (st (st g1 8 0 0 (4 * T + q) (nI C.length)) 0 0 0 31 0) 0 0 0 32 0) T K tp e C ([] ++ []) (opn ([] ++ [])) (st (st (st g1 8 0 0 (4 * T + q) (nI C.length)) 0 0 0 31 0) 0 0 0 32 0) :=
      ⟨(i1.st (by decide)).st (by decide), (i2'.st (by decide)).st (by decide), ((st_ne (by omega)).trans (st_ne (by omega))).trans i3, ((st_ne (by omega)).trans (st_ne (by omega))).trans i4, (st_ne (by omega)).trans st_eq, st_eq, ((st_ne (by omega)).trans (st_ne (by omega))).trans i5, trivial, i6.cg fun q hq => (st_ne (by omega)).trans (st_ne (by omega)), FT.rf⟩
    have hx2 := (hx.st (t := 0) (i := 0) (v := 0) (j := 31) (x := 0) (by omega)).st (t := 0) (i := 0) (v := 0) (j := 32) (x := 0) (by omega)
    have sub := expr_pr (gC0 := gC) (gR0 := st (st (st g1 8 0 0 (4 * T + q) (nI C.length)) 0 0 0 31 0) 0 0 0 32 0) hT gn _ e kn vn bn en C [] [] 1 n2 r0 rfl (fun c hc => absurd hc List.not_mem_nil) (fun c hc => absurd hc List.not_mem_nil) Nat.one_pos (by show C.length + 0 ≤ e; omega) (fun _ => rfl) (fun q => absurd q (by omega)) (fun _ => rfl)
    have R : ∀ g2 y, wLp eF 1000 (st (st (st g1 8 0 0 (4 * T + q) (nI C.length)) 0 0 0 31 0) 0 0 0 32 0, 1, 1) = some (g2, y) → fX11_text_B26 gR 1 (nI q) = if y = 0 then some (.inl (g2, 0, nI (q + 1))) else some (.inl (g2, 1, nI (q + 1))) := fun g2 y hy => by
      unfold fX11_text_B26
      rw [if_neg n3, if_neg c10, p1, wBd_e, p5, if_pos (show tkR k = 3 by rw [c.1]; rfl), p6 (by omega) (by omega), if_pos (show nI v = nI q by rw [c.2])]
      unfold fX11_text_b60 fX11_text_b93 fX11_text_b94
      rw [p12, w4i hT (by omega), w4n hT (by omega), p2.2.2.2.2.1, wLe_e, if_neg c10]
      have er : fX11_eRead (st g1 8 0 0 (4 * T + q) (nI C.length)) = some (g2, y) := hy
      rw [er, wB2_e, wLe_e, wLe_e, nI_1]
    have cB : ∀ g2 y, grR 100 0 gn 0 = some (g2, y) → fX5_read_B28 gC a1 i2 (nI q) = (if y = 0 then (wEx (some (g2, g2 3 0 0 4))) else (if (g2 3 0 0 3) = (59 : Int32) then (wBd (fX5_next g2) fun g37 => wGr (g37 3 0 0 6) fun n38 => wBd (fX6_endPart g37 n38 (nI q)) fun g43 => wLe (nI q + 1) fun y44 => some (.inl (g43, y44))) else (wEx (some (g2, g2 3 0 0 4))))) := fun g2 y hy => by
      unfold fX5_read_B28
      rw [if_neg n3, (isWord_ev h1 (w := q) (by omega)).1 (Or.inl c), wBd_e, if_neg c10, n1, wBd_e, hy, wB2_e]
    rcases sub with ⟨gd, a2, w1, gR2, k', v', b', e', n', cs, P2, O2, x2', j1, j2, j3, j4, j5, j6, j7, j8, j9, j10⟩ | ⟨gd, w1, gR2, n', b', ⟨j1, j1'⟩, j2, j3, j4, j5, j6⟩
    · have u1 := j1.tok.1
      have u2 := j1.tok.2.1
      have u3 := j1.tok.2.2.1
      obtain ⟨w, hw⟩ : ∃ w, 1000 = w + 1 + n' := ⟨999 - n', by omega⟩
      by_cases c59 : k' = 59
      · subst c59
        obtain ⟨kz, vz, bz, ez, gz, z1, z2⟩ := c_next j1
        obtain ⟨gy, y1, y2, y3⟩ := e_end (x2 := x2') hT j3 j1.tok (fun c hc => j5 c hc) j8
        have j4' : P2.reverse ++ O2 = cs ++ C := j4
        rw [j4'] at y2
        have lt' : b' < e' := j1.tok.2.2.2.1 (by omega)
        have lO : (cs ++ C).length ≤ a2 := by
          rw [← j4', List.length_append, List.length_reverse]
          have : (P2 ++ []).length = P2.length + 0 := List.length_append ..
          omega
        obtain ⟨f1, f2⟩ := flat_cg (P := P) (P' := fun j => if j = q then cs.reverse else P j) q fun j hj => if_neg (by omega)
        have fl : (cs ++ C).reverse = flat (fun j => if j = q then cs.reverse else P j) (q + 1) := by
          show _ = flat (fun j => if j = q then cs.reverse else P j) q ++ (if q = q then cs.reverse else P q)
          rw [if_pos rfl, f1, List.reverse_append, h3]
        have pl : (cs ++ C).length = pof (fun j => if j = q then cs.reverse else P j) (q + 1) := by rw [← flat_len, ← fl, List.length_reverse]
        have pl0 : C.length = pof P q := by rw [← flat_len, ← h3, List.length_reverse]
        left
        refine ⟨st gz 7 T 0 q (nI (cs ++ C).length), gy, fun j => if j = q then cs.reverse else P j, ?_, ?_, e', kz, vz, bz, ez, cs ++ C, z2.st7, ⟨y2.1, y2.2.1, y2.2.2.1, y2.2.2.2.1, y2.2.2.2.2.2.2.1, y2.2.2.2.2.2.2.2.2.1⟩, fl, by omega, fun j hj => ?_, fun j hj => ?_, fun j hj => ?_, (h8.fc z2.fc).st (by omega), hx2.ft y2.ft⟩
        · rw [cB gd 1 w1, if_neg c10, j1.token, if_pos (show tkC 59 = 59 from rfl), z1, wBd_e, z2.rule, wGr_ok hT]
          unfold fX6_endPart
          rw [wGi_ok hq (by omega), nI_clamp (by omega), z2.2.2.2.2.2.2.2.1, wLe_e, wBd_e, nI_1, wLe_e]
        · rw [R gy 1 (by rw [hw, j2, wLp_out (show eF (gR2, 0, x2') = _ from y1)]), if_neg c10]
        · dsimp only
          by_cases cj : j = q
          · rw [if_pos cj]
            exact ⟨fun c hc => j9.1 c (List.mem_reverse.mp hc), j9.2 0⟩
          · rw [if_neg cj]
            exact h5 j (by omega)
        · by_cases cj : j = q
          · subst cj
            rw [st_eq, pl]
          · rw [st_ne (by omega), (flat_cg (P := P) (P' := fun j => if j = q then cs.reverse else P j) (j + 1) fun i hi => if_neg (by omega)).2, z2.fc 7 T 0 j (by omega) (by omega) (by omega)]
            exact h6 j (by omega)
        · rw [y2.ft 8 0 0 _ (by omega) (by omega) (by omega), st_kind (by decide), st_kind (by decide)]
          rw [(flat_cg (P := P) (P' := fun j => if j = q then cs.reverse else P j) j fun i hi => if_neg (by omega)).2]
          by_cases cj : j = q
          · subst cj
            rw [st_eq, pl0]
          · rw [st_ne (by omega), p3 8 0 0 _ (by omega) (by omega) (by omega)]
            exact h7 j (by omega)
      · obtain ⟨⟨⟨⟨l1, l2, l3⟩, l4⟩, l5⟩, l6⟩ := j6
        obtain ⟨gy, y1, y2, y3⟩ := e_bad (x2 := x2') hT j3 j1.tok (fun c hc => j5 c hc) (fun c hc => absurd hc List.not_mem_nil) (Or.inl rfl) ⟨l6, l5, l2, l3, l1⟩ (fun q => absurd q c59) (fun _ => rfl) l4 j8
        obtain ⟨o1, o2⟩ := j1.start
        right
        refine ⟨gd, gy, b', ?_, ?_, o2, h8.fc j1.fc, hx2.ft y2, ?_, y3⟩
        · rw [cB gd 1 w1, if_neg c10, j1.token, if_neg (show ¬ tkC k' = 59 from tkC_ne (n := 59) (Or.inr j1.k_lt) (by omega) (by omega) c59), o1, wEx_e]
        · rw [R gy 0 (by rw [hw, j2, wLp_out (show eF (gR2, 0, x2') = _ from y1)]), if_pos rfl]
        · rw [y2 0 0 0 12 (by omega) (by omega) (by omega)]
          exact ((st_ne (by omega)).trans (st_ne (by omega))).trans i3
    · obtain ⟨w, hw⟩ : ∃ w, 1000 = w + n' := ⟨1000 - n', by omega⟩
      right
      refine ⟨gd, gR2, b', ?_, ?_, j1', h8.fc j2, hx2.ft j6, ?_, j5⟩
      · rw [cB gd 0 w1, if_pos rfl, j1, wEx_e]
      · rw [R gR2 0 (by rw [hw, j3]), if_pos rfl]
      · rw [j6 0 0 0 12 (by omega) (by omega) (by omega)]
        exact ((st_ne (by omega)).trans (st_ne (by omega))).trans i3
  · -- the key is not there
    right
    have R60 : fX11_text_b60 g1 (nI q) 0 = some (.inl (st g1 8 0 0 (4 * T + q) (nI C.length), 0, nI (q + 1))) := by
      unfold fX11_text_b60 fX11_text_b93 fX11_text_b94
      rw [p12, w4i hT (by omega), w4n hT (by omega), p2.2.2.2.2.1, wLe_e, if_pos rfl, wLe_e, nI_1]
    refine ⟨gC, st g1 8 0 0 (4 * T + q) (nI C.length), b, ?_, ?_, s2, h8, hx, (st_ne (by omega)).trans p12, (st_ne (by omega)).trans p4⟩
    · unfold fX5_read_B28
      rw [if_neg n3, (isWord_ev h1 (w := q) (by omega)).2 (by omega), wBd_e, if_pos rfl, s1, wEx_e]
    · unfold fX11_text_B26 fX11_text_b59
      rw [if_neg n3, if_neg c10, p1, wBd_e, p5]
      by_cases c3 : k = 3
      · rw [if_pos (show tkR k = 3 by rw [c3]; rfl), p6 (by omega) (by omega), if_neg (nI_ne (by have := ok.2.2.2 c3; omega) (by omega) (fun q => c ⟨c3, q⟩))]
        exact R60
      · rw [if_neg (show ¬ tkR k = 3 from tkR_ne (n := 3) hk (by omega) c3 (by omega))]
        exact R60
theorem parts_pr {a1 : Int32} {i2 : Nat} (hT : T < 6) : ∀ m q, q + m = 3 → ∀ P gC gR u1 u2, TI g0C g0R T K tp q P gC gR → m < u1 → m + 1 < u2 → ∃ t1 t2, wLp (fun q : Mm × Int32 => fX5_read_B28 q.1 a1 i2 q.2) u1 (gC, nI q) = some t1 ∧ wLp (fun q : Mm × Int32 × Int32 => fX11_text_B26 q.1 q.2.1 q.2.2) u2 (gR, 1, nI q) = some t2 ∧ TQ g0C g0R T t1 t2 := by
  intro m
  induction m with
  | zero =>
    intro q hq P gC gR u1 u2 h h1 h2
    obtain ⟨u1, rfl⟩ : ∃ w, u1 = w + 1 := ⟨u1 - 1, by omega⟩
    obtain ⟨u2, rfl⟩ : ∃ w, u2 = w + 1 := ⟨u2 - 1, by omega⟩
    have : q = 3 := hq
    subst this
    exact t_last hT h
  | succ m ih =>
    intro q hq P gC gR u1 u2 h h1 h2
    obtain ⟨u1, rfl⟩ : ∃ w, u1 = w + 1 := ⟨u1 - 1, by omega⟩
    obtain ⟨u2, rfl⟩ : ∃ w, u2 = w + 2 := ⟨u2 - 2, by omega⟩
    rcases t_part (a1 := a1) (i2 := i2) hT (by omega) h with ⟨gC', gR', P', p1, p2, p3⟩ | ⟨gC', gR', b, p1, p2, p3, p4, p5, p6, p7⟩
    · obtain ⟨t1, t2, r1, r2, r3⟩ := ih (q + 1) (by omega) P' gC' gR' u1 (u2 + 1) p3 (by omega) (by omega)
      exact ⟨t1, t2, (wLp_in p1).trans r1, (wLp_in (s := (gR, 1, nI q)) p2).trans r2, r3⟩
    · obtain ⟨g', f1, f2, f3, f4⟩ := t_fail' (u := u2) (x := nI (q + 1)) hT p6 p7 p5
      exact ⟨(gC', nI b), (g', -100 - nI b), wLp_out p1, (wLp_in (s := (gR, 1, nI q)) p2).trans f1, p4, f2, f3, Or.inl ⟨b, p3, rfl, rfl, f4⟩⟩
end PRT
