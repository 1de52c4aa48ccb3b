-- ===== one operand =====
def LA0 : Nat → List Nat → Prop := fun _ _ => True
def LA1 : Nat → List Nat → Prop := fun k P => LA0 k P ∧ ¬ k = 42
def LA2 : Nat → List Nat → Prop := fun k P => LA1 k P ∧ ¬ (k = 43 ∨ k = 45)
def Str (P : List Nat) : Prop := ∃ P1 d P2, P = P1 ++ d :: P2 ∧ rk d = 4 ∧ ∀ c, c ∈ P1 → 5 ≤ rk c
def LA3 : Nat → List Nat → Prop := fun k P => (k ≠ 42 ∧ k ≠ 43 ∧ k ≠ 45) ∧ (k = 60 ∨ k = 61 → Str P)
def LA4 : Nat → List Nat → Prop := fun k P => LA3 k P ∧ ¬ k = 5
def LA5 : Nat → List Nat → Prop := fun k P => LA4 k P ∧ ¬ k = 4
theorem Str.app {P : List Nat} {c : Nat} (h : Str P) : Str (P ++ [c]) := by
  obtain ⟨P1, d, P2, rfl, h1, h2⟩ := h
  exact ⟨P1, d, P2 ++ [c], by rw [List.append_assoc]; rfl, h1, h2⟩
section ONE
variable {gC0 gR0 : Mm} {T K : Nat} {tp : Nat → Nat}
theorem OkA.low {l l' : Nat} {LA : Nat → List Nat → Prop} {Q : List Nat} {a a' : Nat} {C H : List Nat} {s : Mm × Int32 × Int32} {g : Mm} (h : OkA gC0 gR0 T K tp l LA Q a C H s g a') (hl : l' ≤ l) : OkA gC0 gR0 T K tp l' LA Q a C H s g a' := by
  obtain ⟨gR, k, v, b, e, n, cs, P, O, x2, h1, h2, h3, h4, h5, h6⟩ := h
  exact ⟨gR, k, v, b, e, n, cs, P, O, x2, h1, h2, h3, h4, fun c hc => ⟨(h5 c hc).1, (h5 c hc).2.1, Nat.le_trans hl (h5 c hc).2.2⟩, h6⟩
theorem tkC_ne {k n : Nat} (hk : okk k 0 ∨ k < 256) (hn : 8 ≤ n) (hn' : n < 256) (h : k ≠ n) : ¬ tkC k = nI n := by
  have hk : k < 256 := by
    rcases hk with hk | hk
    · exact okk_lt hk
    · exact hk
  unfold tkC
  by_cases c0 : k = 0
  · rw [if_pos c0]; exact nI_ne (a := 256) (by omega) (by omega) (by omega)
  rw [if_neg c0]
  by_cases c1 : k = 1
  · rw [if_pos c1]; exact nI_ne (a := 258) (by omega) (by omega) (by omega)
  rw [if_neg c1]
  by_cases c2 : k < 7
  · rw [if_pos c2]; exact nI_ne (a := 259) (by omega) (by omega) (by omega)
  rw [if_neg c2]
  by_cases c3 : k = 7
  · rw [if_pos c3]; exact nI_ne (a := 257) (by omega) (by omega) (by omega)
  rw [if_neg c3]
  exact nI_ne (by omega) (by omega) h
theorem tkC_258 {k : Nat} (hk : k < 256) (h : k ≠ 1) : ¬ tkC k = 258 := by
  unfold tkC
  by_cases c0 : k = 0
  · rw [if_pos c0]; decide
  rw [if_neg c0, if_neg h]
  by_cases c2 : k < 7
  · rw [if_pos c2]; decide
  rw [if_neg c2]
  by_cases c3 : k = 7
  · rw [if_pos c3]; decide
  rw [if_neg c3]
  exact nI_ne (b := 258) (by omega) (by omega) (by omega)
theorem tkC_259 {k : Nat} (hk : k < 256) (h : ¬ (2 ≤ k ∧ k ≤ 6)) : ¬ tkC k = 259 := by
  unfold tkC
  by_cases c0 : k = 0
  · rw [if_pos c0]; decide
  rw [if_neg c0]
  by_cases c1 : k = 1
  · rw [if_pos c1]; decide
  rw [if_neg c1, if_neg (by omega)]
  by_cases c3 : k = 7
  · rw [if_pos c3]; decide
  rw [if_neg c3]
  exact nI_ne (b := 259) (by omega) (by omega) (by omega)
theorem tkC_w {k : Nat} (h : 2 ≤ k ∧ k ≤ 6) : tkC k = 259 := by
  unfold tkC
  rw [if_neg (by omega), if_neg (by omega), if_pos (by omega)]
theorem tkC_s {k : Nat} (h : 8 ≤ k) : tkC k = nI k := by
  unfold tkC
  rw [if_neg (by omega), if_neg (by omega), if_neg (by omega), if_neg (by omega)]
theorem one_70 {g : Mm} {a k v b e : Nat} {C : List Nat} {rec : RecT} {a1 : Int32} (h : CSt gC0 T K tp a k v b e C g) (h1 : k ≠ 1) (h2 : k ≠ 2) : fX5_one rec g a1 = fX5_one_b70 rec g a1 := by
  have ok := h.tok.2.2.2.2.1
  have hk := okk_lt ok
  have hv := h.2.2.2.2.2.2.1
  unfold fX5_one
  rw [h.token, if_neg (tkC_258 hk h1)]
  by_cases c : 2 ≤ k ∧ k ≤ 6
  · rw [if_pos (tkC_w c), hv (by omega) (by omega)]
    have : tvC k v < 6 := by
      unfold tvC
      rw [if_neg h2]
      by_cases d : 4 ≤ k ∧ k ≤ 6
      · rw [if_pos d]; exact nI_lt (b := 6) (by omega) (by omega)
      · rw [if_neg d]
        have := ok.2.2.2 (by omega)
        exact nI_lt (b := 6) (by omega) (by omega)
    rw [if_pos this]
  · rw [if_neg (tkC_259 hk c)]
theorem grR_7 {n : Nat} {g : Mm} {a : Int32} : grR (n + 1) 7 g a = fX5_enclosed (grR n) g a := rfl
theorem grR_8 {n : Nat} {g : Mm} {a : Int32} : grR (n + 1) 8 g a = fX5_negative (grR n) g a := rfl
theorem wGb_y0 {β : Type} {f : Option β} : wGb 0 f = f := by rw [wGb_0]
theorem one_pr {o n : Nat} (hT : T < 6) (ho : o ≤ 5) (hE : o < 5 → Sp gC0 gR0 T K tp 0 1 1 LA5 (o + 1) n) (hO : o < 5 → Sp gC0 gR0 T K tp 6 7 8 LA0 (o + 1) n) : Sp gC0 gR0 T K tp 6 7 8 LA0 o (n + 2) := by
  intro gC gR a k v b e C H Q x2 hC hR hoo hQ hh hH hs hq hx hx'
  have ok := hC.tok.2.2.2.2.1
  have hk := okk_lt ok
  have hK := hC.1.1
  obtain ⟨t1, t2, t3, t4, -⟩ := hC.tok
  have lQ : (Q ++ H).length = Q.length + H.length := List.length_append ..
  show Ps gC0 gR0 T K tp 8 LA0 Q a C H (gR, 1, x2) (fX5_one (grR (n + 1)) gC (nI o))
  by_cases c12 : k = 1 ∨ k = 2
  · -- a number, a name
    have lt : b < e := t4 (by omega)
    obtain ⟨g1, p1, p2⟩ := c_put (c := cod k v) hT hC (by omega)
    obtain ⟨k', v', b', e', g2, q1, q2⟩ := c_next p2
    obtain ⟨g3, r1, r2⟩ := e_one (x2 := x2) hT hR hC.tok c12 hQ hh hH (by omega)
    have comp : fX5_one (grR (n + 1)) gC (nI o) = some (g2, 1) := by
      have hv := hC.2.2.2.2.2.2.1
      unfold fX5_one
      rw [hC.token]
      rcases c12 with rfl | rfl
      · rw [if_pos (show tkC 1 = 258 from rfl)]
        unfold fX5_one_b29
        rw [hC.rule, wGr_ok hT, hC.token, if_pos (show tkC 1 = 258 from rfl), hv (by omega) (by omega)]
        have cc : tvC 1 v = nI (cC (cod 1 v)) := by
          show nI v = nI (cC (100000 + v))
          unfold cC
          rw [if_neg (by omega), if_neg (by omega), show 100000 + v - 100000 = v by omega]
        rw [cc, p1, wBd_e, q1, wBd_e]
      · have v8 := ok.2.2.1 rfl
        rw [if_neg (show ¬ tkC 2 = 258 by decide), if_pos (show tkC 2 = 259 from rfl), hv (by omega) (by omega), if_neg (show ¬ tvC 2 v < 6 from nI_nlt (a := v + 6) (b := 6) (by omega) (by omega))]
        unfold fX5_one_b29
        rw [hC.rule, wGr_ok hT, hC.token, if_neg (show ¬ tkC 2 = 258 by decide), hv (by omega) (by omega)]
        have cc : (10000 : Int32) + tvC 2 v - 6 = nI (cC (cod 2 v)) := by
          show (nI 10000 + nI (v + 6)) - nI 6 = nI (cC v)
          unfold cC
          rw [if_pos (by omega), nI_add, nI_sub (by omega)]
          congr 1
        rw [cc, p1, wBd_e, q1, wBd_e]
    refine Or.inl ⟨g2, e, comp, g3, k', v', b', e', 1, [cod k v], [], Q.reverse ++ (cod k v :: C), x2, q2, steps_one r1, r2, rfl, fun c hc => absurd hc List.not_mem_nil, trivial, by omega, ?_, ?_, by omega⟩
    · rw [List.length_append, List.length_reverse]
      show Q.length + (C.length + 1) + H.length ≤ e
      omega
    · apply Wf.one
      unfold cod
      rcases c12 with rfl | rfl
      · have := ok.2.1 rfl
        rw [if_pos rfl]; omega
      · have := ok.2.2.1 rfl
        rw [if_neg (by omega)]; omega
  have k1 : k ≠ 1 := fun q => c12 (Or.inl q)
  have k2 : k ≠ 2 := fun q => c12 (Or.inr q)
  rw [one_70 hC k1 k2]
  unfold fX5_one_b70
  rw [hC.token]
  have hR' : RSt gR0 T K tp a C (Q ++ H) (opn (Q ++ H)) gR := hR
  have hhQ : ∀ c, c ∈ Q ++ H → okh c := fun c hc => by
    rcases List.mem_append.mp hc with hc | hc
    · rw [hQ c hc]; exact Or.inr (by omega)
    · exact hh c hc
  by_cases c40 : k = 40
  · subst c40
    rw [if_pos (show tkC 40 = 40 from rfl)]
    unfold fX5_one_b88
    by_cases c5 : o < 5
    · have lt : b < e := t4 (by omega)
      obtain ⟨kn, vn, bn, en, gn, n1, n2⟩ := c_next hC
      obtain ⟨gs, s1, s2⟩ := e_open (x2 := x2) hR hC.tok (by omega) (Or.inl rfl) (by omega)
      have e0 : opn (0 :: (Q ++ H)) = o + 1 := by rw [opn_1 (Or.inl rfl), hoo]
      have s2 : RSt gR0 T K tp e C ([] ++ 0 :: (Q ++ H)) (opn ([] ++ 0 :: (Q ++ H))) gs := by
        show RSt gR0 T K tp e C (0 :: (Q ++ H)) (opn (0 :: (Q ++ H))) gs
        rw [e0, ← hoo]; exact s2
      have st1 := steps_one (s := (gR, 1, x2)) s1
      have hh0 : ∀ c, c ∈ 0 :: (Q ++ H) → okh c := fun c hc => by
        rcases List.mem_cons.mp hc with rfl | hc
        · exact Or.inl rfl
        · exact hhQ c hc
      have sub := hE c5 gn gs e kn vn bn en C (0 :: (Q ++ H)) [] 1 n2 s2 e0 (fun c hc => absurd hc List.not_mem_nil) hh0 (show rk 0 < 1 by decide) (by show C.length + ((Q ++ H).length + 1) ≤ e; omega) (fun _ => rfl) (fun q => absurd q (by omega)) (fun _ => rfl)
      rw [if_pos (show nI o < 5 from nI_lt (b := 5) c5 (by omega)), hC.token, if_pos (show tkC 40 = 40 from rfl), nI_1, grR_7]
      unfold fX5_enclosed
      rw [n1, wBd_e]
      rcases sub with ⟨gc, a2, p1, gR2, k', v', b', e', n2', cs2, P2, O2, x2', j1, j2, j3, j4, j5, j6, j7, j8, j9, j10⟩ | ⟨gc, p1, p2⟩
      · rw [p1, wB2_e, if_neg c10, j1.token]
        by_cases c41 : k' = 41
        · subst c41
          have lt' : b' < e' := j1.tok.2.2.2.1 (by omega)
          have b1 := j1.tok.1
          obtain ⟨kz, vz, bz, ez, gz, z1, z2⟩ := c_next j1
          obtain ⟨gy, y1, y2⟩ := e_close (x2 := x2') hT j3 j1.tok (fun c hc => j5 c hc) hQ hh hH j8
          rw [if_pos (show tkC 41 = 41 from rfl), z1, wBd_e, wB2_e, wGb_1]
          have j4' : P2.reverse ++ O2 = cs2 ++ C := j4
          have ll := congrArg List.length j4'
          rw [List.length_append, List.length_reverse] at ll
          have lP2 : (P2 ++ 0 :: (Q ++ H)).length = P2.length + ((Q ++ H).length + 1) := List.length_append ..
          refine Or.inl ⟨gz, e', rfl, gy, kz, vz, bz, ez, 1 + (n2' + 1), cs2, [], Q.reverse ++ (P2.reverse ++ O2), x2', z2, steps_tr (steps_tr st1 j2) (steps_one y1), y2, by rw [j4']; rfl, fun c hc => absurd hc List.not_mem_nil, trivial, by omega, ?_, j9, by omega⟩
          rw [List.length_append, List.length_append, List.length_reverse, List.length_reverse]
          show Q.length + (P2.length + O2.length) + H.length ≤ e'
          omega
        · have hk' := okk_lt j1.tok.2.2.2.2.1
          have b1 := j1.tok.1
          have b2 := j1.tok.2.1
          have b3 := j1.tok.2.2.1
          obtain ⟨⟨⟨⟨l1, l2, l3⟩, l4⟩, l5⟩, l6⟩ := j6
          obtain ⟨gy, y1, y2, y3⟩ := e_bad (x2 := x2') hT j3 j1.tok (fun c hc => j5 c hc) hh0 (Or.inr ⟨_, rfl⟩) ⟨l6, l5, l2, l3, l1⟩ (fun _ q => by cases q) (fun q => absurd q c41) l4 j8
          rw [if_neg (show ¬ tkC k' = 41 from tkC_ne (n := 41) (Or.inr hk') (by omega) (by omega) c41), wB2_e, wGb_0]
          exact Or.inr ⟨gc, rfl, (Ko.out (s := (gR2, 0, x2')) (by omega) y1 j1.start j1.fc y3 y2).pre (steps_tr st1 j2) (by omega)⟩
      · rw [p1, wB2_e, if_pos rfl, wB2_e, wGb_0]
        exact Or.inr ⟨gc, rfl, p2.pre st1 (by omega)⟩
    · rw [if_neg (show ¬ nI o < 5 from nI_nlt (b := 5) (by omega) (by omega))]
      obtain ⟨gy, y1, y2, y3⟩ := e_none (x2 := x2) hR hC.tok k1 k2 (fun q => absurd q (by omega)) (fun _ => by omega)
      exact Or.inr ⟨gC, rfl, Ko.out (by omega) y1 hC.start hC.fc y3 y2⟩
  rw [if_neg (show ¬ tkC k = 40 from tkC_ne (n := 40) (Or.inr hk) (by omega) (by omega) c40)]
  by_cases c45 : k = 45
  · subst c45
    rw [if_pos (show tkC 45 = 45 from rfl)]
    unfold fX5_one_b88
    by_cases c5 : o < 5
    · have lt : b < e := t4 (by omega)
      obtain ⟨kn, vn, bn, en, gn, n1, n2⟩ := c_next hC
      obtain ⟨gs, s1, s2⟩ := e_open (x2 := x2) hR hC.tok (by omega) (Or.inr (Or.inl rfl)) (by omega)
      have e0 : opn (19 :: Q ++ H) = o + 1 := by
        show opn (19 :: (Q ++ H)) = o + 1
        rw [opn_1 (Or.inr (Or.inr rfl)), hoo]
      have s2 : RSt gR0 T K tp e C (19 :: Q ++ H) (opn (19 :: Q ++ H)) gs := by
        rw [e0, ← hoo]; exact s2
      have st1 := steps_one (s := (gR, 1, x2)) s1
      have sub := hO c5 gn gs e kn vn bn en C H (19 :: Q) 0 n2 s2 e0 (fun c hc => by
        rcases List.mem_cons.mp hc with rfl | hc
        · rfl
        · exact hQ c hc) hh hH (by show C.length + ((Q ++ H).length + 1) ≤ e; omega) (fun q => absurd rfl q) (fun _ _ => rfl) (fun q => absurd q (by omega))
      rw [if_pos (show nI o < 5 from nI_lt (b := 5) c5 (by omega)), hC.token, if_neg (show ¬ tkC 45 = 40 by decide), nI_1, grR_8]
      unfold fX5_negative
      rw [n1, wBd_e]
      rcases sub with ⟨gc, a2, p1, gR2, k', v', b', e', n2', cs2, P2, O2, x2', j1, j2, j3, j4, j5, j6, j7, j8, j9, j10⟩ | ⟨gc, p1, p2⟩
      · have hP2 : P2 = [] := by
          cases P2 with
          | nil => rfl
          | cons c P2 =>
            have q1 := j5 c (List.mem_cons_self ..)
            have q2 := (rank_ev (g := gC) (c := c) (Or.inr ⟨q1.1, q1.2.1⟩)).2
            omega
        subst hP2
        have j4' : O2 = (19 :: Q).reverse ++ (cs2 ++ C) := j4
        have ll := congrArg List.length j4'
        rw [List.length_append, List.length_reverse] at ll
        have ll : O2.length = Q.length + 1 + (cs2 ++ C).length := ll
        have j8' : O2.length + H.length ≤ a2 := j8
        have b1 := j1.tok.1
        have b2 := j1.tok.2.1
        have b3 := j1.tok.2.2.1
        obtain ⟨gp, w1, w2⟩ := c_put (c := 19) hT j1 (by omega)
        rw [p1, wB2_e, if_neg c10, j1.rule, wGr_ok hT, show (10016 : Int32) = nI (cC 19) from rfl, w1, wBd_e, wB2_e, wGb_1]
        refine Or.inl ⟨gp, a2, rfl, gR2, k', v', b', e', n2' + 1, 19 :: cs2, [], O2, x2', w2, steps_tr st1 j2, j3, ?_, fun c hc => absurd hc List.not_mem_nil, trivial, by omega, j8, j9.sign (Or.inr rfl), by omega⟩
        show O2 = Q.reverse ++ (19 :: cs2 ++ C)
        rw [j4', List.reverse_cons, List.append_assoc]
        rfl
      · rw [p1, wB2_e, if_pos rfl, wB2_e, wGb_0]
        exact Or.inr ⟨gc, rfl, p2.pre st1 (by omega)⟩
    · rw [if_neg (show ¬ nI o < 5 from nI_nlt (b := 5) (by omega) (by omega))]
      obtain ⟨gy, y1, y2, y3⟩ := e_none (x2 := x2) hR hC.tok k1 k2 (fun q => absurd q (by omega)) (fun _ => by omega)
      exact Or.inr ⟨gC, rfl, Ko.out (by omega) y1 hC.start hC.fc y3 y2⟩
  rw [if_neg (show ¬ tkC k = 45 from tkC_ne (n := 45) (Or.inr hk) (by omega) (by omega) c45)]
  obtain ⟨gy, y1, y2, y3⟩ := e_none (x2 := x2) hR hC.tok k1 k2 (fun q => Or.inl (hx (by omega) q)) (fun q => absurd q (by omega))
  exact Or.inr ⟨gC, rfl, Ko.out (by omega) y1 hC.start hC.fc y3 y2⟩
end ONE
