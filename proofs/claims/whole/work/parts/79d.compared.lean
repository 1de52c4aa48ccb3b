-- ===== what is compared, what is negated =====
section CMP
variable {gC0 gR0 : Mm} {T K : Nat} {tp : Nat → Nat}
theorem compared_pr {o n : Nat} (hT : T < 6) (hS : Sp gC0 gR0 T K tp 4 5 5 LA2 o n) : Sp gC0 gR0 T K tp 3 4 4 LA3 o (n + 1) := by
  intro gC gR a k v b e C H Q x2 hC hR hoo hQ hh hH hs hq hx hx'
  have hQ0 := hq (by omega)
  subst hQ0
  have hoH : opn H = o := hoo
  show Ps gC0 gR0 T K tp 4 LA3 [] a C H (gR, 1, x2) (fX5_compared (grR n) gC (nI o))
  unfold fX5_compared
  rcases hS gC gR a k v b e C H [] x2 hC hR hoo hQ hh (by omega) hs (fun _ => rfl) (fun _ => hx (by omega)) (fun q => absurd q (by omega)) with ⟨gc, a', p1, p2⟩ | ⟨gc, p1, p2⟩
  · rw [p1, wB2_e, if_neg c10]
    have p2' := p2
    obtain ⟨gR1, k1, v1, b1, e1, n1, cs, P, O, x3, k1', k2, k3, k4, k5, k6, k7, k8, k9, k10⟩ := p2
    have hK := k1'.1.1
    obtain ⟨⟨-, m1⟩, m2⟩ := k6
    rw [k1'.token]
    by_cases c : k1 = 60 ∨ k1 = 61
    · obtain ⟨t1, t2, t3, t4, -⟩ := k1'.tok
      have lt : b1 < e1 := t4 (by omega)
      obtain ⟨kn, vn, bn, en, gn, z1, z2⟩ := c_next k1'
      obtain ⟨gs, s1, s2⟩ := e_sign (x2 := x3) hT k3 k1'.tok (r := 5) (by omega) k5 hh (by omega) (fun _ => hH) k8
      have oc : 11 ≤ opc k1 ∧ opc k1 ≤ 18 ∧ opc k1 ≠ 13 ∧ rk (opc k1) = 4 := by
        rcases c with rfl | rfl <;> decide
      have e0 : opn (opc k1 :: H) = o := by rw [← hoH]; exact opn_0 (by omega)
      rw [k4] at s2
      have lOP : (cs ++ C).length + H.length ≤ a' := by
        have q1 : (P.reverse ++ O).length = (cs ++ C).length := by rw [k4]; rfl
        rw [List.length_append, List.length_reverse] at q1
        have q2 : (P ++ H).length = P.length + H.length := List.length_append ..
        omega
      have sub := hS gn gs e1 kn vn bn en (cs ++ C) (opc k1 :: H) [] (if k1 ≤ 5 then 1 else 0) z2 s2 e0 (fun c hc => absurd hc List.not_mem_nil) (fun c hc => by
        rcases List.mem_cons.mp hc with rfl | hc
        · exact Or.inr (by omega)
        · exact hh c hc) (show rk (opc k1) < 5 by omega) (by show (cs ++ C).length + (H.length + 1) ≤ e1; omega) (fun _ => rfl) (fun q1 _ => if_neg (by omega)) (fun q1 => absurd q1 (by omega))
      have st1 := steps_tr k2 (steps_one (s := (gR1, 0, x3)) s1)
      have R : ∀ z : Int32, z = nI (cC (opc k1)) → Ps gC0 gR0 T K tp 4 LA3 [] a C H (gR, 1, x2) (fX5_compared_b48 (grR n) gc (nI o) z) := fun z hz => by
        unfold fX5_compared_b48
        rw [z1, wBd_e]
        rcases sub with ⟨gd, a2, p1, gR2, k', v', b', e', n2', cs2, P2, O2, x2', j1, j2, j3, j4, j5, j6, j7, j8, j9, j10⟩ | ⟨gd, p1, p2⟩
        · have q3 := j1.tok.1
          have q4 := j1.tok.2.1
          have q5 := j1.tok.2.2.1
          have lO2 : (cs2 ++ (cs ++ C)).length < 160 := by
            have q1 : (P2.reverse ++ O2).length = (cs2 ++ (cs ++ C)).length := by rw [j4]; rfl
            rw [List.length_append, List.length_reverse] at q1
            have q2 : (P2 ++ opc k1 :: H).length = P2.length + (H.length + 1) := List.length_append ..
            omega
          obtain ⟨gp, w1, w2⟩ := c_put (c := opc k1) hT j1 lO2
          rw [p1, wB2_e, if_neg c10, j1.rule, wGr_ok hT, hz, w1, wBd_e]
          have eC : opc k1 :: (cs2 ++ cs) ++ C = opc k1 :: (cs2 ++ (cs ++ C)) := by rw [List.cons_append, List.append_assoc]
          have eH : P2 ++ [opc k1] ++ H = P2 ++ opc k1 :: H := by rw [List.append_assoc]; rfl
          obtain ⟨⟨-, l1⟩, l2⟩ := j6
          refine Or.inl ⟨gp, a2, rfl, gR2, k', v', b', e', n2' + (1 + n1), opc k1 :: (cs2 ++ cs), P2 ++ [opc k1], O2, x2', by rw [eC]; exact w2, steps_tr st1 j2, by rw [eH]; exact j3, ?_, fun d hd => ?_, ⟨⟨l1, fun q => l2 (Or.inl q), fun q => l2 (Or.inr q)⟩, fun _ => ⟨P2, opc k1, [], rfl, oc.2.2.2, fun d hd => (j5 d hd).2.2⟩⟩, by omega, by rw [eH]; exact j8, k9.two j9 ⟨oc.1, oc.2.1, oc.2.2.1⟩, by omega⟩
          · rw [List.reverse_append]
            show opc k1 :: (P2.reverse ++ O2) = opc k1 :: (cs2 ++ cs) ++ C
            rw [j4, eC]
            rfl
          · rcases List.mem_append.mp hd with hd | hd
            · have := j5 d hd
              exact ⟨this.1, this.2.1, Nat.le_trans (by omega) this.2.2⟩
            · rw [List.mem_singleton] at hd
              subst hd
              exact ⟨oc.1, by omega, by omega⟩
        · rw [p1, wB2_e, if_pos rfl]
          exact Or.inr ⟨gd, rfl, p2.pre st1 (by omega)⟩
      have b30 : tkC k1 = 60 ∨ tkC k1 = 61 → Ps gC0 gR0 T K tp 4 LA3 [] a C H (gR, 1, x2) (fX5_compared_b30 (grR n) gc (nI o)) := fun _ => by
        unfold fX5_compared_b30
        rw [k1'.token]
        rcases c with rfl | rfl
        · rw [if_pos (show tkC 60 = 60 from rfl)]; exact R _ rfl
        · rw [if_neg (show ¬ tkC 61 = 60 by decide)]; exact R _ rfl
      rcases c with rfl | rfl
      · rw [if_pos (show tkC 60 = 60 from rfl)]; exact b30 (Or.inl rfl)
      · rw [if_neg (show ¬ tkC 61 = 60 by decide), if_pos (show tkC 61 = 61 from rfl)]; exact b30 (Or.inr rfl)
    · rw [if_neg (show ¬ tkC k1 = 60 from tkC_ne (n := 60) (Or.inr k1'.k_lt) (by omega) (by omega) (by omega)), if_neg (show ¬ tkC k1 = 61 from tkC_ne (n := 61) (Or.inr k1'.k_lt) (by omega) (by omega) (by omega))]
      exact Or.inl ⟨gc, a', rfl, gR1, k1, v1, b1, e1, n1, cs, P, O, x3, k1', k2, k3, k4, fun d hd => ⟨(k5 d hd).1, (k5 d hd).2.1, Nat.le_trans (by omega) (k5 d hd).2.2⟩, ⟨⟨m1, fun q => m2 (Or.inl q), fun q => m2 (Or.inr q)⟩, fun q => absurd q c⟩, k7, k8, k9, k10⟩
  · rw [p1, wB2_e, if_pos rfl]
    exact Or.inr ⟨gc, rfl, p2⟩
theorem negated_pr {o n : Nat} (hT : T < 6) (ho : o ≤ 5) (hS : Sp gC0 gR0 T K tp 3 4 4 LA3 o n) (hN : o < 5 → Sp gC0 gR0 T K tp 2 4 3 LA3 (o + 1) n) : Sp gC0 gR0 T K tp 2 4 3 LA3 o (n + 1) := by
  intro gC gR a k v b e C H Q x2 hC hR hoo hQ hh hH hs hq hx hx'
  have hQ0 := hq (by omega)
  subst hQ0
  have hoH : opn H = o := hoo
  have hK := hC.1.1
  have x21 : x2 = 1 := hx' (by omega)
  show Ps gC0 gR0 T K tp 3 LA3 [] a C H (gR, 1, x2) (fX5_negated (grR n) gC (nI o))
  unfold fX5_negated
  by_cases c6 : k = 6
  · obtain ⟨t1, t2, t3, t4, -⟩ := hC.tok
    rw [show fX5_isWord gC 5 = some 1 from (isWord_ev hC (w := 5) (by omega)).1 (by omega), wBd_e, if_neg c10]
    by_cases c5 : o < 5
    · have lt : b < e := t4 (by omega)
      obtain ⟨kn, vn, bn, en, gn, n1, n2⟩ := c_next hC
      obtain ⟨gs, s1, s2⟩ := e_open (x2 := x2) (H := H) hR hC.tok (by omega) (Or.inr (Or.inr ⟨c6, x21⟩)) hs
      rw [if_neg (show ¬ k = 45 by omega)] at s1
      rw [if_neg (show ¬ k = 40 by omega), if_neg (show ¬ k = 45 by omega)] at s2
      have e0 : opn (13 :: H) = o + 1 := by rw [opn_1 (Or.inr (Or.inl rfl)), hoH]
      have s2 : RSt gR0 T K tp e C ([] ++ 13 :: H) (opn ([] ++ 13 :: H)) gs := by
        show RSt gR0 T K tp e C (13 :: H) (opn (13 :: H)) gs
        rw [e0, ← hoH]; exact s2
      have st1 := steps_one (s := (gR, 1, x2)) s1
      have hs' : C.length + H.length ≤ a := hs
      have sub := hN c5 gn gs e kn vn bn en C (13 :: H) [] 1 n2 s2 e0 (fun c hc => absurd hc List.not_mem_nil) (fun c hc => by
        rcases List.mem_cons.mp hc with rfl | hc
        · exact Or.inr (by omega)
        · exact hh c hc) (show rk 13 < 4 by decide) (by show C.length + (H.length + 1) ≤ e; omega) (fun _ => rfl) (fun q => absurd q (by omega)) (fun _ => rfl)
      rw [if_pos (show nI o < 5 from nI_lt (b := 5) c5 (by omega)), n1, wBd_e, nI_1]
      rcases sub with ⟨gd, a2, p1, gR2, k', v', b', e', n2', cs2, P2, O2, x2', j1, j2, j3, j4, j5, j6, j7, j8, j9, j10⟩ | ⟨gd, p1, p2⟩
      · have q3 := j1.tok.1
        have q4 := j1.tok.2.1
        have q5 := j1.tok.2.2.1
        have lO2 : (cs2 ++ C).length < 160 := by
          have q1 : (P2.reverse ++ O2).length = (cs2 ++ C).length := by rw [j4]; rfl
          rw [List.length_append, List.length_reverse] at q1
          have q2 : (P2 ++ 13 :: H).length = P2.length + (H.length + 1) := List.length_append ..
          omega
        obtain ⟨gp, w1, w2⟩ := c_put (c := 13) hT j1 lO2
        have eH : P2 ++ [13] ++ H = P2 ++ 13 :: H := by rw [List.append_assoc]; rfl
        rw [p1, wB2_e, if_neg c10, j1.rule, wGr_ok hT, show (10010 : Int32) = nI (cC 13) from rfl, w1, wBd_e]
        refine Or.inl ⟨gp, a2, rfl, gR2, k', v', b', e', n2' + 1, 13 :: cs2, P2 ++ [13], O2, x2', w2, steps_tr st1 j2, by rw [eH]; exact j3, ?_, fun d hd => ?_, ⟨j6.1, fun q => (j6.2 q).app⟩, by omega, by rw [eH]; exact j8, j9.sign (Or.inl rfl), by omega⟩
        · rw [List.reverse_append]
          show 13 :: (P2.reverse ++ O2) = 13 :: cs2 ++ C
          rw [j4]
          rfl
        · rcases List.mem_append.mp hd with hd | hd
          · exact j5 d hd
          · rw [List.mem_singleton] at hd
            subst hd
            decide
      · rw [p1, wB2_e, if_pos rfl]
        exact Or.inr ⟨gd, rfl, p2.pre st1 (by omega)⟩
    · rw [if_neg (show ¬ nI o < 5 from nI_nlt (b := 5) (by omega) (by omega))]
      obtain ⟨gy, y1, y2, y3⟩ := e_none (x2 := x2) (H := H) hR hC.tok (by omega) (by omega) (fun _ => Or.inr (by omega)) (fun q => by omega)
      exact Or.inr ⟨gC, rfl, Ko.out (s := (gR, 1, x2)) (by omega) y1 hC.start hC.fc y3 y2⟩
  · rw [show fX5_isWord gC 5 = some 0 from (isWord_ev hC (w := 5) (by omega)).2 (by
      have := hC.tok.2.2.2.2.1.2.2.2
      omega), wBd_e, if_pos rfl]
    rcases hS gC gR a k v b e C H [] x2 hC hR hoo hQ hh hH hs (fun _ => rfl) (fun _ q => absurd q c6) (fun q => absurd q (by omega)) with ⟨gc, a', p1, p2⟩ | ⟨gc, p1, p2⟩
    · rw [p1, wB2_e, wGb_1]
      exact Or.inl ⟨gc, a', rfl, p2.low (by omega)⟩
    · rw [p1, wB2_e, wGb_0]
      exact Or.inr ⟨gc, rfl, p2⟩
/-- all levels, at every depth -/
theorem levels (hT : T < 6) : ∀ d o, o + d = 5 → (∀ n, 8 * d + 2 ≤ n → Sp gC0 gR0 T K tp 6 7 8 LA0 o n) ∧ (∀ n, 8 * d + 6 ≤ n → Sp gC0 gR0 T K tp 2 4 3 LA3 o n) ∧ ∀ n, 8 * d + 8 ≤ n → Sp gC0 gR0 T K tp 0 1 1 LA5 o n := by
  intro d
  have up : ∀ d o, o + d = 5 → (∀ n, 8 * d + 2 ≤ n → Sp gC0 gR0 T K tp 6 7 8 LA0 o n) → (o < 5 → ∀ n, 8 * d + 6 ≤ n + 8 → Sp gC0 gR0 T K tp 2 4 3 LA3 (o + 1) n) → (∀ n, 8 * d + 6 ≤ n → Sp gC0 gR0 T K tp 2 4 3 LA3 o n) ∧ ∀ n, 8 * d + 8 ≤ n → Sp gC0 gR0 T K tp 0 1 1 LA5 o n := by
    intro d o hd h1 hn
    have h2 : ∀ n, 8 * d + 3 ≤ n → Sp gC0 gR0 T K tp 5 6 6 LA1 o n := fun n hn' => by
      obtain ⟨m, rfl⟩ : ∃ m, n = m + 1 := ⟨n - 1, by omega⟩
      exact term_pr hT (h1 m (by omega))
    have h3 : ∀ n, 8 * d + 4 ≤ n → Sp gC0 gR0 T K tp 4 5 5 LA2 o n := fun n hn' => by
      obtain ⟨m, rfl⟩ : ∃ m, n = m + 1 := ⟨n - 1, by omega⟩
      exact sum_pr hT (h2 m (by omega))
    have h4 : ∀ n, 8 * d + 5 ≤ n → Sp gC0 gR0 T K tp 3 4 4 LA3 o n := fun n hn' => by
      obtain ⟨m, rfl⟩ : ∃ m, n = m + 1 := ⟨n - 1, by omega⟩
      exact compared_pr hT (h3 m (by omega))
    have h5 : ∀ n, 8 * d + 6 ≤ n → Sp gC0 gR0 T K tp 2 4 3 LA3 o n := fun n hn' => by
      obtain ⟨m, rfl⟩ : ∃ m, n = m + 1 := ⟨n - 1, by omega⟩
      exact negated_pr hT (by omega) (h4 m (by omega)) (fun q => hn q m (by omega))
    have h6 : ∀ n, 8 * d + 7 ≤ n → Sp gC0 gR0 T K tp 1 2 2 LA4 o n := fun n hn' => by
      obtain ⟨m, rfl⟩ : ∃ m, n = m + 1 := ⟨n - 1, by omega⟩
      exact both_pr hT (h5 m (by omega))
    exact ⟨h5, fun n hn' => by
      obtain ⟨m, rfl⟩ : ∃ m, n = m + 1 := ⟨n - 1, by omega⟩
      exact either_pr hT (h6 m (by omega))⟩
  induction d with
  | zero =>
    intro o ho
    have h1 : ∀ n, 8 * 0 + 2 ≤ n → Sp gC0 gR0 T K tp 6 7 8 LA0 o n := fun n hn' => by
      obtain ⟨m, rfl⟩ : ∃ m, n = m + 2 := ⟨n - 2, by omega⟩
      exact one_pr hT (by omega) (fun q => absurd q (by omega)) (fun q => absurd q (by omega))
    exact ⟨h1, up 0 o ho h1 (fun q => absurd q (by omega))⟩
  | succ d ih =>
    intro o ho
    obtain ⟨i1, i2, i3⟩ := ih (o + 1) (by omega)
    have h1 : ∀ n, 8 * (d + 1) + 2 ≤ n → Sp gC0 gR0 T K tp 6 7 8 LA0 o n := fun n hn' => by
      obtain ⟨m, rfl⟩ : ∃ m, n = m + 2 := ⟨n - 2, by omega⟩
      exact one_pr hT (by omega) (fun _ => i3 m (by omega)) (fun _ => i1 m (by omega))
    exact ⟨h1, up (d + 1) o ho h1 (fun _ n hn' => i2 n (by omega))⟩
theorem expr_pr (hT : T < 6) : Sp gC0 gR0 T K tp 0 1 1 LA5 0 100 := (levels hT 5 0 rfl).2.2 100 (by omega)
end CMP
