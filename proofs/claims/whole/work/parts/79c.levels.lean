-- ===== the levels of an expression =====
section LEV
variable {gC0 gR0 : Mm} {T K : Nat} {tp : Nat → Nat}
theorem isWord_ev {g : Mm} {a k v b e w : Nat} {C : List Nat} (h : CSt gC0 T K tp a k v b e C g) (hw : w < 6) : ((k = 3 ∧ v = w) ∨ (k = w + 1 ∧ 3 ≤ w) → fX5_isWord g (nI w) = some 1) ∧ (¬ ((k = 3 ∧ v = w) ∨ (k = w + 1 ∧ 3 ≤ w)) → fX5_isWord g (nI w) = some 0) := by
  have ok := h.tok.2.2.2.2.1
  have hk := okk_lt ok
  have hv := h.2.2.2.2.2.2.1
  unfold fX5_isWord
  rw [h.token]
  by_cases c : 2 ≤ k ∧ k ≤ 6
  · rw [if_pos (tkC_w c), hv (by omega) (by omega)]
    unfold tvC
    by_cases c2 : k = 2
    · have := ok.2.2.1 c2
      rw [if_pos c2, if_neg (nI_ne (a := v + 6) (by omega) (by omega) (by omega))]
      exact ⟨fun q => by omega, fun _ => rfl⟩
    · rw [if_neg c2]
      by_cases c4 : 4 ≤ k ∧ k ≤ 6
      · rw [if_pos c4]
        by_cases d : k - 1 = w
        · rw [if_pos (by rw [d])]
          exact ⟨fun _ => rfl, fun q => by omega⟩
        · rw [if_neg (nI_ne (by omega) (by omega) d)]
          exact ⟨fun q => by omega, fun _ => rfl⟩
      · have := ok.2.2.2 (by omega)
        rw [if_neg c4]
        by_cases d : v = w
        · rw [if_pos (by rw [d])]
          exact ⟨fun _ => rfl, fun q => by omega⟩
        · rw [if_neg (nI_ne (by omega) (by omega) d)]
          exact ⟨fun q => by omega, fun _ => rfl⟩
  · rw [if_neg (tkC_259 hk c)]
    exact ⟨fun q => by omega, fun _ => rfl⟩
theorem CSt.k_lt {g : Mm} {a k v b e : Nat} {C : List Nat} (h : CSt gC0 T K tp a k v b e C g) : k < 256 := okk_lt h.tok.2.2.2.2.1
theorem OkA.le {l : Nat} {LA : Nat → List Nat → Prop} {Q : List Nat} {a a' : Nat} {C H : List Nat} {s : Mm × Int32 × Int32} {g : Mm} (h : OkA gC0 gR0 T K tp l LA Q a C H s g a') : a' ≤ 160 := by
  obtain ⟨gR, k, v, b, e, n, cs, P, O, x2, h1, -⟩ := h
  obtain ⟨t1, t2, t3, -⟩ := h1.tok
  have := h1.1.1
  omega
theorem term_pr {o n : Nat} (hT : T < 6) (hS : Sp gC0 gR0 T K tp 6 7 8 LA0 o n) : Sp gC0 gR0 T K tp 5 6 6 LA1 o (n + 1) := by
  intro gC gR a k v b e C H Q x2 hC hR hoo hQ hh hH hs hq hx hx'
  have hQ0 := hq (by omega)
  subst hQ0
  show Ps gC0 gR0 T K tp 6 LA1 [] a C H (gR, 1, x2) (fX5_term (grR n) gC (nI o))
  unfold fX5_term
  rcases hS gC gR a k v b e C H [] x2 hC hR hoo hQ hh (by omega) hs (fun q => absurd rfl q) (fun _ => hx (by omega)) (fun q => absurd q (by omega)) with ⟨gc, a', p1, p2⟩ | ⟨gc, p1, p2⟩
  · rw [p1, wB2_e, if_neg c10, wLe_e]
    have l := p2.le
    exact loop_pr (q := 6) (r := 6) (op := fun k => k = 42) hT hS (fun q => fX5_term_B12 (grR n) q.1 (nI o) q.2) (fun k hk => by subst hk; exact ⟨by omega, by omega⟩) (by omega) (by omega) (fun _ _ _ h => h) (fun g a k v b e C x h1 h2 => by
      show fX5_term_B12 (grR n) g (nI o) x = _
      unfold fX5_term_B12
      rw [h1.token, if_neg (show ¬ tkC k = 42 from tkC_ne (n := 42) (Or.inr h1.k_lt) (by omega) (by omega) h2), wEx_e]
      split <;> rfl) (fun g g' gr y a k v b e C x h1 h2 h3 h4 h5 => by
      subst h2
      show (_ → fX5_term_B12 (grR n) g (nI o) (nI x) = _) ∧ (_ → _ → ∀ gp, _ → fX5_term_B12 (grR n) g (nI o) (nI x) = _)
      unfold fX5_term_B12
      rw [if_neg (show ¬ (160 : Int32) ≤ nI x from nI_ge (b := 160) (by omega) (by omega)), h1.token, if_pos (show tkC 42 = 42 from rfl), h4, wBd_e, h5, wB2_e]
      refine ⟨fun y0 => by rw [if_pos y0, wEx_e], fun y1 hr gp hp => ?_⟩
      rw [y1, if_neg c10, hr, wGr_ok hT, show (10015 : Int32) = nI (cC (opc 42)) from rfl, hp, wBd_e, wLe_e, nI_1]) hh hH hoo 161 a' gc 0 1000 (by omega) (by omega) (by omega) (p2.low (by omega))
  · rw [p1, wB2_e, if_pos rfl]
    exact Or.inr ⟨gc, rfl, p2⟩
theorem sum_pr {o n : Nat} (hT : T < 6) (hS : Sp gC0 gR0 T K tp 5 6 6 LA1 o n) : Sp gC0 gR0 T K tp 4 5 5 LA2 o (n + 1) := by
  intro gC gR a k v b e C H Q x2 hC hR hoo hQ hh hH hs hq hx hx'
  have hQ0 := hq (by omega)
  subst hQ0
  show Ps gC0 gR0 T K tp 5 LA2 [] a C H (gR, 1, x2) (fX5_sum (grR n) gC (nI o))
  unfold fX5_sum
  rcases hS gC gR a k v b e C H [] x2 hC hR hoo hQ hh (by omega) hs (fun _ => rfl) (fun _ => hx (by omega)) (fun q => absurd q (by omega)) with ⟨gc, a', p1, p2⟩ | ⟨gc, p1, p2⟩
  · rw [p1, wB2_e, if_neg c10, wLe_e]
    have l := p2.le
    exact loop_pr (q := 5) (r := 5) (op := fun k => k = 43 ∨ k = 45) hT hS (fun q => fX5_sum_B12 (grR n) q.1 (nI o) q.2) (fun k hk => ⟨by omega, by omega⟩) (by omega) (by omega) (fun _ _ _ h => h) (fun g a k v b e C x h1 h2 => by
      show fX5_sum_B12 (grR n) g (nI o) x = _
      unfold fX5_sum_B12
      rw [h1.token, if_neg (show ¬ tkC k = 43 from tkC_ne (n := 43) (Or.inr h1.k_lt) (by omega) (by omega) (by omega)), if_neg (show ¬ tkC k = 45 from tkC_ne (n := 45) (Or.inr h1.k_lt) (by omega) (by omega) (by omega)), wEx_e]
      split <;> rfl) (fun g g' gr y a k v b e C x h1 h2 h3 h4 h5 => by
      have B : ∀ z : Int32, z = nI (cC (opc k)) → (y = 0 → fX5_sum_b55 (grR n) g (nI o) (nI x) z = some (.inr (gr, 0))) ∧ (y = 1 → gr 3 0 0 6 = nI (T + 1) → ∀ gp, fX6_put gr T (nI (cC (opc k))) = some gp → fX5_sum_b55 (grR n) g (nI o) (nI x) z = some (.inl (gp, nI (x + 1)))) := fun z hz => by
        unfold fX5_sum_b55
        rw [h4, wBd_e, h5, wB2_e]
        refine ⟨fun y0 => by rw [if_pos y0, wEx_e], fun y1 hr gp hp => ?_⟩
        rw [y1, if_neg c10, hr, wGr_ok hT, hz, hp, wBd_e, wLe_e, nI_1]
      show (_ → fX5_sum_B12 (grR n) g (nI o) (nI x) = _) ∧ (_ → _ → ∀ gp, _ → fX5_sum_B12 (grR n) g (nI o) (nI x) = _)
      unfold fX5_sum_B12 fX5_sum_b37
      rw [if_neg (show ¬ (160 : Int32) ≤ nI x from nI_ge (b := 160) (by omega) (by omega)), h1.token]
      rcases h2 with rfl | rfl
      · rw [if_pos (show tkC 43 = 43 from rfl), if_pos (show tkC 43 = 43 from rfl)]; exact B _ rfl
      · rw [if_neg (show ¬ tkC 45 = 43 by decide), if_neg (show ¬ tkC 45 = 43 by decide), if_pos (show tkC 45 = 45 from rfl)]; exact B _ rfl) hh hH hoo 161 a' gc 0 1000 (by omega) (by omega) (by omega) (p2.low (by omega))
  · rw [p1, wB2_e, if_pos rfl]
    exact Or.inr ⟨gc, rfl, p2⟩
theorem both_pr {o n : Nat} (hT : T < 6) (hS : Sp gC0 gR0 T K tp 2 4 3 LA3 o n) : Sp gC0 gR0 T K tp 1 2 2 LA4 o (n + 1) := by
  intro gC gR a k v b e C H Q x2 hC hR hoo hQ hh hH hs hq hx hx'
  have hQ0 := hq (by omega)
  subst hQ0
  show Ps gC0 gR0 T K tp 2 LA4 [] a C H (gR, 1, x2) (fX5_both (grR n) gC (nI o))
  unfold fX5_both
  rcases hS gC gR a k v b e C H [] x2 hC hR hoo hQ hh (by omega) hs (fun _ => rfl) (fun q => absurd q (by omega)) (fun _ => hx' (by omega)) with ⟨gc, a', p1, p2⟩ | ⟨gc, p1, p2⟩
  · rw [p1, wB2_e, if_neg c10, wLe_e]
    have l := p2.le
    exact loop_pr (q := 2) (r := 2) (op := fun k => k = 5) hT hS (fun q => fX5_both_B12 (grR n) q.1 (nI o) q.2) (fun k hk => ⟨by omega, by omega⟩) (by omega) (by omega) (fun _ _ _ h => ⟨h.1, fun q => (h.2 q).app⟩) (fun g a k v b e C x h1 h2 => by
      show fX5_both_B12 (grR n) g (nI o) x = _
      unfold fX5_both_B12
      rw [show fX5_isWord g 4 = some 0 from (isWord_ev h1 (w := 4) (by omega)).2 (by
        have := h1.tok.2.2.2.2.1.2.2.2
        omega), wBd_e, if_pos rfl, wEx_e]
      split <;> rfl) (fun g g' gr y a k v b e C x h1 h2 h3 h4 h5 => by
      subst h2
      show (_ → fX5_both_B12 (grR n) g (nI o) (nI x) = _) ∧ (_ → _ → ∀ gp, _ → fX5_both_B12 (grR n) g (nI o) (nI x) = _)
      unfold fX5_both_B12
      rw [if_neg (show ¬ (160 : Int32) ≤ nI x from nI_ge (b := 160) (by omega) (by omega)), show fX5_isWord g 4 = some 1 from (isWord_ev h1 (w := 4) (by omega)).1 (by omega), wBd_e, if_neg c10, h4, wBd_e, h5, wB2_e]
      refine ⟨fun y0 => by rw [if_pos y0, wEx_e], fun y1 hr gp hp => ?_⟩
      rw [y1, if_neg c10, hr, wGr_ok hT, show (10009 : Int32) = nI (cC (opc 5)) from rfl, hp, wBd_e, wLe_e, nI_1]) hh hH hoo 161 a' gc 0 1000 (by omega) (by omega) (by omega) (p2.low (by omega))
  · rw [p1, wB2_e, if_pos rfl]
    exact Or.inr ⟨gc, rfl, p2⟩
theorem either_pr {o n : Nat} (hT : T < 6) (hS : Sp gC0 gR0 T K tp 1 2 2 LA4 o n) : Sp gC0 gR0 T K tp 0 1 1 LA5 o (n + 1) := by
  intro gC gR a k v b e C H Q x2 hC hR hoo hQ hh hH hs hq hx hx'
  have hQ0 := hq (by omega)
  subst hQ0
  show Ps gC0 gR0 T K tp 1 LA5 [] a C H (gR, 1, x2) (fX5_either (grR n) gC (nI o))
  unfold fX5_either
  rcases hS gC gR a k v b e C H [] x2 hC hR hoo hQ hh (by omega) hs (fun _ => rfl) (fun q => absurd q (by omega)) (fun _ => hx' (by omega)) with ⟨gc, a', p1, p2⟩ | ⟨gc, p1, p2⟩
  · rw [p1, wB2_e, if_neg c10, wLe_e]
    have l := p2.le
    exact loop_pr (q := 1) (r := 1) (op := fun k => k = 4) hT hS (fun q => fX5_either_B12 (grR n) q.1 (nI o) q.2) (fun k hk => ⟨by omega, by omega⟩) (by omega) (by omega) (fun _ _ _ h => ⟨⟨h.1.1, fun q => (h.1.2 q).app⟩, h.2⟩) (fun g a k v b e C x h1 h2 => by
      show fX5_either_B12 (grR n) g (nI o) x = _
      unfold fX5_either_B12
      rw [show fX5_isWord g 3 = some 0 from (isWord_ev h1 (w := 3) (by omega)).2 (by
        have := h1.tok.2.2.2.2.1.2.2.2
        omega), wBd_e, if_pos rfl, wEx_e]
      split <;> rfl) (fun g g' gr y a k v b e C x h1 h2 h3 h4 h5 => by
      subst h2
      show (_ → fX5_either_B12 (grR n) g (nI o) (nI x) = _) ∧ (_ → _ → ∀ gp, _ → fX5_either_B12 (grR n) g (nI o) (nI x) = _)
      unfold fX5_either_B12
      rw [if_neg (show ¬ (160 : Int32) ≤ nI x from nI_ge (b := 160) (by omega) (by omega)), show fX5_isWord g 3 = some 1 from (isWord_ev h1 (w := 3) (by omega)).1 (by omega), wBd_e, if_neg c10, h4, wBd_e, h5, wB2_e]
      refine ⟨fun y0 => by rw [if_pos y0, wEx_e], fun y1 hr gp hp => ?_⟩
      rw [y1, if_neg c10, hr, wGr_ok hT, show (10008 : Int32) = nI (cC (opc 4)) from rfl, hp, wBd_e, wLe_e, nI_1]) hh hH hoo 161 a' gc 0 1000 (by omega) (by omega) (by omega) (p2.low (by omega))
  · rw [p1, wB2_e, if_pos rfl]
    exact Or.inr ⟨gc, rfl, p2⟩
end LEV
