-- ===== while a text is read: the two states =====
/-- codes that a rule has, the last one first -/
def CL (T : Nat) : List Nat → Mm → Prop
  | [], _ => True
  | c :: C, g => g 6 T 0 C.length = nI (cC c) ∧ CL T C g
def OL (T : Nat) : List Nat → Mm → Prop
  | [], _ => True
  | c :: C, g => g 7 0 0 (200 * T + C.length) = nI c ∧ OL T C g
/-- signs that are held, the top first -/
def HL : List Nat → Mm → Prop
  | [], _ => True
  | c :: C, g => g 19 0 0 C.length = nI c ∧ HL C g
def opn : List Nat → Nat
  | [] => 0
  | c :: H => opn H + if c = 0 ∨ c = 13 ∨ c = 19 then 1 else 0
def rk (c : Nat) : Nat := if c = 0 then 0 else if c = 11 then 1 else if c = 12 then 2 else if c = 13 then 3 else if 15 < c then (if 17 < c then (if c = 18 then 6 else 7) else 5) else 4
def topR : List Nat → Nat
  | [] => 0
  | c :: _ => rk c
theorem CL.cg {T : Nat} {C : List Nat} {g g' : Mm} (h : CL T C g) (e : ∀ q, q < C.length → g' 6 T 0 q = g 6 T 0 q) : CL T C g' := by
  induction C with
  | nil => trivial
  | cons c C ih => exact ⟨(e _ (Nat.lt_succ_self _)).trans h.1, ih h.2 fun q hq => e q (Nat.lt_succ_of_lt hq)⟩
theorem OL.cg {T : Nat} {C : List Nat} {g g' : Mm} (h : OL T C g) (e : ∀ q, q < C.length → g' 7 0 0 (200 * T + q) = g 7 0 0 (200 * T + q)) : OL T C g' := by
  induction C with
  | nil => trivial
  | cons c C ih => exact ⟨(e _ (Nat.lt_succ_self _)).trans h.1, ih h.2 fun q hq => e q (Nat.lt_succ_of_lt hq)⟩
theorem HL.cg {C : List Nat} {g g' : Mm} (h : HL C g) (e : ∀ q, q < C.length → g' 19 0 0 q = g 19 0 0 q) : HL C g' := by
  induction C with
  | nil => trivial
  | cons c C ih => exact ⟨(e _ (Nat.lt_succ_self _)).trans h.1, ih h.2 fun q hq => e q (Nat.lt_succ_of_lt hq)⟩
/-- what the component's reader leaves alone -/
def FC (T : Nat) (g0 g : Mm) : Prop := ∀ t i v j, (t = 3 → i = 0 ∧ v = 0 ∧ ¬ (2 ≤ j ∧ j ≤ 5)) → ¬ (t = 5 ∧ i = T ∧ v = 0 ∧ j = 3) → ¬ (t = 6 ∧ i = T ∧ v = 0) → g t i v j = g0 t i v j
/-- what the reference's reader leaves alone -/
def FT (T : Nat) (g0 g : Mm) : Prop := ∀ t i v j, (t = 0 → i = 0 ∧ v = 0 ∧ ¬ ((25 ≤ j ∧ j ≤ 28) ∨ (31 ≤ j ∧ j ≤ 33))) → ¬ (t = 7 ∧ i = 0 ∧ v = 0 ∧ 200 * T ≤ j) → ¬ (t = 19 ∧ i = 0 ∧ v = 0) → g t i v j = g0 t i v j
theorem FC.rf {T : Nat} {g : Mm} : FC T g g := fun _ _ _ _ _ _ _ => rfl
theorem FT.rf {T : Nat} {g : Mm} : FT T g g := fun _ _ _ _ _ _ _ => rfl
theorem FC.st {T t i v j : Nat} {g0 g : Mm} {x : Int32} (h : FC T g0 g) (w : (t = 3 ∧ i = 0 ∧ v = 0 ∧ 2 ≤ j ∧ j ≤ 5) ∨ (t = 5 ∧ i = T ∧ v = 0 ∧ j = 3) ∨ (t = 6 ∧ i = T ∧ v = 0)) : FC T g0 (st g t i v j x) := fun t' i' v' j' a b c => (st_ne (by omega)).trans (h t' i' v' j' a b c)
theorem FT.st {T t i v j : Nat} {g0 g : Mm} {x : Int32} (h : FT T g0 g) (w : (t = 0 ∧ i = 0 ∧ v = 0 ∧ ((25 ≤ j ∧ j ≤ 28) ∨ (31 ≤ j ∧ j ≤ 33))) ∨ (t = 7 ∧ i = 0 ∧ v = 0 ∧ 200 * T ≤ j) ∨ (t = 19 ∧ i = 0 ∧ v = 0)) : FT T g0 (st g t i v j x) := fun t' i' v' j' a b c => (st_ne (by omega)).trans (h t' i' v' j' a b c)
/-- the component's reader: it stands before the token of place a, with the codes C behind it -/
def CSt (g0 : Mm) (T K : Nat) (tp : Nat → Nat) (a k v b e : Nat) (C : List Nat) (g : Mm) : Prop :=
  TpC g K tp ∧ Tok K tp a k v b e ∧ g 3 0 0 6 = nI (T + 1) ∧ g 3 0 0 2 = nI e ∧ g 3 0 0 3 = tkC k ∧ g 3 0 0 4 = nI b ∧ (1 ≤ k → k ≤ 6 → g 3 0 0 5 = tvC k v) ∧ g 5 T 0 3 = nI C.length ∧ CL T C g ∧ FC T g0 g
/-- the reference's -/
def RSt (g0 : Mm) (T K : Nat) (tp : Nat → Nat) (a : Nat) (O H : List Nat) (p : Nat) (g : Mm) : Prop :=
  TpR g K tp ∧ WD g ∧ g 0 0 0 12 = nI T ∧ g 0 0 0 25 = nI a ∧ g 0 0 0 31 = nI H.length ∧ g 0 0 0 32 = nI p ∧ g 0 0 0 33 = nI O.length ∧ HL H g ∧ OL T O g ∧ FT T g0 g
theorem wLp_in {σ τ : Type} {f : σ → Option (σ ⊕ τ)} {u : Nat} {s s' : σ} (h : f s = some (.inl s')) : wLp f (u + 1) s = wLp f u s' := by
  conv => lhs; unfold wLp
  rw [h]
theorem wLp_out {σ τ : Type} {f : σ → Option (σ ⊕ τ)} {u : Nat} {s : σ} {t : τ} (h : f s = some (.inr t)) : wLp f (u + 1) s = some t := by
  conv => lhs; unfold wLp
  rw [h]
section RD
variable {g0 g : Mm} {T K a k v b e p : Nat} {tp : Nat → Nat} {C O H : List Nat}
theorem TpC.fc {g' : Mm} (h : TpC g K tp) (e1 : g' 3 0 0 1 = g 3 0 0 1) (e4 : g' 4 = g 4) : TpC g' K tp := ⟨h.1, e1.trans h.2.1, fun j hj => ⟨(h.2.2 j hj).1, by rw [e4]; exact (h.2.2 j hj).2⟩⟩
theorem TpR.fc {g' : Mm} (h : TpR g K tp) (e1 : g' 0 0 0 11 = g 0 0 0 11) (e4 : g' 6 = g 6) : TpR g' K tp := ⟨h.1, e1.trans h.2.1, fun j hj => ⟨(h.2.2 j hj).1, by rw [e4]; exact (h.2.2 j hj).2⟩⟩
theorem c_next (h : CSt g0 T K tp a k v b e C g) : ∃ k' v' b' e' g', fX5_next g = some g' ∧ CSt g0 T K tp e k' v' b' e' C g' := by
  obtain ⟨h1, h2, h3, h4, h5, h6, h7, h8, h9, h10⟩ := h
  obtain ⟨k', v', b', e', ht⟩ := lex h1.1 h2.2.2.1
  obtain ⟨g', p1, p2, p3, p4, p5, p6, p7⟩ := ht.2.2.2.2.2.1 g h1 h4
  refine ⟨k', v', b', e', g', p1, h1.fc (p3 1 (by decide) (by decide) (by decide) (by decide)) (p2 4 (by decide)), ht, (p3 6 (by decide) (by decide) (by decide) (by decide)).trans h3, p4, p6, p5, p7, by rw [p2 5 (by decide)]; exact h8, h9.cg fun q hq => by rw [p2 6 (by decide)], fun t i v j a1 a2 a3 => ?_⟩
  by_cases c : t = 3
  · obtain ⟨rfl, rfl, c2⟩ := a1 c
    subst c
    rw [p3 j (by omega) (by omega) (by omega) (by omega)]
    exact h10 3 0 0 j a1 a2 a3
  · rw [p2 t c]
    exact h10 t i v j a1 a2 a3
theorem c_put {c : Nat} (hT : T < 6) (h : CSt g0 T K tp a k v b e C g) (hC : C.length < 160) : ∃ g', fX6_put g T (nI (cC c)) = some g' ∧ CSt g0 T K tp a k v b e (c :: C) g' := by
  obtain ⟨h1, h2, h3, h4, h5, h6, h7, h8, h9, h10⟩ := h
  unfold fX6_put
  rw [h8, if_neg (show ¬ (160 : Int32) ≤ nI C.length from nI_ge (b := 160) hC (by omega)), wGi_ok hC (by omega), nI_clamp (by omega), wLe_e, st_ne (by omega), h8, nI_1, wLe_e]
  refine ⟨_, rfl, h1.fc ((st_ne (by omega)).trans (st_ne (by omega))) ((st_kind (by decide)).trans (st_kind (by decide))), h2, ?_, ?_, ?_, ?_, ?_, st_eq, ⟨(st_ne (by omega)).trans st_eq, h9.cg fun q hq => (st_ne (by omega)).trans (st_ne (by omega))⟩, (h10.st (by omega)).st (by omega)⟩
  · exact ((st_ne (by omega)).trans (st_ne (by omega))).trans h3
  · exact ((st_ne (by omega)).trans (st_ne (by omega))).trans h4
  · exact ((st_ne (by omega)).trans (st_ne (by omega))).trans h5
  · exact ((st_ne (by omega)).trans (st_ne (by omega))).trans h6
  · exact fun q1 q2 => ((st_ne (by omega)).trans (st_ne (by omega))).trans (h7 q1 q2)
/-- what a step of the reference's reader keeps of its object -/
def FK0 (g g' : Mm) : Prop := ∀ j, j ≠ 31 → j ≠ 32 → j ≠ 33 → g' 0 0 0 j = g 0 0 0 j
theorem r_next (h : RSt g0 T K tp a O H p g) (ht : Tok K tp a k v b e) : ∃ g', fX11_next g = some g' ∧ RSt g0 T K tp e O H p g' ∧ g' 0 0 0 26 = nI b ∧ g' 0 0 0 27 = tkR k ∧ (1 ≤ k → k ≤ 3 → g' 0 0 0 28 = nI v) := by
  obtain ⟨h1, h2, h3, h4, h5, h6, h7, h8, h9, h10⟩ := h
  obtain ⟨g', p1, p2, p3, p4, p5, p6, p7⟩ := ht.2.2.2.2.2.2 g h1 h2 h4
  refine ⟨g', p1, ⟨h1.fc (p3 11 (by decide) (by decide) (by decide) (by decide)) (p2 6 (by decide)), fun k hk => by rw [p2 18 (by decide)]; exact h2 k hk, (p3 12 (by decide) (by decide) (by decide) (by decide)).trans h3, p4, (p3 31 (by decide) (by decide) (by decide) (by decide)).trans h5, (p3 32 (by decide) (by decide) (by decide) (by decide)).trans h6, (p3 33 (by decide) (by decide) (by decide) (by decide)).trans h7, h8.cg fun q hq => by rw [p2 19 (by decide)], h9.cg fun q hq => by rw [p2 7 (by decide)], fun t i v j a1 a2 a3 => ?_⟩, p5, p6, p7⟩
  by_cases c : t = 0
  · obtain ⟨rfl, rfl, c2⟩ := a1 c
    subst c
    rw [p3 j (by omega) (by omega) (by omega) (by omega)]
    exact h10 0 0 0 j a1 a2 a3
  · rw [p2 t c]
    exact h10 t i v j a1 a2 a3
theorem WD.st {g : Mm} {t i v j : Nat} {x : Int32} (h : WD g) (ht : t ≠ 18) : WD (st g t i v j x) := fun k hk => (st_ne (by omega)).trans (h k hk)
theorem r_puts {c : Nat} (hT : T < 6) (h : RSt g0 T K tp a O H p g) (hO : O.length < 160) : ∃ g', fX11_puts g (nI c) = some g' ∧ RSt g0 T K tp a (c :: O) H p g' ∧ FK0 g g' := by
  obtain ⟨h1, h2, h3, h4, h5, h6, h7, h8, h9, h10⟩ := h
  unfold fX11_puts
  rw [h3, h7, wt_i200 hT hO, wt_n200 hT hO, wLe_e, st_ne (by omega), h7, nI_1, wLe_e]
  refine ⟨_, rfl, ⟨h1.fc ((st_ne (by omega)).trans (st_ne (by omega))) ((st_kind (by decide)).trans (st_kind (by decide))), (h2.st (by decide)).st (by decide), ?_, ?_, ?_, ?_, st_eq, h8.cg fun q hq => (st_ne (by omega)).trans (st_ne (by omega)), ⟨(st_ne (by omega)).trans st_eq, h9.cg fun q hq => (st_ne (by omega)).trans (st_ne (by omega))⟩, (h10.st (by omega)).st (by omega)⟩, fun j j1 j2 j3 => (st_ne (by omega)).trans (st_ne (by omega))⟩
  · exact ((st_ne (by omega)).trans (st_ne (by omega))).trans h3
  · exact ((st_ne (by omega)).trans (st_ne (by omega))).trans h4
  · exact ((st_ne (by omega)).trans (st_ne (by omega))).trans h5
  · exact ((st_ne (by omega)).trans (st_ne (by omega))).trans h6
theorem r_holds {c : Nat} (h : RSt g0 T K tp a O H p g) (hH : H.length < 160) : ∃ g', fX11_holds g (nI c) = some g' ∧ RSt g0 T K tp a O (c :: H) p g' ∧ FK0 g g' := by
  obtain ⟨h1, h2, h3, h4, h5, h6, h7, h8, h9, h10⟩ := h
  unfold fX11_holds
  rw [h5, wGi_ok (show H.length < 200 by omega) (by omega), nI_clamp (by omega), wLe_e, st_ne (by omega), h5, nI_1, wLe_e]
  refine ⟨_, rfl, ⟨h1.fc ((st_ne (by omega)).trans (st_ne (by omega))) ((st_kind (by decide)).trans (st_kind (by decide))), (h2.st (by decide)).st (by decide), ?_, ?_, st_eq, ?_, ?_, ⟨(st_ne (by omega)).trans st_eq, h8.cg fun q hq => (st_ne (by omega)).trans (st_ne (by omega))⟩, h9.cg fun q hq => (st_ne (by omega)).trans (st_ne (by omega)), (h10.st (by omega)).st (by omega)⟩, fun j j1 j2 j3 => (st_ne (by omega)).trans (st_ne (by omega))⟩
  · exact ((st_ne (by omega)).trans (st_ne (by omega))).trans h3
  · exact ((st_ne (by omega)).trans (st_ne (by omega))).trans h4
  · exact ((st_ne (by omega)).trans (st_ne (by omega))).trans h6
  · exact ((st_ne (by omega)).trans (st_ne (by omega))).trans h7
theorem r_open {c : Nat} (h : RSt g0 T K tp a O H p g) (hH : H.length < 160) (hp : p < 5) : ∃ g', fX11_opensOne g (nI c) = some (g', 1) ∧ RSt g0 T K tp a O (c :: H) (p + 1) g' ∧ FK0 g g' := by
  obtain ⟨h1, h2, h3, h4, h5, h6, h7, h8, h9, h10⟩ := h
  have s : RSt g0 T K tp a O H (p + 1) (st g 0 0 0 32 (nI (p + 1))) := ⟨h1.st (by decide), h2.st (by decide), (st_ne (by omega)).trans h3, (st_ne (by omega)).trans h4, (st_ne (by omega)).trans h5, st_eq, (st_ne (by omega)).trans h7, h8.cg fun q hq => st_ne (by omega), h9.cg fun q hq => st_ne (by omega), h10.st (by omega)⟩
  obtain ⟨g', p1, p2, p3⟩ := r_holds (c := c) s hH
  unfold fX11_opensOne
  rw [h6, if_neg (show ¬ nI p = 5 from nI_ne (b := 5) (by omega) (by omega) (by omega)), nI_1, wLe_e, p1, wBd_e]
  exact ⟨g', rfl, p2, fun j j1 j2 j3 => (p3 j j1 j2 j3).trans (st_ne (by omega))⟩
theorem r_open5 {c : Nat} (h : RSt g0 T K tp a O H 5 g) : fX11_opensOne g (nI c) = some (g, 0) := by
  unfold fX11_opensOne
  rw [h.2.2.2.2.2.1, if_pos (show nI 5 = 5 from rfl)]
def okh (c : Nat) : Prop := c = 0 ∨ (11 ≤ c ∧ c ≤ 19)
theorem rank_ev {c : Nat} (h : okh c) : fX11_rank g (nI c) = some (nI (rk c)) ∧ rk c ≤ 7 := by
  unfold okh at h
  rcases (show c = 0 ∨ c = 11 ∨ c = 12 ∨ c = 13 ∨ c = 14 ∨ c = 15 ∨ c = 16 ∨ c = 17 ∨ c = 18 ∨ c = 19 by omega) with rfl | rfl | rfl | rfl | rfl | rfl | rfl | rfl | rfl | rfl <;> exact ⟨rfl, by decide⟩
theorem HL.nth : ∀ {H : List Nat} {c : Nat}, HL (c :: H) g → g 19 0 0 H.length = nI c := fun h => h.1
theorem opn_le : opn H ≤ H.length := by
  induction H with
  | nil => exact Nat.le_refl _
  | cons c H ih =>
    show opn H + (if c = 0 ∨ c = 13 ∨ c = 19 then 1 else 0) ≤ H.length + 1
    by_cases q : c = 0 ∨ c = 13 ∨ c = 19
    · rw [if_pos q]; omega
    · rw [if_neg q]; omega
/-- one that is held goes to the text -/
theorem r_pop {c r : Nat} (hT : T < 6) (h : RSt g0 T K tp a O (c :: H) (opn (c :: H)) g) (hc : 11 ≤ c ∧ c ≤ 19) (hr : r ≤ rk c) (hO : O.length < 160) (hH : H.length < 160) :
    ∃ g', fX11_unwinds_B0 g (nI r) = some (.inl g') ∧ RSt g0 T K tp a (c :: O) H (opn H) g' ∧ FK0 g g' := by
  obtain ⟨h1, h2, h3, h4, h5, h6, h7, h8, h9, h10⟩ := h
  have hl : (c :: H).length = H.length + 1 := rfl
  rw [hl] at h5
  obtain ⟨k1, k2⟩ := rank_ev (g := g) (c := c) (Or.inr hc)
  have s1 : ∀ z : Int32, z = nI (opn H) → ∃ g', fX11_unwinds_b67 (st g 0 0 0 31 (nI H.length)) (nI r) (nI c) z 0 = some (.inl g') ∧ RSt g0 T K tp a (c :: O) H (opn H) g' ∧ FK0 g g' := fun z hz => by
    have s : RSt g0 T K tp a O H (opn H) (st (st g 0 0 0 31 (nI H.length)) 0 0 0 32 (nI (opn H))) := ⟨(h1.st (by decide)).st (by decide), (h2.st (by decide)).st (by decide), ((st_ne (by omega)).trans (st_ne (by omega))).trans h3, ((st_ne (by omega)).trans (st_ne (by omega))).trans h4, (st_ne (by omega)).trans st_eq, st_eq, ((st_ne (by omega)).trans (st_ne (by omega))).trans h7, h8.2.cg fun q hq => (st_ne (by omega)).trans (st_ne (by omega)), h9.cg fun q hq => (st_ne (by omega)).trans (st_ne (by omega)), (h10.st (by omega)).st (by omega)⟩
    obtain ⟨g', p1, p2, p3⟩ := r_puts (c := c) hT s hO
    unfold fX11_unwinds_b67
    have z0 : z - 0 = nI (opn H) := by rw [hz]; exact nI_sub (b := 0) (Nat.zero_le _)
    rw [z0, wLe_e, p1, wBd_e]
    exact ⟨g', rfl, p2, fun j j1 j2 j3 => (p3 j j1 j2 j3).trans ((st_ne (by omega)).trans (st_ne (by omega)))⟩
  have s2 : ∀ z : Int32, z = nI (opn H + 1) → fX11_unwinds_b62 (st g 0 0 0 31 (nI H.length)) (nI r) (nI c) z = fX11_unwinds_b67 (st g 0 0 0 31 (nI H.length)) (nI r) (nI c) (nI (opn H)) 0 := fun z hz => by
    unfold fX11_unwinds_b62 fX11_unwinds_b67
    rw [hz, show nI (opn H + 1) - 1 = nI (opn H) from nI_s1 _, show nI (opn H) - 0 = nI (opn H) from nI_sub (b := 0) (Nat.zero_le _)]
  unfold fX11_unwinds_B0
  rw [h5, if_neg (show ¬ nI (H.length + 1) ≤ 0 from nI_ge (a := 0) (by omega) (by omega)), show nI (H.length + 1) - 1 = nI H.length from nI_s1 _, wGi_ok (show H.length < 200 by omega) (by omega), nI_clamp (by omega), h8.1, k1, wBd_e, if_neg (nI_nlt hr (by omega)), wLe_e, st_eq, wGi_ok (show H.length < 200 by omega) (by omega), nI_clamp (by omega), st_ne (by omega), h8.1, wLe_e, st_ne (by omega), h6]
  by_cases c1 : c = 13
  · rw [if_pos (show nI c = 13 by rw [c1]; rfl), s2 _ (by subst c1; rfl)]
    exact s1 _ rfl
  · rw [if_neg (show ¬ nI c = 13 from nI_ne (b := 13) (by omega) (by omega) c1)]
    by_cases c2 : c = 19
    · rw [if_pos (show nI c = 19 by rw [c2]; rfl), s2 _ (by subst c2; rfl)]
      exact s1 _ rfl
    · rw [if_neg (show ¬ nI c = 19 from nI_ne (b := 19) (by omega) (by omega) c2)]
      refine s1 _ ?_
      show nI (opn H + if c = 0 ∨ c = 13 ∨ c = 19 then 1 else 0) = _
      rw [if_neg (by omega)]
      rfl
theorem r_stay {r : Nat} (h : RSt g0 T K tp a O H p g) (hh : ∀ c, c ∈ H → okh c) (hr : 1 ≤ r) (h7 : r ≤ 7) (ht : topR H < r) (hH : H.length < 160) : fX11_unwinds_B0 g (nI r) = some (.inr g) := by
  obtain ⟨h1, h2, h3, h4, h5, h6, h7', h8, h9, h10⟩ := h
  unfold fX11_unwinds_B0
  rw [h5]
  cases H with
  | nil => rw [if_pos (show nI ([] : List Nat).length ≤ 0 by decide), wEx_e]
  | cons c H =>
    obtain ⟨k1, k2⟩ := rank_ev (g := g) (hh c (List.mem_cons_self ..))
    have hl : (c :: H).length = H.length + 1 := rfl
    rw [hl] at hH ⊢
    rw [if_neg (show ¬ nI (H.length + 1) ≤ 0 from nI_ge (a := 0) (by omega) (by omega)), show nI (H.length + 1) - 1 = nI H.length from nI_s1 _, wGi_ok (show H.length < 200 by omega) (by omega), nI_clamp (by omega), h8.1, k1, wBd_e, if_pos (nI_lt (show rk c < r from ht) (by omega)), wEx_e]
/-- what is held above a rank goes to the text -/
theorem r_unwinds {r : Nat} {P : List Nat} (hT : T < 6) (hr : 1 ≤ r) (h7 : r ≤ 7) (hP : ∀ c, c ∈ P → 11 ≤ c ∧ c ≤ 19 ∧ r ≤ rk c) (hh : ∀ c, c ∈ H → okh c) (ht : topR H < r) :
    ∀ {O : List Nat} {g : Mm}, RSt g0 T K tp a O (P ++ H) (opn (P ++ H)) g → O.length + (P ++ H).length ≤ 160 → H.length < 160 →
    ∃ g', fX11_unwinds g (nI r) = some g' ∧ RSt g0 T K tp a (P.reverse ++ O) H (opn H) g' ∧ FK0 g g' := by
  have key : ∀ {O : List Nat} {g : Mm}, RSt g0 T K tp a O (P ++ H) (opn (P ++ H)) g → O.length + (P ++ H).length ≤ 160 → H.length < 160 → ∀ u, P.length < u →
    ∃ g', wLp (fun q => fX11_unwinds_B0 q (nI r)) u g = some g' ∧ RSt g0 T K tp a (P.reverse ++ O) H (opn H) g' ∧ FK0 g g' := by
    induction P with
    | nil =>
      intro O g h hl hH u hu
      obtain ⟨u, rfl⟩ : ∃ w, u = w + 1 := ⟨u - 1, by omega⟩
      refine ⟨g, ?_, h, fun j _ _ _ => rfl⟩
      have := r_stay h hh hr h7 ht hH
      exact wLp_out this
    | cons c P ih =>
      intro O g h hl hH u hu
      obtain ⟨u, rfl⟩ : ∃ w, u = w + 1 := ⟨u - 1, by omega⟩
      obtain ⟨c1, c2, c3⟩ := hP c (List.mem_cons_self ..)
      have ll : (c :: P ++ H).length = (P ++ H).length + 1 := rfl
      have lP : (c :: P).length = P.length + 1 := rfl
      obtain ⟨g1, q1, q2, q3⟩ := r_pop hT h ⟨c1, c2⟩ c3 (by omega) (show (P ++ H).length < 160 by omega)
      obtain ⟨g', p1, p2, p3⟩ := ih (fun c hc => hP c (List.mem_cons_of_mem _ hc)) q2 (by show O.length + 1 + (P ++ H).length ≤ 160; omega) hH u (by omega)
      refine ⟨g', ?_, ?_, fun j a1 a2 a3 => (p3 j a1 a2 a3).trans (q3 j a1 a2 a3)⟩
      · exact (wLp_in q1).trans p1
      · rw [List.reverse_cons, List.append_assoc]
        exact p2
  intro O g h hl hH
  have : (P ++ H).length = P.length + H.length := List.length_append ..
  exact key h hl hH 1000 (by omega)
end RD
