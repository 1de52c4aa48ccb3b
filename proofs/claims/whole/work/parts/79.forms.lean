-- ===== expressions: descent ~ signs held =====
theorem dep_app : ∀ (x y : List Nat) (d : Nat), dep (x ++ y) d = (dep x d).bind (dep y) := by
  intro x
  induction x with
  | nil => intro y d; rfl
  | cons c x ih =>
    intro y d
    show dep (c :: (x ++ y)) d = (dep (c :: x) d).bind (dep y)
    unfold dep
    by_cases c1 : c ≤ 7 ∨ 100000 ≤ c
    · rw [if_pos c1, if_pos c1]; exact ih ..
    · rw [if_neg c1, if_neg c1]
      by_cases c2 : c = 13 ∨ c = 19
      · rw [if_pos c2, if_pos c2]
        by_cases c3 : 1 ≤ d
        · rw [if_pos c3, if_pos c3]; exact ih ..
        · rw [if_neg c3, if_neg c3]; rfl
      · rw [if_neg c2, if_neg c2]
        by_cases c3 : 2 ≤ d
        · rw [if_pos c3, if_pos c3]; exact ih ..
        · rw [if_neg c3, if_neg c3]; rfl
def Wf (cs : List Nat) : Prop := (∀ c, c ∈ cs → okc c) ∧ ∀ d, dep cs.reverse d = some (d + 1)
theorem Wf.one {c : Nat} (h : c ≤ 7 ∨ (100000 ≤ c ∧ c ≤ 109999)) : Wf [c] := by
  refine ⟨fun x hx => ?_, fun d => ?_⟩
  · rw [List.mem_singleton] at hx; subst hx; unfold okc; omega
  · show dep [c] d = _
    unfold dep
    rw [if_pos (by omega)]
    rfl
theorem Wf.sign {c : Nat} {x : List Nat} (h : Wf x) (hc : c = 13 ∨ c = 19) : Wf (c :: x) := by
  refine ⟨fun y hy => ?_, fun d => ?_⟩
  · rcases List.mem_cons.mp hy with rfl | hy
    · unfold okc; omega
    · exact h.1 y hy
  · rw [List.reverse_cons, dep_app, h.2]
    show dep [c] (d + 1) = _
    unfold dep
    rw [if_neg (by omega), if_pos hc, if_pos (by omega)]
    rfl
theorem Wf.two {c : Nat} {x y : List Nat} (hx : Wf x) (hy : Wf y) (h : 11 ≤ c ∧ c ≤ 18 ∧ c ≠ 13) : Wf (c :: (y ++ x)) := by
  refine ⟨fun z hz => ?_, fun d => ?_⟩
  · rcases List.mem_cons.mp hz with rfl | hz
    · unfold okc; omega
    · rcases List.mem_append.mp hz with hz | hz
      · exact hy.1 z hz
      · exact hx.1 z hz
  · rw [List.reverse_cons, List.reverse_append, dep_app, dep_app, hx.2]
    show (dep y.reverse (d + 1)).bind (dep [c]) = _
    rw [hy.2]
    show dep [c] (d + 1 + 1) = _
    unfold dep
    rw [if_neg (by omega), if_neg (by omega), if_pos (by omega)]
    rfl
def eF : Mm × Int32 × Int32 → Option ((Mm × Int32 × Int32) ⊕ (Mm × Int32)) := fun q => fX11_eRead_B14 q.1 q.2.1 q.2.2
/-- both have read a form; a' is the place behind it -/
def OkA (gC0 gR0 : Mm) (T K : Nat) (tp : Nat → Nat) (low : Nat) (LA : Nat → List Nat → Prop) (Q : List Nat) (a : Nat) (C H : List Nat) (s : Mm × Int32 × Int32) (gC : Mm) (a' : Nat) : Prop :=
  ∃ gR k v b e n cs P O x2, CSt gC0 T K tp a' k v b e (cs ++ C) gC ∧ (∀ u, wLp eF (u + n) s = wLp eF u (gR, 0, x2)) ∧ RSt gR0 T K tp a' O (P ++ H) (opn (P ++ H)) gR ∧ P.reverse ++ O = Q.reverse ++ (cs ++ C) ∧ (∀ c, c ∈ P → 11 ≤ c ∧ c ≤ 19 ∧ low ≤ rk c) ∧ LA k P ∧ a + n ≤ a' ∧ O.length + (P ++ H).length ≤ a' ∧ Wf cs ∧ a < a'
/-- both refuse, at one place -/
def Ko (gC0 gR0 : Mm) (T : Nat) (a : Nat) (s : Mm × Int32 × Int32) (gC : Mm) : Prop :=
  ∃ gR n b, (gC 3 0 0 4 = nI b ∧ b ≤ 160) ∧ FC T gC0 gC ∧ (∀ u, wLp eF (u + n) s = some (gR, 0)) ∧ a + n ≤ 161 ∧ gR 0 0 0 26 = nI b ∧ FT T gR0 gR
def Ps (gC0 gR0 : Mm) (T K : Nat) (tp : Nat → Nat) (low : Nat) (LA : Nat → List Nat → Prop) (Q : List Nat) (a : Nat) (C H : List Nat) (s : Mm × Int32 × Int32) (r : Option (Mm × Int32)) : Prop :=
  (∃ gC a', r = some (gC, 1) ∧ OkA gC0 gR0 T K tp low LA Q a C H s gC a') ∨ ∃ gC, r = some (gC, 0) ∧ Ko gC0 gR0 T a s gC
def Sp (gC0 gR0 : Mm) (T K : Nat) (tp : Nat → Nat) (q top low : Nat) (LA : Nat → List Nat → Prop) (o n : Nat) : Prop :=
  ∀ (gC gR : Mm) (a k v b e : Nat) (C H Q : List Nat) (x2 : Int32), CSt gC0 T K tp a k v b e C gC → RSt gR0 T K tp a C (Q ++ H) (opn (Q ++ H)) gR → opn (Q ++ H) = o → (∀ c, c ∈ Q → c = 19) → (∀ c, c ∈ H → okh c) → topR H < top →
    C.length + (Q ++ H).length ≤ a → (q ≠ 6 → Q = []) → (2 < q → k = 6 → x2 = 0) → (q ≤ 2 → x2 = 1) → Ps gC0 gR0 T K tp low LA Q a C H (gR, 1, x2) (grR n q gC (nI o))
section FORM
variable {gC0 gR0 : Mm} {T K : Nat} {tp : Nat → Nat}
theorem steps_one {s s' : Mm × Int32 × Int32} (h : eF s = some (.inl s')) : ∀ u, wLp eF (u + 1) s = wLp eF u s' := fun _ => wLp_in h
theorem steps_tr {s s' s'' : Mm × Int32 × Int32} {n m : Nat} (h : ∀ u, wLp eF (u + n) s = wLp eF u s') (h' : ∀ u, wLp eF (u + m) s' = wLp eF u s'') : ∀ u, wLp eF (u + (m + n)) s = wLp eF u s'' := fun u => by
  rw [← Nat.add_assoc, h, h']
theorem Ko.pre {a0 a n : Nat} {s0 s : Mm × Int32 × Int32} {gC : Mm} (h : Ko gC0 gR0 T a s gC) (hs : ∀ u, wLp eF (u + n) s0 = wLp eF u s) (ha : a0 + n ≤ a) : Ko gC0 gR0 T a0 s0 gC := by
  obtain ⟨gR, m, b, h1, h2, h3, h4, h5, h6⟩ := h
  exact ⟨gR, m + n, b, h1, h2, fun u => by rw [← Nat.add_assoc, hs, h3], by omega, h5, h6⟩
theorem Ko.out {a b : Nat} {s : Mm × Int32 × Int32} {gC gR : Mm} (ha : a ≤ 160) (h : eF s = some (.inr (gR, 0))) (h1 : gC 3 0 0 4 = nI b ∧ b ≤ 160) (h2 : FC T gC0 gC) (h3 : gR 0 0 0 26 = nI b) (h4 : FT T gR0 gR) : Ko gC0 gR0 T a s gC :=
  ⟨gR, 1, b, h1, h2, fun _ => wLp_out h, by omega, h3, h4⟩
theorem CSt.fc {g : Mm} {a k v b e : Nat} {C : List Nat} (h : CSt gC0 T K tp a k v b e C g) : FC T gC0 g := h.2.2.2.2.2.2.2.2.2
theorem CSt.start {g : Mm} {a k v b e : Nat} {C : List Nat} (h : CSt gC0 T K tp a k v b e C g) : g 3 0 0 4 = nI b ∧ b ≤ 160 := ⟨h.2.2.2.2.2.1, Nat.le_trans (Nat.le_trans h.2.1.2.1 h.2.1.2.2.1) h.1.1⟩
theorem CSt.tok {g : Mm} {a k v b e : Nat} {C : List Nat} (h : CSt gC0 T K tp a k v b e C g) : Tok K tp a k v b e := h.2.1
theorem CSt.token {g : Mm} {a k v b e : Nat} {C : List Nat} (h : CSt gC0 T K tp a k v b e C g) : g 3 0 0 3 = tkC k := h.2.2.2.2.1
theorem CSt.rule {g : Mm} {a k v b e : Nat} {C : List Nat} (h : CSt gC0 T K tp a k v b e C g) : g 3 0 0 6 = nI (T + 1) := h.2.2.1
/-- a loop over the signs of one rank -/
theorem loop_pr {q topS lowS r o n : Nat} {LAs : Nat → List Nat → Prop} {op : Nat → Prop} [DecidablePred op] (hT : T < 6) (hS : Sp gC0 gR0 T K tp q topS lowS LAs o n) (B : Mm × Int32 → Option ((Mm × Int32) ⊕ (Mm × Int32)))
    (hop : ∀ k, op k → ((k = 4 ∧ r = 1) ∨ (k = 5 ∧ r = 2) ∨ (k = 43 ∧ r = 5) ∨ (k = 45 ∧ r = 5) ∨ (k = 42 ∧ r = 6)) ∧ (q ≤ 2 ↔ k ≤ 5)) (hlow : r ≤ lowS) (htop : r < topS) (hcl : ∀ k P c, LAs k P → LAs k (P ++ [c]))
    (hstop : ∀ g a k v b e C x, CSt gC0 T K tp a k v b e C g → ¬ op k → B (g, x) = some (.inr (g, 1)))
    (hgo : ∀ g g' gr y a k v b e C x, CSt gC0 T K tp a k v b e C g → op k → x < 160 → fX5_next g = some g' → grR n q g' (nI o) = some (gr, y) → (y = 0 → B (g, nI x) = some (.inr (gr, 0))) ∧ (y = 1 → gr 3 0 0 6 = nI (T + 1) → ∀ gp, fX6_put gr T (nI (cC (opc k))) = some gp → B (g, nI x) = some (.inl (gp, nI (x + 1)))))
    {a : Nat} {C H : List Nat} {s : Mm × Int32 × Int32} (hh : ∀ c, c ∈ H → okh c) (hH : topR H < r) (ho : opn H = o) :
    ∀ m a' gC x u, 161 ≤ a' + m → m ≤ u → x ≤ a' → OkA gC0 gR0 T K tp r LAs [] a C H s gC a' → Ps gC0 gR0 T K tp r (fun k P => LAs k P ∧ ¬ op k) [] a C H s (wLp B u (gC, nI x)) := by
  intro m
  induction m with
  | zero =>
    intro a' gC x u h1 h2 h3 h4
    obtain ⟨gR, k, v, b, e, n', cs, P, O, x2, k1, -⟩ := h4
    have := k1.tok
    have := k1.1.1
    obtain ⟨t1, t2, t3, -⟩ := k1.tok
    omega
  | succ m ih =>
    intro a' gC x u h1 h2 h3 h4
    obtain ⟨u, rfl⟩ : ∃ w, u = w + 1 := ⟨u - 1, by omega⟩
    obtain ⟨gR, k, v, b, e, n', cs, P, O, x2, k1, k2, k3, k4, k5, k6, k7, k8, k9, k10⟩ := h4
    have hK := k1.1.1
    by_cases c : op k
    · obtain ⟨c1, c2⟩ := hop k c
      obtain ⟨t1, t2, t3, t4, -⟩ := k1.tok
      have lt : b < e := t4 (by omega)
      obtain ⟨kn, vn, bn, en, gn, n1, n2⟩ := c_next k1
      obtain ⟨gs, s1, s2⟩ := e_sign (x2 := x2) hT k3 k1.tok (r := r) (by omega) k5 hh hH (by omega) k8
      have e0 : opn (opc k :: H) = o := by
        rw [← ho]
        apply opn_0
        unfold opc
        rcases c1 with ⟨rfl, _⟩ | ⟨rfl, _⟩ | ⟨rfl, _⟩ | ⟨rfl, _⟩ | ⟨rfl, _⟩ <;> decide
      have oc : 11 ≤ opc k ∧ opc k ≤ 18 ∧ opc k ≠ 13 ∧ rk (opc k) = r := by
        rcases c1 with ⟨rfl, rfl⟩ | ⟨rfl, rfl⟩ | ⟨rfl, rfl⟩ | ⟨rfl, rfl⟩ | ⟨rfl, rfl⟩ <;> decide
      rw [k4] at s2
      have lOP : (cs ++ C).length + H.length ≤ a' := by
        have q1 : (P.reverse ++ O).length = (cs ++ C).length := by rw [k4]; rfl
        rw [List.length_append, List.length_reverse] at q1
        have q2 : (P ++ H).length = P.length + H.length := List.length_append ..
        omega
      have sub := hS gn gs e kn vn bn en (cs ++ C) (opc k :: H) [] (if k ≤ 5 then 1 else 0) n2 s2 e0 (fun c hc => absurd hc List.not_mem_nil) (fun c hc => by
        rcases List.mem_cons.mp hc with rfl | hc
        · exact Or.inr (by omega)
        · exact hh c hc) (show rk (opc k) < topS by omega) (by show (cs ++ C).length + (H.length + 1) ≤ e; omega) (fun _ => rfl) (fun q1 _ => if_neg (by omega)) (fun q1 => if_pos (by omega))
      have st1 := steps_tr k2 (steps_one (s := (gR, 0, x2)) s1)
      rcases sub with ⟨gc, a2, p1, gR2, k', v', b', e', n2', cs2, P2, O2, x2', j1, j2, j3, j4, j5, j6, j7, j8, j9, j10⟩ | ⟨gc, p1, p2⟩
      · have lO2 : (cs2 ++ (cs ++ C)).length < 160 := by
          have q1 : (P2.reverse ++ O2).length = (cs2 ++ (cs ++ C)).length := by rw [j4]; rfl
          rw [List.length_append, List.length_reverse] at q1
          have q2 : (P2 ++ opc k :: H).length = P2.length + (H.length + 1) := List.length_append ..
          have q3 := j1.tok.1
          have q4 := j1.tok.2.1
          have q5 := j1.tok.2.2.1
          omega
        obtain ⟨gp, w1, w2⟩ := c_put (c := opc k) hT j1 lO2
        have bg := (hgo gC gn gc 1 a' k v b e (cs ++ C) x k1 c (by omega) n1 p1).2 rfl j1.rule gp w1
        rw [wLp_in bg]
        have q3 := j1.tok.1
        have q4 := j1.tok.2.1
        have q5 := j1.tok.2.2.1
        have eC : opc k :: (cs2 ++ cs) ++ C = opc k :: (cs2 ++ (cs ++ C)) := by rw [List.cons_append, List.append_assoc]
        have eH : P2 ++ [opc k] ++ H = P2 ++ opc k :: H := by rw [List.append_assoc]; rfl
        clear hgo hstop hS hop
        refine ih a2 gp (x + 1) u (by omega) (by omega) (by omega) ⟨gR2, k', v', b', e', n2' + (1 + n'), opc k :: (cs2 ++ cs), P2 ++ [opc k], O2, x2', by rw [eC]; exact w2, steps_tr st1 j2, by rw [eH]; exact j3, ?_, fun d hd => ?_, hcl _ _ _ j6, by omega, by rw [eH]; exact j8, k9.two j9 ⟨oc.1, oc.2.1, oc.2.2.1⟩, by omega⟩
        · rw [List.reverse_append]
          show opc k :: (P2.reverse ++ O2) = opc k :: (cs2 ++ cs) ++ C
          rw [j4, eC]
          rfl
        · rcases List.mem_append.mp hd with hd | hd
          · have := j5 d hd
            exact ⟨this.1, this.2.1, Nat.le_trans hlow this.2.2⟩
          · rw [List.mem_singleton] at hd
            subst hd
            exact ⟨oc.1, by omega, by omega⟩
      · have bg := (hgo gC gn gc 0 a' k v b e (cs ++ C) x k1 c (by omega) n1 p1).1 rfl
        rw [wLp_out bg]
        exact Or.inr ⟨gc, rfl, p2.pre st1 (by omega)⟩
    · rw [wLp_out (hstop gC a' k v b e (cs ++ C) (nI x) k1 c)]
      exact Or.inl ⟨gC, a', rfl, gR, k, v, b, e, n', cs, P, O, x2, k1, k2, k3, k4, k5, ⟨k6, c⟩, k7, k8, k9, k10⟩
end FORM
