-- ===== a plan =====
/-- the first and the second of the first k bits -/
def fbit (m : Nat) : Nat → Option Nat
  | 0 => none
  | k + 1 => match fbit m k with
    | some p => some p
    | none => if m.testBit k = true then some k else none
def sbit (m : Nat) : Nat → Option Nat
  | 0 => none
  | k + 1 => if m.testBit k = true ∧ pcn m k = 1 then some k else sbit m k
def oI : Option Nat → Int32
  | some p => nI p
  | none => -1
theorem fbit_hi {m k j : Nat} (hm : m < 2 ^ k) : fbit m (k + j) = fbit m k := by
  induction j with
  | zero => rfl
  | succ j ih =>
    have t : m.testBit (k + j) = false := Nat.testBit_lt_two_pow (Nat.lt_of_lt_of_le hm (Nat.pow_le_pow_right (by omega) (by omega)))
    show (match fbit m (k + j) with
      | some p => some p
      | none => if m.testBit (k + j) = true then some (k + j) else none) = _
    rw [t, ih]
    cases fbit m k <;> rfl
theorem sbit_hi {m k j : Nat} (hm : m < 2 ^ k) : sbit m (k + j) = sbit m k := by
  induction j with
  | zero => rfl
  | succ j ih =>
    have t : m.testBit (k + j) = false := Nat.testBit_lt_two_pow (Nat.lt_of_lt_of_le hm (Nat.pow_le_pow_right (by omega) (by omega)))
    show (if m.testBit (k + j) = true ∧ pcn m (k + j) = 1 then some (k + j) else sbit m (k + j)) = _
    rw [t, if_neg (fun q => Bool.noConfusion q.1), ih]
def chkB (m : Nat) : Bool := match fbit m 12 with
  | some p => decide (p < 12) && m.testBit p && decide (2 ^ p ≤ m) && (nI m &&& (((1 : Int32) <<< (nI p &&& 31)) ^^^ (-1 : Int32)) == nI (m - 2 ^ p)) && (decide (2 < pcn m 12) || ((fbit (m - 2 ^ p) 12 == sbit m 12) && (match sbit m 12 with
    | some q => decide (q < 12) && decide (p < q) && (List.range 12).all (fun v => !m.testBit v || v == p || v == q)
    | none => (List.range 12).all (fun v => !m.testBit v || v == p))))
  | none => m == 0
set_option maxRecDepth 100000 in
theorem chk64 : ∀ a, a < 64 → ∀ b, b < 64 → chkB (64 * a + b) = true := by decide +kernel
theorem chk_all {m : Nat} (hm : m < 4096) : chkB m = true := by
  have := chk64 (m / 64) (by omega) (m % 64) (by omega)
  rwa [show 64 * (m / 64) + m % 64 = m by omega] at this
/-- one visit, or two -/
theorem bits_of {m nv : Nat} (hn : nv ≤ 12) (h1 : m < 2 ^ nv) (h0 : m ≠ 0) (h2 : pcn m nv ≤ 2) : ∃ p, fbit m nv = some p ∧ p < nv ∧ 2 ^ p ≤ m ∧ nI m &&& (((1 : Int32) <<< (nI p &&& 31)) ^^^ (-1 : Int32)) = nI (m - 2 ^ p) ∧ fbit (m - 2 ^ p) nv = sbit m nv ∧
    ((sbit m nv = none ∧ ∀ v, v < nv → m.testBit v = true → v = p) ∨ ∃ q, sbit m nv = some q ∧ p < q ∧ q < nv ∧ ∀ v, v < nv → m.testBit v = true → v = p ∨ v = q) := by
  have hm : m < 4096 := Nat.lt_of_lt_of_le h1 (pow12 hn)
  have c := chk_all hm
  have e : nv + (12 - nv) = 12 := by omega
  have f12 : fbit m 12 = fbit m nv := by
    have := fbit_hi (m := m) (k := nv) (j := 12 - nv) h1
    rwa [e] at this
  have s12 : sbit m 12 = sbit m nv := by
    have := sbit_hi (m := m) (k := nv) (j := 12 - nv) h1
    rwa [e] at this
  have p12 : pcn m 12 = pcn m nv := by
    have := pcn_hi (m := m) (k := nv) (j := 12 - nv) h1
    rwa [e] at this
  have lt : ∀ v, m.testBit v = true → v < nv := fun v hv => Decidable.byContradiction fun q => by
    have := Nat.testBit_lt_two_pow (x := m) (i := v) (Nat.lt_of_lt_of_le h1 (Nat.pow_le_pow_right (by omega) (by omega)))
    rw [this] at hv
    exact Bool.noConfusion hv
  unfold chkB at c
  rw [f12] at c
  cases hf : fbit m nv with
  | none =>
    rw [hf] at c
    exact (h0 (by simpa using c)).elim
  | some p =>
    rw [hf] at c
    simp only [Bool.and_eq_true, Bool.or_eq_true, decide_eq_true_eq, beq_iff_eq, p12] at c
    obtain ⟨⟨⟨⟨c1, c2⟩, c3⟩, c4⟩, c5⟩ := c
    have c5 := c5.resolve_left (by omega)
    obtain ⟨c6, c7⟩ := c5
    have f12' : fbit (m - 2 ^ p) 12 = fbit (m - 2 ^ p) nv := by
      have := fbit_hi (m := m - 2 ^ p) (k := nv) (j := 12 - nv) (Nat.lt_of_le_of_lt (Nat.sub_le _ _) h1)
      rwa [e] at this
    refine ⟨p, rfl, lt p c2, c3, c4, by rw [← f12', c6, s12], ?_⟩
    rw [s12] at c7
    cases hs : sbit m nv with
    | none =>
      rw [hs] at c7
      refine Or.inl ⟨rfl, fun v hv hb => ?_⟩
      have := List.all_eq_true.mp c7 v (List.mem_range.mpr (by omega))
      rw [hb] at this
      simpa using this
    | some q =>
      rw [hs] at c7
      simp only [Bool.and_eq_true, decide_eq_true_eq] at c7
      obtain ⟨⟨d1, d2⟩, d3⟩ := c7
      have key : ∀ v, v < nv → m.testBit v = true → v = p ∨ v = q := fun v hv hb => by
        have := List.all_eq_true.mp d3 v (List.mem_range.mpr (by omega))
        rw [hb] at this
        simpa using this
      refine Or.inr ⟨q, rfl, d2, ?_, key⟩
      -- the second is one of the set
      have : ∀ k, sbit m k = some q → m.testBit q = true := by
        intro k
        induction k with
        | zero => intro z; cases z
        | succ k ih =>
          intro z
          unfold sbit at z
          by_cases w : m.testBit k = true ∧ pcn m k = 1
          · rw [if_pos w] at z
            injection z with z
            rw [← z]; exact w.1
          · rw [if_neg w] at z
            exact ih z
      exact lt q (this nv hs)
/-- the component's lowest -/
theorem lowest_pr {gC gR : Mm} {nv nf ns m : Nat} (h : PS 0 gC gR nv nf ns) (hm : m < 4096) : fX10_lowest gC (nI m) = some (oI (fbit m nv)) := by
  have hv12 := h.nv12
  have e31 : (31 : Int32) = nI 31 := rfl
  have keep : ∀ k p, fbit m k = some p → ∀ j, fbit m (k + j) = some p := fun k p hk j => by
    induction j with
    | zero => exact hk
    | succ j ih =>
      show (match fbit m (k + j) with
        | some p => some p
        | none => if m.testBit (k + j) = true then some (k + j) else none) = _
      rw [ih]
  obtain ⟨z, p1, p2⟩ := wLp_one (f := fun q : Int32 => fX10_lowest_B2 gC (nI m) q) (fun z => z = oI (fbit m nv)) (fun k s => s = nI k ∧ fbit m k = none) nv
    (fun k s hk ⟨a1, a2⟩ => by
      subst a1
      have bt := bit12 m hm k (by omega)
      have fk : fbit m (k + 1) = if m.testBit k = true then some k else none := by
        show (match fbit m k with
          | some p => some p
          | none => if m.testBit k = true then some k else none) = _
        rw [a2]
      unfold fX10_lowest_B2
      rw [h.1.2.1, if_neg (nI_ge hk (by omega)), e31]
      by_cases c : m.testBit k = true
      · rw [if_pos c] at fk
        have := keep (k + 1) k fk (nv - (k + 1))
        rw [show k + 1 + (nv - (k + 1)) = nv by omega] at this
        rw [if_pos (show (nI m >>> (nI k &&& nI 31)) &&& (1 : Int32) = 1 from bt.mpr c), wEx_e]
        exact Or.inr ⟨_, rfl, by rw [this]; rfl⟩
      · rw [if_neg c] at fk
        rw [if_neg (show ¬ (nI m >>> (nI k &&& nI 31)) &&& (1 : Int32) = 1 from fun q => c (bt.mp q)), wLe_e, nI_1]
        exact Or.inl ⟨_, rfl, rfl, fk⟩)
    (fun s ⟨a1, a2⟩ => by
      subst a1
      unfold fX10_lowest_B2
      rw [h.1.2.1, if_pos (nI_le (Nat.le_refl _) (by omega)), wEx_e]
      exact ⟨_, rfl, by rw [a2]; rfl⟩)
    (k := 0) (Nat.zero_le _) (s := 0) ⟨rfl, rfl⟩ (u := 1000) (by omega)
  subst p2
  exact p1
/-- the late ticks of all: not below 0 -/
theorem lateAll_nn {i nv nf ns t : Nat} {g1 g2 : Mm} (h : PS i g1 g2 nv nf ns) (hc : CB i nv t g1) (ht : t ≤ 10000) : ∃ n : Nat, n < 2 ^ 31 ∧ fX4_lateInAll g1 i = some (nI n) ∧ fX11_lateOfAll g2 = some (nI n) := by
  have hv12 := h.nv12
  have one : ∀ v, v < nv → ∃ n : Nat, n ≤ 90000 ∧ fX9_lateTicks g1 i v = some (nI n) := fun v hv => by
    obtain ⟨r, p1, n, p2, p3⟩ := wLp_one (f := fun q : Int32 × Int32 => fX9_lateTicks_B4 g1 i v q.1 q.2) (fun r => ∃ n : Nat, n ≤ 90000 ∧ r = nI n) (fun k s => ∃ n : Nat, n ≤ 10000 * k ∧ s = (nI n, nI k)) 9
      (fun k s hk ⟨n, a1, a2⟩ => by
        subst a2
        left
        obtain ⟨m, m1, m2⟩ := hc v hv k hk
        dsimp only
        unfold fX9_lateTicks_B4
        rw [if_neg (show ¬ (9 : Int32) ≤ nI k from nI_ge (b := 9) hk (by omega)), wGi_ok (by omega) (by omega), nI_clamp (by omega), m2, nI_add, wLe_e, wLe_e, nI_1]
        exact ⟨_, rfl, n + m, by omega, rfl⟩)
      (fun s ⟨n, a1, a2⟩ => by
        subst a2
        exact ⟨_, rfl, n, by omega, rfl⟩)
      (k := 0) (Nat.zero_le _) (s := (0, 0)) ⟨0, by omega, rfl⟩ (u := 1000) (by omega)
    exact ⟨n, p2, by rw [← p3]; exact p1⟩
  obtain ⟨r, p1, n, p2, p3⟩ := wLp_one (f := fun q : Int32 × Int32 => fX4_lateInAll_B4 g1 i q.1 q.2) (fun r => ∃ n : Nat, n < 2 ^ 31 ∧ r = nI n) (fun k s => ∃ n : Nat, n ≤ 90000 * k ∧ s = (nI n, nI k)) nv
    (fun k s hk ⟨n, a1, a2⟩ => by
      subst a2
      left
      obtain ⟨m, m1, m2⟩ := one k hk
      dsimp only
      unfold fX4_lateInAll_B4
      rw [h.1.2.1, if_neg (nI_ge hk (by omega)), wGi_ok (by omega) (by omega), nI_clamp (by omega), m2, wBd_e, wLe_e, nI_add, wLe_e, nI_1]
      exact ⟨_, rfl, n + m, by omega, rfl⟩)
    (fun s ⟨n, a1, a2⟩ => by
      subst a2
      dsimp only
      unfold fX4_lateInAll_B4
      rw [h.1.2.1, if_pos (nI_le (Nat.le_refl _) (by omega)), wEx_e]
      exact ⟨_, rfl, n, by omega, rfl⟩)
    (k := 0) (Nat.zero_le _) (s := (0, 0)) ⟨0, by omega, rfl⟩ (u := 1000) (by omega)
  have q1 : fX4_lateInAll g1 i = some (nI n) := by rw [← p3]; exact p1
  obtain ⟨l, l1, l2⟩ := lateAll_pr h
  rw [q1] at l1
  injection l1 with l1
  exact ⟨n, p2, q1, by rw [l2, ← l1]⟩
-- ===== one row of wishes =====
/-- the component's port, and the reference's array, are as they were; what is kept aside may differ -/
def PB (gC gR g1 g2 : Mm) : Prop := (∀ t i' v j, ¬ (i' = 1 ∧ 9 ≤ t ∧ t ≤ 22) → t ≠ 8 → t ≠ 18 → t ≠ 23 → g1 t i' v j = gC t i' v j) ∧ FV gR g2 ∧ (∀ k, k < 510 → g2 1 0 0 k = gR 1 0 0 k) ∧ (∀ k, k < 510 → g2 22 0 0 k = gR 1 0 0 k)
theorem PB.ps {gC gR g1 g2 : Mm} {nv nf ns : Nat} (h : PS 0 gC gR nv nf ns) (k : PB gC gR g1 g2) : PS 0 g1 g2 nv nf ns := h.back (fun t v j q => k.1 t 0 v j (by omega) (by omega) (by omega) (by omega)) k.2.1 k.2.2.1
def WV (ns : Nat) (w : Int32) : Prop := w = -1 ∨ ∃ s : Nat, s < ns ∧ w = nI s
def beats (best r : Int32) : Prop := best = -1 ∨ ¬ best ≤ r
