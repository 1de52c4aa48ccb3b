-- ===== the law's frame from its entry =====
abbrev nvF : List Cond := flatC (Jvm.Cond.and given_1 narrow_1)
theorem nv_in {b : Nat} {s : State} (hgv : (Jvm.Cond.and given_1 narrow_1).before #[Value.ref b] s = true) {w : Cond} (h : w ∈ nvF) : w.before #[Value.ref b] s = true := flat_of_before _ hgv w h
theorem ao_in : ∀ C ∈ aoL, Cond.arrayOver (.object C) ∈ lw_tbl := by decide +kernel
theorem sT_l : ∀ r ∈ sT, Cond.laysStatic r.1 r.2.1 "[I" ∈ lw_tbl := by decide +kernel
theorem sT_i : ∀ r ∈ sT, Cond.initialized r.1 ∈ lw_tbl := by decide +kernel
theorem sT_a : ∀ r ∈ sT, Cond.arrayOf (.static r.1 r.2.1 "[I") .int ∈ nvF := by decide +kernel
theorem sT_n : ∀ r ∈ sT, Cond.eq (.length (.static r.1 r.2.1 "[I")) (.int (Int32.ofNat r.2.2.length)) ∈ nvF := by decide +kernel
theorem sT_s : ∀ r ∈ sT, r.2.2.length < 2 ^ 31 := by decide +kernel
def kT (i : Nat) : Term := match kS[i]? with
  | some r => .string r.1 r.2.1
  | none => .arg 0
theorem kS_x : ∀ i : Nat, i < 3 → Cond.exactly (kT i) "java/lang/String" ∈ nvF := by decide +kernel
theorem kS_c : ∀ i : Nat, i < 3 → Cond.eq (.field (kT i) "java/lang/String" "coder" "B") (.int 0) ∈ nvF := by decide +kernel
theorem kS_a : ∀ i : Nat, i < 3 → Cond.arrayOf (.field (kT i) "java/lang/String" "value" "[B") .byte ∈ nvF := by decide +kernel
theorem kS_d : ∀ i : Nat, i < 3 → ∀ j : Nat, j < 3 → i ≠ j → (Cond.not (Cond.eq (kT i) (kT j)) ∈ nvF ∨ Cond.not (Cond.eq (kT j) (kT i)) ∈ nvF) := by decide +kernel
theorem kS_r : ∀ r ∈ kS, Cond.stringRef r.1 r.2.1 r.2.2 ∈ lw_tbl := by decide +kernel
