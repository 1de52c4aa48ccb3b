-- ===== the reference's cells, as they stay =====
def rsl : List Nat := [0, 5, 6, 7, 9, 10, 14, 15, 16, 17, 18, 19, 20, 21, 22, 23, 24, 29, 30, 34, 35, 36]
def ckR (g : Mm) : Bool := rg 22 (fun i => g 0 0 0 (rsl.getD i 0) == nI (i + 2))
set_option maxRecDepth 100000 in
theorem s_9 : chI (fX11_init 1 (nw g_0 0) 0) 23 ckR = true := by decide +kernel
theorem rD_e {k : En} {x : Int32} {n : Nat} (h : x = nI (n + 1)) (hn : n + 1 < 2 ^ 31) : rD k x = .ref (k.1 + n) := by
  subst h
  unfold rD
  rw [nI_clamp hn, if_neg (by omega)]
  rfl
theorem cv_R {k : En} {g : Mm} {H : Heap} (h : Wd DR (fun c => c < 23) k g H) (hk : ckR g = true) : Wd YR (fun _ => True) k g H := by
  intro t i v _ hi hv
  have r : ∀ i, i < 22 → g 0 0 0 (rsl.getD i 0) = nI (i + 2) := fun i hi => beq_iff_eq.mp (rg_e hk i hi)
  have h0 : ∀ c, c < 23 → va_at k.2.1 classes (k.1 + c, edR k (kdR c) (g c 0 0)) H := fun c hc => h c 0 0 hc (yk1 hc) (yk2 hc)
  have one : ∀ c, (bdR c).1 ≤ 1 ∧ (bdR c).2 ≤ 1 := fun c => by
    unfold bdR
    split <;> exact ⟨by decide, by decide⟩
  have hi : i < (bdR t).1 := hi
  have hv : v < (bdR t).2 := hv
  have i0 : i = 0 := by have := (one t).1; omega
  have v0 : v = 0 := by have := (one t).2; omega
  subst i0 v0
  match t, hi with
  | 0, _ =>
    have key := h0 0 (by omega)
    have e : edR k (kdR 0) (g 0 0 0) = enR k 0 0 0 (g 0 0 0) := by
      show edR k 0 (g 0 0 0) = enR k 0 0 0 (g 0 0 0)
      unfold edR enR
      dsimp only
      rw [rD_e (k := k) (x := g 0 0 0 0) (n := 1) (r 0 (by omega)) (by omega), rD_e (k := k) (x := g 0 0 0 5) (n := 2) (r 1 (by omega)) (by omega), rD_e (k := k) (x := g 0 0 0 6) (n := 3) (r 2 (by omega)) (by omega), rD_e (k := k) (x := g 0 0 0 7) (n := 4) (r 3 (by omega)) (by omega), rD_e (k := k) (x := g 0 0 0 9) (n := 5) (r 4 (by omega)) (by omega), rD_e (k := k) (x := g 0 0 0 10) (n := 6) (r 5 (by omega)) (by omega), rD_e (k := k) (x := g 0 0 0 14) (n := 7) (r 6 (by omega)) (by omega), rD_e (k := k) (x := g 0 0 0 15) (n := 8) (r 7 (by omega)) (by omega), rD_e (k := k) (x := g 0 0 0 16) (n := 9) (r 8 (by omega)) (by omega), rD_e (k := k) (x := g 0 0 0 17) (n := 10) (r 9 (by omega)) (by omega), rD_e (k := k) (x := g 0 0 0 18) (n := 11) (r 10 (by omega)) (by omega), rD_e (k := k) (x := g 0 0 0 19) (n := 12) (r 11 (by omega)) (by omega), rD_e (k := k) (x := g 0 0 0 20) (n := 13) (r 12 (by omega)) (by omega), rD_e (k := k) (x := g 0 0 0 21) (n := 14) (r 13 (by omega)) (by omega), rD_e (k := k) (x := g 0 0 0 22) (n := 15) (r 14 (by omega)) (by omega), rD_e (k := k) (x := g 0 0 0 23) (n := 16) (r 15 (by omega)) (by omega), rD_e (k := k) (x := g 0 0 0 24) (n := 17) (r 16 (by omega)) (by omega), rD_e (k := k) (x := g 0 0 0 29) (n := 18) (r 17 (by omega)) (by omega), rD_e (k := k) (x := g 0 0 0 30) (n := 19) (r 18 (by omega)) (by omega), rD_e (k := k) (x := g 0 0 0 34) (n := 20) (r 19 (by omega)) (by omega), rD_e (k := k) (x := g 0 0 0 35) (n := 21) (r 20 (by omega)) (by omega), rD_e (k := k) (x := g 0 0 0 36) (n := 22) (r 21 (by omega)) (by omega)]
      rfl
    rw [e] at key
    exact key
  | 1, _ => exact h0 1 (by omega)
  | 2, _ => exact h0 2 (by omega)
  | 3, _ => exact h0 3 (by omega)
  | 4, _ => exact h0 4 (by omega)
  | 5, _ => exact h0 5 (by omega)
  | 6, _ => exact h0 6 (by omega)
  | 7, _ => exact h0 7 (by omega)
  | 8, _ => exact h0 8 (by omega)
  | 9, _ => exact h0 9 (by omega)
  | 10, _ => exact h0 10 (by omega)
  | 11, _ => exact h0 11 (by omega)
  | 12, _ => exact h0 12 (by omega)
  | 13, _ => exact h0 13 (by omega)
  | 14, _ => exact h0 14 (by omega)
  | 15, _ => exact h0 15 (by omega)
  | 16, _ => exact h0 16 (by omega)
  | 17, _ => exact h0 17 (by omega)
  | 18, _ => exact h0 18 (by omega)
  | 19, _ => exact h0 19 (by omega)
  | 20, _ => exact h0 20 (by omega)
  | 21, _ => exact h0 21 (by omega)
  | 22, _ => exact h0 22 (by omega)
  | t + 23, hi => exact absurd hi (Nat.not_lt_zero 0)
