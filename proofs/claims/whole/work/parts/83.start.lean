-- ===== how both objects begin =====
/-- the first text's parts -/
def P0 : Nat → List Nat := fun q => if q = 0 then [0, 100100, 18, 3, 16] else if q = 1 then [100002, 5, 100004, 18, 16] else if q = 2 then [100000] else []
def rg (n : Nat) (f : Nat → Bool) : Bool := (List.range n).all f
theorem rg_e {n : Nat} {f : Nat → Bool} (h : rg n f = true) : ∀ j, j < n → f j = true := fun j hj => List.all_eq_true.mp h j (List.mem_range.mpr hj)
/-- the reference's memory beside its p -/
def ck1 (gC gR : Mm) : Bool := gC 9 0 0 1 == 0 && gC 9 0 0 2 == 0 && gC 9 0 0 3 == 0 && gR 0 0 0 1 == 0 && gR 0 0 0 2 == 0 && gR 0 0 0 3 == 0 && gC 9 0 0 0 == 0 && gR 1 0 0 480 == 0 && gR 1 0 0 484 == gC 10 0 0 8
def ck2 (gC gR : Mm) : Bool := rg 5 (fun j => gC 10 0 0 j == gR 1 0 0 (470 + j)) && rg 4 (fun j => gC 10 0 0 (5 + j) == gR 1 0 0 (481 + j)) && rg 5 (fun j => gC 11 0 0 j == gR 1 0 0 (475 + j)) && rg 2 (fun j => gC 14 0 0 j == gR 1 0 0 (460 + j)) && rg 2 (fun j => gC 15 0 0 j == gR 1 0 0 (462 + j)) && rg 2 (fun j => gR 1 0 0 (462 + j) == -1) && rg 6 (fun j => gR 1 0 0 (496 + j) == -1) && (gR 1 0 0 484 == 1 || gR 1 0 0 484 == 2)
def ck3 (gC gR : Mm) : Bool := rg 12 (fun v => gC 19 0 v 4 == 0 && gC 19 0 v 9 == 0 && gC 19 0 v 10 == 0 && rg 9 (fun c => gC 21 0 v c == 0)) && rg 16 (fun f => gC 22 0 f 4 == 0)
def ck4 (gC gR : Mm) : Bool := gC 1 0 0 1 == 1 && gR 0 0 0 12 == 1 && gC 1 0 0 2 == 0 && gR 0 0 0 13 == 0 && gC 9 0 0 4 == 1 && gC 1 0 0 0 == 0 && gR 0 0 0 11 == 0 && gC 24 0 0 0 == 0 && gR 0 0 0 4 == 0 && gC 23 0 0 0 == 0 && gR 0 0 0 8 == 0
def ck5 (gC gR : Mm) : Bool := rg 3 (fun q => gC 7 0 0 q == nI (pof P0 (q + 1))) && rg 4 (fun q => gR 8 0 0 q == nI (pof P0 q)) && rg 11 (fun i => gC 6 0 0 i == nI (cC ((flat P0 3).getD i 0)) && gR 7 0 0 i == nI ((flat P0 3).getD i 0))
def ck6 (gC gR : Mm) : Bool := rg 4 (fun s => gC 29 s 0 0 == gR 10 0 0 s && gC 29 s 0 1 == 0 && gR 11 0 0 s == 0 && rg 40 (fun j => gC 30 s 0 j == gR 12 0 0 (40 * s + j)))
def ck7 (gR : Mm) : Bool := rg 14 (fun k => gR 18 0 0 k == nI (kW.getD k 0)) && rg 48 (fun j => gR 13 0 0 j == sV 5 j) && rg 6 (fun j => gR 14 0 0 j == sV 3 j) && rg 6 (fun j => gR 15 0 0 j == sV 4 j) && rg 8 (fun j => gR 16 0 0 j == sV 7 j) && rg 8 (fun j => gR 17 0 0 j == sV 6 j)
def two0 (f : Mm → Mm → Bool) : Bool := match fX10_init 1 (nw g_0 0) 0, fX11_init 1 (nw g_0 0) 0 with
  | some r, some r' => r.1 == 167 && r'.1 == 23 && f (toS r.2) r'.2
  | _, _ => false
set_option maxRecDepth 100000 in
theorem s_1 : two0 ck1 = true := by decide +kernel
set_option maxRecDepth 100000 in
theorem s_2 : two0 ck2 = true := by decide +kernel
set_option maxRecDepth 100000 in
theorem s_3 : two0 ck3 = true := by decide +kernel
set_option maxRecDepth 100000 in
theorem s_4 : two0 ck4 = true := by decide +kernel
set_option maxRecDepth 100000 in
theorem s_5 : two0 ck5 = true := by decide +kernel
set_option maxRecDepth 100000 in
theorem s_6 : two0 ck6 = true := by decide +kernel
set_option maxRecDepth 100000 in
theorem s_7 : two0 (fun _ gR => ck7 gR) = true := by decide +kernel
set_option maxRecDepth 100000 in
theorem s_8 : chI (fX10_init 1 (nw g_0 0) 0) 167 ckA = true := by decide +kernel
