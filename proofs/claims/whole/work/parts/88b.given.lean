-- ===== what is given of the static arrays and the strings, element by element =====
theorem sub_in {o n : Nat} {f : Nat → Cond} (h : (nvF.drop o).take n = (List.range n).map f) {j : Nat} (hj : j < n) : f j ∈ nvF := List.mem_of_mem_drop (List.mem_of_mem_take (by rw [h]; exact List.mem_map.mpr ⟨j, List.mem_range.mpr hj, rfl⟩))
def kb0 : List Int32 := 112 :: 114 :: 105 :: 111 :: 32 :: 105 :: 110 :: 32 :: 42 :: 32 :: 49 :: 48 :: 48 :: 32 :: 43 :: 32 :: 119 :: 97 :: 105 :: 116 :: 32 :: 59 :: 32 :: 115 :: 101 :: 112 :: 32 :: 50 :: 32 :: 43 :: 32 :: 102 :: 111 :: 103 :: 32 :: 42 :: 32 :: 52 :: 32 :: 59 :: 32 :: 104 :: 111 :: 108 :: 100 :: 32 :: 48 :: 32 :: 59 :: []
theorem kb_0 : kB.getD 0 [] = kb0 := by decide +kernel
theorem kl_0 : kL.getD 0 0 = 49 := by decide +kernel
def kb1 : List Int32 := 40 :: 41 :: 59 :: 43 :: 45 :: 42 :: 60 :: 61 :: []
theorem kb_1 : kB.getD 1 [] = kb1 := by decide +kernel
theorem kl_1 : kL.getD 1 0 = 8 := by decide +kernel
def kb2 : List Int32 := 112 :: 114 :: 105 :: 111 :: 32 :: 115 :: 101 :: 112 :: 32 :: 32 :: 104 :: 111 :: 108 :: 100 :: 32 :: 111 :: 114 :: 32 :: 32 :: 32 :: 97 :: 110 :: 100 :: 32 :: 32 :: 110 :: 111 :: 116 :: 32 :: 32 :: 105 :: 110 :: 32 :: 32 :: 32 :: 108 :: 97 :: 116 :: 101 :: 32 :: 107 :: 105 :: 110 :: 100 :: 32 :: 119 :: 97 :: 105 :: 116 :: 32 :: 112 :: 114 :: 101 :: 118 :: 32 :: 102 :: 111 :: 103 :: 32 :: 32 :: 98 :: 97 :: 103 :: 115 :: 32 :: 99 :: 114 :: 101 :: 119 :: 32 :: []
theorem kb_2 : kB.getD 2 [] = kb2 := by decide +kernel
theorem kl_2 : kL.getD 2 0 = 70 := by decide +kernel
theorem ks_0 : (nvF.drop 181).take 49 = (List.range 49).map (fun j => Cond.eq (.elem (.field (.string "WingPort$Texts" 25) "java/lang/String" "value" "[B") (.int (Int32.ofNat j))) (.int (kb0.getD j 0))) := by decide +kernel
theorem kn_0 : Cond.eq (.length (.field (.string "WingPort$Texts" 25) "java/lang/String" "value" "[B")) (.int (Int32.ofNat 49)) ∈ nvF := by decide +kernel
theorem ks_1 : (nvF.drop 309).take 8 = (List.range 8).map (fun j => Cond.eq (.elem (.field (.string "WingPort$Reader" 96) "java/lang/String" "value" "[B") (.int (Int32.ofNat j))) (.int (kb1.getD j 0))) := by decide +kernel
theorem kn_1 : Cond.eq (.length (.field (.string "WingPort$Reader" 96) "java/lang/String" "value" "[B")) (.int (Int32.ofNat 8)) ∈ nvF := by decide +kernel
theorem ks_2 : (nvF.drop 234).take 70 = (List.range 70).map (fun j => Cond.eq (.elem (.field (.string "WingPort$Reader" 108) "java/lang/String" "value" "[B") (.int (Int32.ofNat j))) (.int (kb2.getD j 0))) := by decide +kernel
theorem kn_2 : Cond.eq (.length (.field (.string "WingPort$Reader" 108) "java/lang/String" "value" "[B")) (.int (Int32.ofNat 70)) ∈ nvF := by decide +kernel
theorem st_0 : (nvF.drop 12).take 9 = (List.range 9).map (fun j => Cond.eq (.elem (.static "WingPort$Port" "LEAST_SET" "[I") (.int (Int32.ofNat j))) (.int (sV 0 j))) := by decide +kernel
theorem st_1 : (nvF.drop 24).take 9 = (List.range 9).map (fun j => Cond.eq (.elem (.static "WingPort$Port" "MOST_SET" "[I") (.int (Int32.ofNat j))) (.int (sV 1 j))) := by decide +kernel
theorem st_2 : (nvF.drop 127).take 6 = (List.range 6).map (fun j => Cond.eq (.elem (.static "WingPort$Planes" "ABOVE" "[I") (.int (Int32.ofNat j))) (.int (sV 2 j))) := by decide +kernel
theorem st_3 : (nvF.drop 36).take 6 = (List.range 6).map (fun j => Cond.eq (.elem (.static "WingPort$Planes" "SIZES" "[I") (.int (Int32.ofNat j))) (.int (sV 3 j))) := by decide +kernel
theorem st_4 : (nvF.drop 45).take 6 = (List.range 6).map (fun j => Cond.eq (.elem (.static "WingPort$Planes" "ROLLS" "[I") (.int (Int32.ofNat j))) (.int (sV 4 j))) := by decide +kernel
theorem st_5 : (nvF.drop 76).take 48 = (List.range 48).map (fun j => Cond.eq (.elem (.static "WingPort$Planes" "LASTS" "[I") (.int (Int32.ofNat j))) (.int (sV 5 j))) := by decide +kernel
theorem st_6 : (nvF.drop 65).take 8 = (List.range 8).map (fun j => Cond.eq (.elem (.static "WingPort$Planes" "BEHIND" "[I") (.int (Int32.ofNat j))) (.int (sV 6 j))) := by decide +kernel
theorem st_7 : (nvF.drop 54).take 8 = (List.range 8).map (fun j => Cond.eq (.elem (.static "WingPort$Planes" "TRUCK" "[I") (.int (Int32.ofNat j))) (.int (sV 7 j))) := by decide +kernel
theorem kS_s : ∀ i : Nat, i < 3 → kL.getD i 0 < 2 ^ 31 := fun i hi => by
  rcases (show i = 0 ∨ i = 1 ∨ i = 2 by omega) with rfl | rfl | rfl
  · rw [kl_0]; decide
  · rw [kl_1]; decide
  · rw [kl_2]; decide
theorem kS_n : ∀ i : Nat, i < 3 → Cond.eq (.length (.field (kT i) "java/lang/String" "value" "[B")) (.int (Int32.ofNat (kL.getD i 0))) ∈ nvF := fun i hi => by
  rcases (show i = 0 ∨ i = 1 ∨ i = 2 by omega) with rfl | rfl | rfl
  · rw [kl_0]; exact kn_0
  · rw [kl_1]; exact kn_1
  · rw [kl_2]; exact kn_2
theorem kS_e : ∀ i : Nat, i < 3 → ∀ j : Nat, j < kL.getD i 0 → Cond.eq (.elem (.field (kT i) "java/lang/String" "value" "[B") (.int (Int32.ofNat j))) (.int ((kB.getD i []).getD j 0)) ∈ nvF := fun i hi j hj => by
  rcases (show i = 0 ∨ i = 1 ∨ i = 2 by omega) with rfl | rfl | rfl
  · rw [kl_0] at hj; rw [kb_0]; exact sub_in ks_0 hj
  · rw [kl_1] at hj; rw [kb_1]; exact sub_in ks_1 hj
  · rw [kl_2] at hj; rw [kb_2]; exact sub_in ks_2 hj
theorem sT_e : ∀ (q : Nat) (r : String × String × List Int32), sT[q]? = some r → ∀ j : Nat, j < r.2.2.length → Cond.eq (.elem (.static r.1 r.2.1 "[I") (.int (Int32.ofNat j))) (.int (r.2.2.getD j 0)) ∈ nvF := fun q r hr j hj => by
  match q, hr with
  | 0, hr => cases hr; exact sub_in st_0 hj
  | 1, hr => cases hr; exact sub_in st_1 hj
  | 2, hr => cases hr; exact sub_in st_2 hj
  | 3, hr => cases hr; exact sub_in st_3 hj
  | 4, hr => cases hr; exact sub_in st_4 hj
  | 5, hr => cases hr; exact sub_in st_5 hj
  | 6, hr => cases hr; exact sub_in st_6 hj
  | 7, hr => cases hr; exact sub_in st_7 hj
  | q + 8, hr =>
    have h1 := (List.getElem?_eq_some_iff.mp hr).1
    have h2 : sT.length = 8 := rfl
    omega
