-- ===== a rule's text: what it comes to, in both =====
theorem nI_sub {a b : Nat} (h : b ≤ a) : nI a - nI b = nI (a - b) := by
  obtain ⟨k, rfl⟩ : ∃ k, a = k + b := ⟨a - b, by omega⟩
  rw [← nI_add, Int32.add_sub_cancel, show k + b - b = k by omega]
theorem nI_subI {a b : Nat} (ha : a < 2 ^ 31) (hb : b < 2 ^ 31) : (nI a - nI b).toInt = (a : Int) - b := by
  rw [Int32.toInt_sub, nI_toInt ha, nI_toInt hb]
  exact Int.bmod_eq_of_le (by omega) (by omega)
theorem nI_p1 (k : Nat) : nI (k + 1) + -nI 1 = nI k := by
  rw [← Int32.sub_eq_add_neg]
  exact nI_sub (by omega)
theorem nI_s1 (k : Nat) : nI (k + 1) - nI 1 = nI k := nI_sub (by omega)
def cC (c : Nat) : Nat := if c ≤ 7 then 10000 + c else if c ≤ 19 then 9997 + c else c - 100000
def okc (c : Nat) : Prop := c ≤ 7 ∨ (11 ≤ c ∧ c ≤ 19) ∨ (100000 ≤ c ∧ c ≤ 109999)
def dep : List Nat → Nat → Option Nat
  | [], d => some d
  | c :: cs, d => if c ≤ 7 ∨ 100000 ≤ c then dep cs (d + 1) else if c = 13 ∨ c = 19 then (if 1 ≤ d then dep cs d else none) else if 2 ≤ d then dep cs (d - 1) else none
def pof (P : Nat → List Nat) : Nat → Nat
  | 0 => 0
  | q + 1 => pof P q + (P q).length
def RT (gC gR : Mm) (t : Nat) : Prop := ∃ P : Nat → List Nat, pof P 3 ≤ 160 ∧ (∀ q, q < 3 → (∀ c, c ∈ P q → okc c) ∧ dep (P q) 0 = some 1) ∧ (∀ q, q < 3 → gC 7 t 0 q = nI (pof P (q + 1))) ∧ (∀ q, q ≤ 3 → gR 8 0 0 (4 * t + q) = nI (pof P q)) ∧
  (∀ q, q < 3 → ∀ (k : Nat) (hk : k < (P q).length), gC 6 t 0 (pof P q + k) = nI (cC (P q)[k]) ∧ gR 7 0 0 (200 * t + (pof P q + k)) = nI (P q)[k])
theorem stk_set {g1 g2 : Mm} {t k d d' : Nat} {x : Int32} (hs : ∀ m, m < d → g1 8 t 0 m = g2 20 0 0 m) (hd : d' ≤ d ∨ (d' = d + 1 ∧ k = d)) : ∀ m, m < d' → st g1 8 t 0 k x 8 t 0 m = st g2 20 0 0 k x 20 0 0 m := by
  intro m hm
  by_cases e : m = k
  · subst e; rw [st_eq, st_eq]
  · rw [st_ne (by omega), st_ne (by omega)]
    exact hs m (by omega)
theorem two_eq {g g' : Mm} {a b : Int32} {c : Nat} (h : c = 11 ∨ c = 12 ∨ c = 14 ∨ c = 15 ∨ c = 16 ∨ c = 17 ∨ c = 18) : fX6_joined g (nI (9997 + c)) a b = fX11_two g' (nI c) a b := by
  rcases h with rfl | rfl | rfl | rfl | rfl | rfl | rfl <;> rfl
theorem two_some {g' : Mm} {a b c : Int32} : ∃ r, fX11_two g' c a b = some r := by
  unfold fX11_two
  repeat' split
  all_goals exact ⟨_, rfl⟩
def SayG (i t q v j d e b : Nat) (g1 g2 : Mm) (cs : List Nat) (pv : Int32) : Prop := ∃ d' g1' g2', fX6_says_B28 g1 t (nI q) i (nI d) (nI e) (nI (b + j)) = some (.inl (g1', nI d', nI (b + j + 1))) ∧ fX11_worth_B18 g2 (nI q) (nI v) pv (nI d) (nI (b + j)) = some (.inl (g2', nI d', nI (b + j + 1))) ∧
      dep cs d' = some 1 ∧ d' ≤ j + 1 ∧ (∀ m, m < d' → g1' 8 t 0 m = g2' 20 0 0 m) ∧ (∀ t', t' ≠ 8 → g1' t' = g1 t') ∧ (∀ t', t' ≠ 20 → g2' t' = g2 t')
/-- one code, as the reference does it -/
def worthT (g : Mm) (a1 a2 a3 x4 x5 y12 : Int32) : Option ((Mm × Int32 × Int32) ⊕ (Mm × Int32)) :=
  if (100000 : Int32) ≤ y12 then (fX11_worth_b70 g a1 a2 a3 x4 x5 y12) else (if (7 : Int32) < y12 then (if y12 = (13 : Int32) then (wGi (x4 - (1 : Int32)) 200 (if (g 20 0 0 (x4 - (1 : Int32)).toNatClampNeg) = 0 then (fX11_worth_b138 g a1 a2 a3 x4 x5 (x4 - (1 : Int32)) (1 : Int32)) else (fX11_worth_b138 g a1 a2 a3 x4 x5 (x4 - (1 : Int32)) (0 : Int32)))) else (if y12 = (19 : Int32) then (wGi (x4 - (1 : Int32)) 200 (wGi (x4 - (1 : Int32)) 200 (wLe (st g 20 0 0 (x4 - (1 : Int32)).toNatClampNeg (-(g 20 0 0 (x4 - (1 : Int32)).toNatClampNeg))) fun g39 => fX11_worth_b204 g39 a1 a2 a3 x4 x5))) else (wLe (x4 + (-1)) fun y28 => wGi (y28 - (1 : Int32)) 200 (wGi y28 200 (wBd (fX11_two g y12 (g 20 0 0 (y28 - (1 : Int32)).toNatClampNeg) (g 20 0 0 (y28).toNatClampNeg)) fun y33 => wGi (y28 - (1 : Int32)) 200 (wLe (st g 20 0 0 (y28 - (1 : Int32)).toNatClampNeg y33) fun g35 => fX11_worth_b204 g35 a1 a2 a3 y28 x5)))))) else (fX11_worth_b70 g a1 a2 a3 x4 x5 y12))
section SAY
variable {i t q v j d b e c : Nat} {g1 g2 : Mm} {cs : List Nat} {pv : Int32}
theorem wt_i4 {β : Type} (ht : t < 6) (hq : q < 3) (f : Option β) : wGi ((((4 : Int32) * nI t) + (nI q)) + (1 : Int32)) 24 f = f := by
  have i4 : 4 * t + q + 1 < 24 := by omega
  simp (disch := omega) only [li_0, li_1, li_2, li_3, li_4, li_5, li_6, li_7, li_8, li_9, li_10, li_11, li_12, li_13, li_14, li_15, li_16, li_17, li_18, li_19, li_30, li_32, li_40, li_41, li_42, li_43, li_45, li_48, li_57, li_59, li_60, li_61, li_63, li_97, li_99, li_122, li_160, li_200, li_255, li_256, li_257, li_258, li_259, li_360, li_460, li_462, li_470, li_475, li_480, li_481, li_482, li_483, li_484, li_490, li_496, li_510, li_999, wGi_ok, wGb_0, wGb_1, wLe_e, wBd_e, wB2_e, wEx_e, nI_mul, nI_add, nI_clamp, nI_leI, nI_ltI, nI_eq, nI_m1]
theorem wt_n4 (ht : t < 6) (hq : q < 3) : ((((4 : Int32) * nI t) + (nI q)) + (1 : Int32)).toNatClampNeg = 4 * t + q + 1 := by
  simp (disch := omega) only [li_0, li_1, li_2, li_3, li_4, li_5, li_6, li_7, li_8, li_9, li_10, li_11, li_12, li_13, li_14, li_15, li_16, li_17, li_18, li_19, li_30, li_32, li_40, li_41, li_42, li_43, li_45, li_48, li_57, li_59, li_60, li_61, li_63, li_97, li_99, li_122, li_160, li_200, li_255, li_256, li_257, li_258, li_259, li_360, li_460, li_462, li_470, li_475, li_480, li_481, li_482, li_483, li_484, li_490, li_496, li_510, li_999, wGi_ok, wGb_0, wGb_1, wLe_e, wBd_e, wB2_e, wEx_e, nI_mul, nI_add, nI_clamp, nI_leI, nI_ltI, nI_eq, nI_m1]
theorem wt_i200 {β : Type} {k : Nat} (ht : t < 6) (hk : k < 160) (f : Option β) : wGi (((200 : Int32) * nI t) + (nI k)) 1200 f = f := by
  have i200 : 200 * t + k < 1200 := by omega
  simp (disch := omega) only [li_0, li_1, li_2, li_3, li_4, li_5, li_6, li_7, li_8, li_9, li_10, li_11, li_12, li_13, li_14, li_15, li_16, li_17, li_18, li_19, li_30, li_32, li_40, li_41, li_42, li_43, li_45, li_48, li_57, li_59, li_60, li_61, li_63, li_97, li_99, li_122, li_160, li_200, li_255, li_256, li_257, li_258, li_259, li_360, li_460, li_462, li_470, li_475, li_480, li_481, li_482, li_483, li_484, li_490, li_496, li_510, li_999, wGi_ok, wGb_0, wGb_1, wLe_e, wBd_e, wB2_e, wEx_e, nI_mul, nI_add, nI_clamp, nI_leI, nI_ltI, nI_eq, nI_m1]
theorem wt_n200 {k : Nat} (ht : t < 6) (hk : k < 160) : (((200 : Int32) * nI t) + (nI k)).toNatClampNeg = 200 * t + k := by
  simp (disch := omega) only [li_0, li_1, li_2, li_3, li_4, li_5, li_6, li_7, li_8, li_9, li_10, li_11, li_12, li_13, li_14, li_15, li_16, li_17, li_18, li_19, li_30, li_32, li_40, li_41, li_42, li_43, li_45, li_48, li_57, li_59, li_60, li_61, li_63, li_97, li_99, li_122, li_160, li_200, li_255, li_256, li_257, li_258, li_259, li_360, li_460, li_462, li_470, li_475, li_480, li_481, li_482, li_483, li_484, li_490, li_496, li_510, li_999, wGi_ok, wGb_0, wGb_1, wLe_e, wBd_e, wB2_e, wEx_e, nI_mul, nI_add, nI_clamp, nI_leI, nI_ltI, nI_eq, nI_m1]
theorem worth_head (ht : t < 6) (hq : q < 3) (hj : b + j < e) (he : e ≤ 160) (h13 : g2 0 0 0 13 = nI t) (h8 : g2 8 0 0 (4 * t + q + 1) = nI e) (hc2 : g2 7 0 0 (200 * t + (b + j)) = nI c) :
    fX11_worth_B18 g2 (nI q) (nI v) pv (nI d) (nI (b + j)) = worthT g2 (nI q) (nI v) pv (nI d) (nI (b + j)) (nI c) := by
  unfold fX11_worth_B18
  rw [h13, wt_i4 ht hq, wt_n4 ht hq, h8, if_neg (nI_ge hj (by omega)), wt_i200 ht (by omega), wt_n200 ht (by omega), hc2, wLe_e]
  rfl
theorem wt_99 {x : Int32} (hd : d < 160) (hbj : b + j < 160) : fX11_worth_b99 g2 (nI q) (nI v) pv (nI d) (nI (b + j)) (nI d) x = some (.inl (st g2 20 0 0 d x, nI (d + 1), nI (b + j + 1))) := by
  unfold fX11_worth_b99 fX11_worth_b204
  simp (disch := omega) only [li_0, li_1, li_2, li_3, li_4, li_5, li_6, li_7, li_8, li_9, li_10, li_11, li_12, li_13, li_14, li_15, li_16, li_17, li_18, li_19, li_30, li_32, li_40, li_41, li_42, li_43, li_45, li_48, li_57, li_59, li_60, li_61, li_63, li_97, li_99, li_122, li_160, li_200, li_255, li_256, li_257, li_258, li_259, li_360, li_460, li_462, li_470, li_475, li_480, li_481, li_482, li_483, li_484, li_490, li_496, li_510, li_999, wGi_ok, wGb_0, wGb_1, wLe_e, wBd_e, wB2_e, wEx_e, nI_mul, nI_add, nI_clamp, nI_leI, nI_ltI, nI_eq, nI_m1]
theorem wt_name {x : Int32} (hc : c ≤ 7) (hd : d < 160) (hbj : b + j < 160) (hN : fX11_named g2 (nI c) (nI v) pv = some x) : worthT g2 (nI q) (nI v) pv (nI d) (nI (b + j)) (nI c) = some (.inl (st g2 20 0 0 d x, nI (d + 1), nI (b + j + 1))) := by
  unfold worthT fX11_worth_b70
  rw [if_neg (show ¬ (100000 : Int32) ≤ nI (c) from nI_ge (a := c) (b := 100000) (by omega) (by omega)), if_neg (show ¬ (7 : Int32) < nI (c) from nI_nlt (a := 7) (b := c) (by omega) (by omega)), hN, wBd_e, if_neg (show ¬ (7 : Int32) < nI (c) from nI_nlt (a := 7) (b := c) (by omega) (by omega))]
  exact wt_99 hd hbj
theorem wt_num {y : Nat} (hy : c = 100000 + y) (hy' : y ≤ 9999) (hd : d < 160) (hbj : b + j < 160) : worthT g2 (nI q) (nI v) pv (nI d) (nI (b + j)) (nI c) = some (.inl (st g2 20 0 0 d (nI y), nI (d + 1), nI (b + j + 1))) := by
  have e1 : nI c - (100000 : Int32) = nI y := by
    have : nI c - nI 100000 = nI (c - 100000) := nI_sub (by omega)
    rw [show c - 100000 = y by omega] at this
    exact this
  unfold worthT fX11_worth_b70
  rw [if_pos (show (100000 : Int32) ≤ nI (c) from nI_le (a := 100000) (b := c) (by omega) (by omega)), if_pos (show (7 : Int32) < nI (c) from nI_lt (a := 7) (b := c) (by omega) (by omega)), e1]
  exact wt_99 hd hbj
theorem wt_not (hd : d + 1 ≤ 160) (hbj : b + j < 160) : worthT g2 (nI q) (nI v) pv (nI (d + 1)) (nI (b + j)) (nI 13) = some (.inl (st g2 20 0 0 d (if g2 20 0 0 d = 0 then 1 else 0), nI (d + 1), nI (b + j + 1))) := by
  unfold worthT
  rw [if_neg (by decide), if_pos (by decide), if_pos (by decide), show nI (d + 1) - 1 = nI d from nI_s1 d, wGi_ok (by omega) (by omega), nI_clamp (by omega)]
  unfold fX11_worth_b138 fX11_worth_b204
  by_cases z : g2 20 0 0 d = 0
  · rw [if_pos z, if_pos z, wGi_ok (by omega) (by omega), nI_clamp (by omega), wLe_e, wLe_e, nI_1]
  · rw [if_neg z, if_neg z, wGi_ok (by omega) (by omega), nI_clamp (by omega), wLe_e, wLe_e, nI_1]
theorem wt_neg (hd : d + 1 ≤ 160) (hbj : b + j < 160) : worthT g2 (nI q) (nI v) pv (nI (d + 1)) (nI (b + j)) (nI 19) = some (.inl (st g2 20 0 0 d (-(g2 20 0 0 d)), nI (d + 1), nI (b + j + 1))) := by
  unfold worthT
  rw [if_neg (by decide), if_pos (by decide), if_neg (by decide), if_pos (by decide), show nI (d + 1) - 1 = nI d from nI_s1 d, wGi_ok (by omega) (by omega), wGi_ok (by omega) (by omega), nI_clamp (by omega), wLe_e]
  unfold fX11_worth_b204
  rw [wLe_e, nI_1]
theorem wt_two {r : Int32} (hc : c = 11 ∨ c = 12 ∨ c = 14 ∨ c = 15 ∨ c = 16 ∨ c = 17 ∨ c = 18) (hd : d + 1 + 1 ≤ 160) (hbj : b + j < 160) (hr : fX11_two g2 (nI c) (g2 20 0 0 d) (g2 20 0 0 (d + 1)) = some r) : worthT g2 (nI q) (nI v) pv (nI (d + 1 + 1)) (nI (b + j)) (nI c) = some (.inl (st g2 20 0 0 d r, nI (d + 1), nI (b + j + 1))) := by
  have c13 : ¬ nI c = 13 := fun z => by
    have z : nI c = nI 13 := z
    rw [nI_eq (by omega) (by omega)] at z; omega
  have c19 : ¬ nI c = 19 := fun z => by
    have z : nI c = nI 19 := z
    rw [nI_eq (by omega) (by omega)] at z; omega
  unfold worthT
  rw [if_neg (show ¬ (100000 : Int32) ≤ nI (c) from nI_ge (a := c) (b := 100000) (by omega) (by omega)), if_pos (show (7 : Int32) < nI (c) from nI_lt (a := 7) (b := c) (by omega) (by omega)), if_neg c13, if_neg c19, show nI (d + 1 + 1) + (-1) = nI (d + 1) from nI_p1 (d + 1), wLe_e, show nI (d + 1) - 1 = nI d from nI_s1 d, wGi_ok (by omega) (by omega), wGi_ok (by omega) (by omega), nI_clamp (by omega), nI_clamp (by omega), hr, wBd_e, wGi_ok (by omega) (by omega), wLe_e]
  unfold fX11_worth_b204
  rw [wLe_e, nI_1]
/-- one code, as the component does it -/
theorem sc_name (hj : b + j < e) (he : e ≤ 160) (hd : d < 160) (hc1 : g1 6 t 0 (b + j) = nI (10000 + c)) (hc : c ≤ 7) : fX6_says_B28 g1 t (nI q) i (nI d) (nI e) (nI (b + j)) = some (.inl (st g1 8 t 0 d (g1 18 i 0 c), nI (d + 1), nI (b + j + 1))) := by
  have e1 : nI (10000 + c) - (10000 : Int32) = nI c := by
    have : nI (10000 + c) - nI 10000 = nI (10000 + c - 10000) := nI_sub (by omega)
    rw [show 10000 + c - 10000 = c by omega] at this
    exact this
  unfold fX6_says_B28
  rw [if_neg (nI_ge hj (by omega)), wGi_ok (by omega) (by omega), nI_clamp (by omega), hc1, wLe_e, if_pos (show (10000 : Int32) ≤ nI (10000 + c) from nI_le (a := 10000) (b := 10000 + c) (by omega) (by omega))]
  unfold fX6_says_b75
  rw [if_neg (show ¬ (10008 : Int32) ≤ nI (10000 + c) from nI_ge (a := 10000 + c) (b := 10008) (by omega) (by omega)), if_neg (show ¬ (160 : Int32) ≤ nI (d) from nI_ge (a := d) (b := 160) (by omega) (by omega)), e1, wGi_ok (by omega) (by omega), wGi_ok (by omega) (by omega), nI_clamp (by omega), nI_clamp (by omega), wLe_e, wLe_e, nI_1]
  unfold fX6_says_b218
  rw [wLe_e, nI_1]
theorem sc_num {y : Nat} (hj : b + j < e) (he : e ≤ 160) (hd : d < 160) (hc1 : g1 6 t 0 (b + j) = nI y) (hc : y ≤ 9999) : fX6_says_B28 g1 t (nI q) i (nI d) (nI e) (nI (b + j)) = some (.inl (st g1 8 t 0 d (nI y), nI (d + 1), nI (b + j + 1))) := by
  unfold fX6_says_B28
  rw [if_neg (nI_ge hj (by omega)), wGi_ok (by omega) (by omega), nI_clamp (by omega), hc1, wLe_e, if_neg (show ¬ (10000 : Int32) ≤ nI (y) from nI_ge (a := y) (b := 10000) (by omega) (by omega)), if_neg (show ¬ (160 : Int32) ≤ nI (d) from nI_ge (a := d) (b := 160) (by omega) (by omega)), wGi_ok (by omega) (by omega), nI_clamp (by omega), wLe_e, wLe_e, nI_1]
  unfold fX6_says_b218
  rw [wLe_e, nI_1]
theorem sc_head {y : Nat} (hj : b + j < e) (he : e ≤ 160) (hc1 : g1 6 t 0 (b + j) = nI y) (hy : 10008 ≤ y) (hy' : y ≤ 10016) : fX6_says_B28 g1 t (nI q) i (nI d) (nI e) (nI (b + j)) = fX6_says_b112 g1 t (nI q) i (nI d) (nI e) (nI (b + j)) (nI y) := by
  unfold fX6_says_B28
  rw [if_neg (nI_ge hj (by omega)), wGi_ok (by omega) (by omega), nI_clamp (by omega), hc1, wLe_e, if_pos (show (10000 : Int32) ≤ nI (y) from nI_le (a := 10000) (b := y) (by omega) (by omega))]
  unfold fX6_says_b75
  rw [if_pos (show (10008 : Int32) ≤ nI (y) from nI_le (a := 10008) (b := y) (by omega) (by omega))]
theorem sc_not (hj : b + j < e) (he : e ≤ 160) (hd : d + 1 ≤ 160) (hc1 : g1 6 t 0 (b + j) = nI 10010) : fX6_says_B28 g1 t (nI q) i (nI (d + 1)) (nI e) (nI (b + j)) = some (.inl (st g1 8 t 0 d (if g1 8 t 0 d = 0 then 1 else 0), nI (d + 1), nI (b + j + 1))) := by
  rw [sc_head hj he hc1 (by omega) (by omega)]
  unfold fX6_says_b112 fX6_says_b144
  rw [if_neg (by decide), if_pos (by decide), if_neg (show ¬ nI (d + 1) ≤ (0 : Int32) from nI_ge (a := 0) (b := d + 1) (by omega) (by omega)), show nI (d + 1) - 1 = nI d from nI_s1 d, wGi_ok (by omega) (by omega), nI_clamp (by omega)]
  unfold fX6_says_b179 fX6_says_b218
  by_cases z : g1 8 t 0 d = 0
  · rw [if_pos z, if_pos z, wGi_ok (by omega) (by omega), nI_clamp (by omega), wLe_e, wLe_e, nI_1]
  · rw [if_neg z, if_neg z, wGi_ok (by omega) (by omega), nI_clamp (by omega), wLe_e, wLe_e, nI_1]
theorem sc_neg (hj : b + j < e) (he : e ≤ 160) (hd : d + 1 ≤ 160) (hc1 : g1 6 t 0 (b + j) = nI 10016) : fX6_says_B28 g1 t (nI q) i (nI (d + 1)) (nI e) (nI (b + j)) = some (.inl (st g1 8 t 0 d (-(g1 8 t 0 d)), nI (d + 1), nI (b + j + 1))) := by
  rw [sc_head hj he hc1 (by omega) (by omega)]
  unfold fX6_says_b112
  rw [if_pos (by decide), if_neg (show ¬ nI (d + 1) ≤ (0 : Int32) from nI_ge (a := 0) (b := d + 1) (by omega) (by omega)), show nI (d + 1) - 1 = nI d from nI_s1 d, wGi_ok (by omega) (by omega), wGi_ok (by omega) (by omega), nI_clamp (by omega), wLe_e]
  unfold fX6_says_b218
  rw [wLe_e, nI_1]
theorem sc_two {r : Int32} (hj : b + j < e) (he : e ≤ 160) (hc : c = 11 ∨ c = 12 ∨ c = 14 ∨ c = 15 ∨ c = 16 ∨ c = 17 ∨ c = 18) (hd : d + 1 + 1 ≤ 160) (hc1 : g1 6 t 0 (b + j) = nI (9997 + c)) (hr : fX6_joined g1 (nI (9997 + c)) (g1 8 t 0 d) (g1 8 t 0 (d + 1)) = some r) : fX6_says_B28 g1 t (nI q) i (nI (d + 1 + 1)) (nI e) (nI (b + j)) = some (.inl (st g1 8 t 0 d r, nI (d + 1), nI (b + j + 1))) := by
  rw [sc_head hj he hc1 (by omega) (by omega)]
  have c8 : ¬ nI (9997 + c) = 10016 := fun z => by
    have z : nI (9997 + c) = nI 10016 := z
    rw [nI_eq (by omega) (by omega)] at z; omega
  have c2 : ¬ nI (9997 + c) = 10010 := fun z => by
    have z : nI (9997 + c) = nI 10010 := z
    rw [nI_eq (by omega) (by omega)] at z; omega
  unfold fX6_says_b112 fX6_says_b144 fX6_says_b183
  rw [if_neg c8, if_neg c2, if_neg (show ¬ nI (d + 1 + 1) ≤ (1 : Int32) from nI_ge (a := 1) (b := d + 1 + 1) (by omega) (by omega)), show nI (d + 1 + 1) + (-1) = nI (d + 1) from nI_p1 (d + 1), wLe_e, show nI (d + 1) - 1 = nI d from nI_s1 d, wGi_ok (by omega) (by omega), wGi_ok (by omega) (by omega), nI_clamp (by omega), nI_clamp (by omega), hr, wBd_e, wGi_ok (by omega) (by omega), wLe_e]
  unfold fX6_says_b218
  rw [wLe_e, nI_1]
theorem says_step (ht : t < 6) (hq : q < 3) (hj : b + j < e) (he : e ≤ 160) (h13 : g2 0 0 0 13 = nI t) (h8 : g2 8 0 0 (4 * t + q + 1) = nI e)
    (hc1 : g1 6 t 0 (b + j) = nI (cC c)) (hc2 : g2 7 0 0 (200 * t + (b + j)) = nI c) (hok : okc c) (hd : dep (c :: cs) d = some 1) (hdj : d ≤ j) (hs : ∀ m, m < d → g1 8 t 0 m = g2 20 0 0 m) (hN : c < 8 → fX11_named g2 (nI c) (nI v) pv = some (g1 18 i 0 c)) : SayG i t q v j d e b g1 g2 cs pv := by
  unfold SayG
  rw [worth_head ht hq hj he h13 h8 hc2]
  rcases hok with hc | ⟨hc, hc'⟩ | ⟨hc, hc'⟩
  · rw [show cC c = 10000 + c from if_pos hc] at hc1
    unfold dep at hd
    rw [if_pos (Or.inl hc)] at hd
    exact ⟨_, _, _, sc_name hj he (by omega) hc1 hc, wt_name hc (by omega) (by omega) (hN (by omega)), hd, by omega, stk_set hs (Or.inr ⟨rfl, rfl⟩), fun t' h => st_kind h, fun t' h => st_kind h⟩
  · have n7 : ¬ c ≤ 7 := by omega
    rw [show cC c = 9997 + c from (if_neg n7).trans (if_pos hc')] at hc1
    unfold dep at hd
    have n8 : ¬ (c ≤ 7 ∨ 100000 ≤ c) := by omega
    rw [if_neg n8] at hd
    by_cases c13 : c = 13 ∨ c = 19
    · rw [if_pos c13] at hd
      by_cases hd1 : 1 ≤ d
      · rw [if_pos hd1] at hd
        obtain ⟨d, rfl⟩ : ∃ k, d = k + 1 := ⟨d - 1, by omega⟩
        have hs0 := hs d (by omega)
        rcases c13 with rfl | rfl
        · have r1 := sc_not (q := q) (i := i) (d := d) hj he (by omega) hc1
          rw [hs0] at r1
          exact ⟨_, _, _, r1, wt_not (by omega) (by omega), hd, by omega, stk_set hs (Or.inl (Nat.le_refl _)), fun t' h => st_kind h, fun t' h => st_kind h⟩
        · have r1 := sc_neg (q := q) (i := i) (d := d) hj he (by omega) hc1
          rw [hs0] at r1
          exact ⟨_, _, _, r1, wt_neg (by omega) (by omega), hd, by omega, stk_set hs (Or.inl (Nat.le_refl _)), fun t' h => st_kind h, fun t' h => st_kind h⟩
      · rw [if_neg hd1] at hd; cases hd
    · rw [if_neg c13] at hd
      by_cases hd1 : 2 ≤ d
      · rw [if_pos hd1] at hd
        obtain ⟨d, rfl⟩ : ∃ k, d = k + 1 + 1 := ⟨d - 2, by omega⟩
        have hs0 := hs d (by omega)
        have hs1 := hs (d + 1) (by omega)
        have hc : c = 11 ∨ c = 12 ∨ c = 14 ∨ c = 15 ∨ c = 16 ∨ c = 17 ∨ c = 18 := by omega
        obtain ⟨r, hr⟩ := two_some (g' := g2) (a := g2 20 0 0 d) (b := g2 20 0 0 (d + 1)) (c := nI c)
        have te := two_eq (g := g1) (g' := g2) (a := g2 20 0 0 d) (b := g2 20 0 0 (d + 1)) hc
        rw [hr] at te
        exact ⟨_, _, _, sc_two hj he hc (by omega) hc1 (by rw [hs0, hs1]; exact te), wt_two hc (by omega) (by omega) hr, hd, by omega, stk_set hs (Or.inl (by omega)), fun t' h => st_kind h, fun t' h => st_kind h⟩
      · rw [if_neg hd1] at hd; cases hd
  · have n7 : ¬ c ≤ 7 := by omega
    have n19 : ¬ c ≤ 19 := by omega
    rw [show cC c = c - 100000 from (if_neg n7).trans (if_neg n19)] at hc1
    unfold dep at hd
    rw [if_pos (Or.inr hc)] at hd
    exact ⟨_, _, _, sc_num hj he (by omega) hc1 (by omega), wt_num (by omega) (by omega) (by omega) (by omega), hd, by omega, stk_set hs (Or.inr ⟨rfl, rfl⟩), fun t' h => st_kind h, fun t' h => st_kind h⟩
end SAY
theorem pof_le {P : Nat → List Nat} {q : Nat} (hq : q < 3) : pof P q + (P q).length ≤ pof P 3 := by
  have e3 : pof P 3 = (P 0).length + (P 1).length + (P 2).length := by show 0 + (P 0).length + (P 1).length + (P 2).length = _; omega
  rcases (show q = 0 ∨ q = 1 ∨ q = 2 by omega) with rfl | rfl | rfl
  · show 0 + (P 0).length ≤ _; omega
  · show 0 + (P 0).length + (P 1).length ≤ _; omega
  · show 0 + (P 0).length + (P 1).length + (P 2).length ≤ _; omega
theorem says_pr {i t q v : Nat} {gC gR : Mm} {pv : Int32} (hR : RT gC gR t) (ht : t < 6) (h13 : gR 0 0 0 13 = nI t) (hq : q < 3) (hN : ∀ g2 : Mm, (∀ t', t' ≠ 20 → g2 t' = gR t') → ∀ c, c < 8 → fX11_named g2 (nI c) (nI v) pv = some (gC 18 i 0 c)) :
    ∃ r gC' gR', fX6_says gC t (nI q) i = some (gC', r) ∧ fX11_worth gR (nI q) (nI v) pv = some (gR', r) ∧ (∀ t', t' ≠ 8 → gC' t' = gC t') ∧ (∀ t', t' ≠ 20 → gR' t' = gR t') := by
  obtain ⟨P, hP, hv, h7, h8, hc⟩ := hR
  obtain ⟨hok, hdp⟩ := hv q hq
  have hle := pof_le (P := P) hq
  have e1 : gR 8 0 0 (4 * t + q + 1) = nI (pof P q + (P q).length) := h8 (q + 1) (by omega)
  have e0 := h8 q (by omega)
  have e7 := h7 q hq
  have e7 : gC 7 t 0 q = nI (pof P q + (P q).length) := e7
  have key := wLp_two (f1 := fun s : Mm × Int32 × Int32 => fX6_says_B28 s.1 t (nI q) i s.2.1 (nI (pof P q + (P q).length)) s.2.2) (f2 := fun s : Mm × Int32 × Int32 => fX11_worth_B18 s.1 (nI q) (nI v) pv s.2.1 s.2.2)
    (fun t1 t2 => ∃ r gC' gR', t1 = (gC', r) ∧ t2 = (gR', r) ∧ (∀ t', t' ≠ 8 → gC' t' = gC t') ∧ (∀ t', t' ≠ 20 → gR' t' = gR t'))
    (fun j s1 s2 => ∃ d g1 g2, s1 = (g1, nI d, nI (pof P q + j)) ∧ s2 = (g2, nI d, nI (pof P q + j)) ∧ dep ((P q).drop j) d = some 1 ∧ d ≤ j ∧ (∀ m, m < d → g1 8 t 0 m = g2 20 0 0 m) ∧ (∀ t', t' ≠ 8 → g1 t' = gC t') ∧ (∀ t', t' ≠ 20 → g2 t' = gR t')) (P q).length
    (fun j s1 s2 hj ⟨d, g1, g2, a1, a2, a3, a4, a5, a6, a7⟩ => by
      subst a1; subst a2
      left
      obtain ⟨c1, c2⟩ := hc q hq j hj
      rw [List.drop_eq_getElem_cons hj] at a3
      obtain ⟨d', g1', g2', r1, r2, r3, r4, r5, r6, r7⟩ := says_step (i := i) (t := t) (q := q) (v := v) (j := j) (d := d) (b := pof P q) (e := pof P q + (P q).length) (g1 := g1) (g2 := g2) (pv := pv) ht hq (by omega) (by omega)
        (by rw [a7 0 (by decide)]; exact h13) (by rw [a7 8 (by decide)]; exact e1) (by rw [a6 6 (by decide)]; exact c1) (by rw [a7 7 (by decide)]; exact c2) (hok _ (List.getElem_mem hj)) a3 a4 a5
        (fun h => by rw [a6 18 (by decide)]; exact hN g2 a7 _ h)
      exact ⟨_, _, r1, r2, d', g1', g2', rfl, rfl, r3, r4, r5, fun t' h => (r6 t' h).trans (a6 t' h), fun t' h => (r7 t' h).trans (a7 t' h)⟩)
    (fun s1 s2 ⟨d, g1, g2, a1, a2, a3, a4, a5, a6, a7⟩ => by
      subst a1; subst a2
      rw [List.drop_length] at a3
      have d1 : d = 1 := by
        unfold dep at a3
        injection a3
      subst d1
      have i4 : 4 * t + q + 1 < 24 := by omega
      have h13' : g2 0 0 0 13 = nI t := by rw [a7 0 (by decide)]; exact h13
      have e1' : g2 8 0 0 (4 * t + q + 1) = nI (pof P q + (P q).length) := by rw [a7 8 (by decide)]; exact e1
      dsimp only
      unfold fX6_says_B28 fX11_worth_B18
      simp (disch := omega) only [li_0, li_1, li_2, li_3, li_4, li_5, li_6, li_7, li_8, li_9, li_10, li_11, li_12, li_13, li_14, li_15, li_16, li_17, li_18, li_19, li_30, li_32, li_40, li_41, li_42, li_43, li_45, li_48, li_57, li_59, li_60, li_61, li_63, li_97, li_99, li_122, li_160, li_200, li_255, li_256, li_257, li_258, li_259, li_360, li_460, li_462, li_470, li_475, li_480, li_481, li_482, li_483, li_484, li_490, li_496, li_510, li_999, li_9999, li_10000, li_10008, li_10009, li_10010, li_10011, li_10012, li_10013, li_10014, li_10015, li_10016, li_100000, wGi_ok, wGb_0, wGb_1, wLe_e, wBd_e, wB2_e, wEx_e, nI_mul, nI_add, nI_clamp, nI_leI, nI_ltI, nI_eq, nI_m1, h13', e1', Nat.le_refl, if_true]
      refine ⟨_, _, rfl, rfl, _, g1, g2, rfl, ?_, a6, a7⟩
      rw [a5 0 (by omega)])
    (k := 0) (Nat.zero_le _) (s1 := (gC, nI 0, nI (pof P q))) (s2 := (gR, nI 0, nI (pof P q))) ⟨0, gC, gR, rfl, rfl, hdp, Nat.le_refl _, fun m hm => absurd hm (by omega), fun _ _ => rfl, fun _ _ => rfl⟩ (u1 := 1000) (u2 := 1000) (by omega) (by omega)
  obtain ⟨t1, t2, q1, q2, r, gC', gR', b1, b2, b3, b4⟩ := key
  subst b1; subst b2
  refine ⟨r, gC', gR', ?_, ?_, b3, b4⟩
  · unfold fX6_says
    by_cases q0 : q = 0
    · subst q0
      simp (disch := omega) only [li_0, li_1, li_2, li_3, li_4, li_5, li_6, li_7, li_8, li_9, li_10, li_11, li_12, li_13, li_14, li_15, li_16, li_17, li_18, li_19, li_30, li_32, li_40, li_41, li_42, li_43, li_45, li_48, li_57, li_59, li_60, li_61, li_63, li_97, li_99, li_122, li_160, li_200, li_255, li_256, li_257, li_258, li_259, li_360, li_460, li_462, li_470, li_475, li_480, li_481, li_482, li_483, li_484, li_490, li_496, li_510, li_999, li_9999, li_10000, li_10008, li_10009, li_10010, li_10011, li_10012, li_10013, li_10014, li_10015, li_10016, li_100000, wGi_ok, wGb_0, wGb_1, wLe_e, wBd_e, wB2_e, wEx_e, nI_mul, nI_add, nI_clamp, nI_leI, nI_ltI, nI_eq, nI_m1, e7, if_true]
      exact q1
    · have e7' : gC 7 t 0 (q - 1) = nI (pof P q) := by
        have := h7 (q - 1) (by omega)
        rwa [show q - 1 + 1 = q by omega] at this
      simp (disch := omega) only [li_0, li_1, li_2, li_3, li_4, li_5, li_6, li_7, li_8, li_9, li_10, li_11, li_12, li_13, li_14, li_15, li_16, li_17, li_18, li_19, li_30, li_32, li_40, li_41, li_42, li_43, li_45, li_48, li_57, li_59, li_60, li_61, li_63, li_97, li_99, li_122, li_160, li_200, li_255, li_256, li_257, li_258, li_259, li_360, li_460, li_462, li_470, li_475, li_480, li_481, li_482, li_483, li_484, li_490, li_496, li_510, li_999, li_9999, li_10000, li_10008, li_10009, li_10010, li_10011, li_10012, li_10013, li_10014, li_10015, li_10016, li_100000, wGi_ok, wGb_0, wGb_1, wLe_e, wBd_e, wB2_e, wEx_e, nI_mul, nI_add, nI_clamp, nI_leI, nI_ltI, nI_eq, nI_m1, e7, if_neg q0, nI_sub, e7']
      exact q1
  · unfold fX11_worth
    have i4 : 4 * t + q < 24 := by omega
    simp (disch := omega) only [li_0, li_1, li_2, li_3, li_4, li_5, li_6, li_7, li_8, li_9, li_10, li_11, li_12, li_13, li_14, li_15, li_16, li_17, li_18, li_19, li_30, li_32, li_40, li_41, li_42, li_43, li_45, li_48, li_57, li_59, li_60, li_61, li_63, li_97, li_99, li_122, li_160, li_200, li_255, li_256, li_257, li_258, li_259, li_360, li_460, li_462, li_470, li_475, li_480, li_481, li_482, li_483, li_484, li_490, li_496, li_510, li_999, li_9999, li_10000, li_10008, li_10009, li_10010, li_10011, li_10012, li_10013, li_10014, li_10015, li_10016, li_100000, wGi_ok, wGb_0, wGb_1, wLe_e, wBd_e, wB2_e, wEx_e, nI_mul, nI_add, nI_clamp, nI_leI, nI_ltI, nI_eq, nI_m1, h13, e0]
    exact q2
-- ===== the names of a rule =====
theorem of18 {g : Mm} {i i' v' j : Nat} {x a : Int32} : fX4_openFeeds (st g 18 i' v' j x) i a = fX4_openFeeds g i a := by
  unfold fX4_openFeeds fX4_openFeeds_L4 fX4_openFeeds_B4 fX4_openFeeds_b41
  simp only [st_kind (show (9 : Nat) ≠ 18 by decide), st_kind (show (22 : Nat) ≠ 18 by decide)]
theorem lim18 {g : Mm} {i v i' v' j : Nat} {x : Int32} : fX9_limit (st g 18 i' v' j x) i v = fX9_limit g i v := by
  unfold fX9_limit
  simp only [st_kind (show (19 : Nat) ≠ 18 by decide)]
theorem lim_ev {g : Mm} {i v : Nat} : fX9_limit g i v = some (g 19 i v 1 + g 19 i v 4 + g 19 i v 3) := rfl
theorem limR_ev {g : Mm} {v : Nat} (h : v < 12) : fX11_limit g (nI v) = some (g 1 0 0 (30 * v + 1) + g 1 0 0 (30 * v + 5) + g 1 0 0 (30 * v + 3)) := by
  unfold fX11_limit
  simp (disch := omega) only [li_0, li_1, li_2, li_3, li_4, li_5, li_6, li_7, li_8, li_9, li_10, li_11, li_12, li_13, li_14, li_15, li_16, li_17, li_18, li_19, li_30, li_32, li_40, li_41, li_42, li_43, li_45, li_48, li_57, li_59, li_60, li_61, li_63, li_97, li_99, li_122, li_160, li_200, li_255, li_256, li_257, li_258, li_259, li_360, li_460, li_462, li_470, li_475, li_480, li_481, li_482, li_483, li_484, li_490, li_496, li_510, li_999, li_9999, li_10000, li_10008, li_10009, li_10010, li_10011, li_10012, li_10013, li_10014, li_10015, li_10016, li_100000, wGi_ok, wGb_0, wGb_1, wLe_e, wBd_e, wB2_e, wEx_e, come_ev, of_ev]
theorem late_max {a b : Nat} (ha : a < 2 ^ 31) (hb : b < 2 ^ 31) : (if nI 0 < nI a - nI b then nI a - nI b else nI 0) = if nI a ≤ nI b then nI 0 else nI a - nI b := by
  by_cases c : a ≤ b
  · rw [if_pos (nI_le c hb), if_neg]
    intro q
    have q := Int32.lt_iff_toInt_lt.mp q
    rw [nI_subI ha hb] at q
    have e : (nI 0).toInt = 0 := rfl
    omega
  · rw [if_neg (nI_ge (by omega) ha), if_pos]
    refine Int32.lt_iff_toInt_lt.mpr ?_
    rw [nI_subI ha hb]
    have e : (nI 0).toInt = 0 := rfl
    omega
theorem learn_pr {i : Nat} {gC gR : Mm} {nv nf ns v e : Nat} (h : PS i gC gR nv nf ns) (hv : v < nv) (he : e ≤ 9999) (ee : gC 19 i v 2 = nI e) (pv : Int32) :
    ∃ gC', fX4_learn gC i (nI v) pv = some gC' ∧ (∀ t', t' ≠ 18 → gC' t' = gC t') ∧ ∀ g2 : Mm, (∀ t', t' ≠ 20 → g2 t' = gR t') → ∀ c, c < 8 → fX11_named g2 (nI c) (nI v) pv = some (gC' 18 i 0 c) := by
  have hv12 := h.nv12
  obtain ⟨t, ht, et⟩ := h.2.2.2.2.1.2.1
  obtain ⟨r, hr, b1, b2⟩ := bags_pr h hv
  have e9 := h.e9
  have v0 := h.v0 hv
  have v1 := h.v1 hv
  have v2 := h.v2 hv
  have v3 := h.v3 hv
  have v4 := h.v4 hv
  have v6 := h.v6 hv
  have v7 := h.v7 hv
  have w5 := h.e10_5
  have w5 : gC 10 i 0 5 = gR 1 0 0 481 := w5
  have ep : gR 1 0 0 (30 * v + 2) = nI e := v2.symm.trans ee
  have k9 : ∀ g : Mm, ∀ (j : Nat) (x : Int32), st g 18 i 0 j x 9 = g 9 := fun g j x => st_kind (by decide)
  have k10 : ∀ g : Mm, ∀ (j : Nat) (x : Int32), st g 18 i 0 j x 10 = g 10 := fun g j x => st_kind (by decide)
  have k19 : ∀ g : Mm, ∀ (j : Nat) (x : Int32), st g 18 i 0 j x 19 = g 19 := fun g j x => st_kind (by decide)
  have key : ∃ z, (z = nI 1 ∧ gR 1 0 0 (30 * v + 6) = nI 1 ∨ z = nI 0 ∧ ¬ gR 1 0 0 (30 * v + 6) = nI 1) ∧ fX4_learn gC i (nI v) pv = fX4_learn_b25 gC i (nI v) pv v (nI 0) z := by
    unfold fX4_learn
    simp (disch := omega) only [li_0, li_1, li_2, li_3, li_4, li_5, li_6, li_7, li_8, li_9, li_10, li_11, li_12, li_13, li_14, li_15, li_16, li_17, li_18, li_19, li_30, li_32, li_40, li_41, li_42, li_43, li_45, li_48, li_57, li_59, li_60, li_61, li_63, li_97, li_99, li_122, li_160, li_200, li_255, li_256, li_257, li_258, li_259, li_360, li_460, li_462, li_470, li_475, li_480, li_481, li_482, li_483, li_484, li_490, li_496, li_510, li_999, li_9999, li_10000, li_10008, li_10009, li_10010, li_10011, li_10012, li_10013, li_10014, li_10015, li_10016, li_100000, wGi_ok, wGb_0, wGb_1, wLe_e, wBd_e, wB2_e, wEx_e, nI_mul, nI_add, nI_clamp, nI_leI, nI_ltI, nI_eq, nI_m1, v6]
    by_cases c : gR 1 0 0 (30 * v + 6) = nI 1
    · rw [if_pos c]; exact ⟨_, Or.inl ⟨rfl, c⟩, rfl⟩
    · rw [if_neg c]; exact ⟨_, Or.inr ⟨rfl, c⟩, rfl⟩
  obtain ⟨z, hz, ez⟩ := key
  rw [ez]
  unfold fX4_learn_b25
  simp (disch := omega) only [li_0, li_1, li_2, li_3, li_4, li_5, li_6, li_7, li_8, li_9, li_10, li_11, li_12, li_13, li_14, li_15, li_16, li_17, li_18, li_19, li_30, li_32, li_40, li_41, li_42, li_43, li_45, li_48, li_57, li_59, li_60, li_61, li_63, li_97, li_99, li_122, li_160, li_200, li_255, li_256, li_257, li_258, li_259, li_360, li_460, li_462, li_470, li_475, li_480, li_481, li_482, li_483, li_484, li_490, li_496, li_510, li_999, li_9999, li_10000, li_10008, li_10009, li_10010, li_10011, li_10012, li_10013, li_10014, li_10015, li_10016, li_100000, wGi_ok, wGb_0, wGb_1, wLe_e, wBd_e, wB2_e, wEx_e, nI_mul, nI_add, nI_clamp, nI_leI, nI_ltI, nI_eq, nI_m1, of18, lim18, k9, k10, k19, b1, lim_ev]
  refine ⟨_, rfl, fun t' ht' => by simp only [st_kind ht'], ?_⟩
  intro g2 hg2 c hc
  have h2 : PS i gC g2 nv nf ns := h.scrR fun t ht => hg2 t (by omega)
  obtain ⟨r', hr', b1', b2'⟩ := bags_pr h2 hv
  rw [b1] at b1'
  injection b1' with b1'
  rw [← b1'] at b2'
  have p1 : g2 1 = gR 1 := hg2 1 (by decide)
  unfold fX11_named
  rcases (show c = 0 ∨ c = 1 ∨ c = 2 ∨ c = 3 ∨ c = 4 ∨ c = 5 ∨ c = 6 ∨ c = 7 by omega) with rfl | rfl | rfl | rfl | rfl | rfl | rfl | rfl
  · simp (disch := omega) only [li_0, li_1, li_2, li_3, li_4, li_5, li_6, li_7, li_8, li_9, li_10, li_11, li_12, li_13, li_14, li_15, li_16, li_17, li_18, li_19, li_30, li_32, li_40, li_41, li_42, li_43, li_45, li_48, li_57, li_59, li_60, li_61, li_63, li_97, li_99, li_122, li_160, li_200, li_255, li_256, li_257, li_258, li_259, li_360, li_460, li_462, li_470, li_475, li_480, li_481, li_482, li_483, li_484, li_490, li_496, li_510, li_999, li_9999, li_10000, li_10008, li_10009, li_10010, li_10011, li_10012, li_10013, li_10014, li_10015, li_10016, li_100000, wGi_ok, wGb_0, wGb_1, wLe_e, wBd_e, wB2_e, wEx_e, nI_mul, nI_add, nI_clamp, nI_leI, nI_ltI, nI_eq, nI_m1, of_ev, p1, st_eq, st_ne, if_true]
    rcases hz with ⟨rfl, c⟩ | ⟨rfl, c⟩
    · exact if_pos c
    · exact if_neg c
  · simp (disch := omega) only [li_0, li_1, li_2, li_3, li_4, li_5, li_6, li_7, li_8, li_9, li_10, li_11, li_12, li_13, li_14, li_15, li_16, li_17, li_18, li_19, li_30, li_32, li_40, li_41, li_42, li_43, li_45, li_48, li_57, li_59, li_60, li_61, li_63, li_97, li_99, li_122, li_160, li_200, li_255, li_256, li_257, li_258, li_259, li_360, li_460, li_462, li_470, li_475, li_480, li_481, li_482, li_483, li_484, li_490, li_496, li_510, li_999, li_9999, li_10000, li_10008, li_10009, li_10010, li_10011, li_10012, li_10013, li_10014, li_10015, li_10016, li_100000, wGi_ok, wGb_0, wGb_1, wLe_e, wBd_e, wB2_e, wEx_e, of_ev, p1, st_eq, st_ne, if_true, e9, v2, et, ep, late_max, wGi_ok, nI_clamp, nI_eq, Nat.one_ne_zero, if_false]
    by_cases c : nI t ≤ nI e
    · simp only [if_pos c]
    · simp only [if_neg c]
  · simp (disch := omega) only [li_0, li_1, li_2, li_3, li_4, li_5, li_6, li_7, li_8, li_9, li_10, li_11, li_12, li_13, li_14, li_15, li_16, li_17, li_18, li_19, li_30, li_32, li_40, li_41, li_42, li_43, li_45, li_48, li_57, li_59, li_60, li_61, li_63, li_97, li_99, li_122, li_160, li_200, li_255, li_256, li_257, li_258, li_259, li_360, li_460, li_462, li_470, li_475, li_480, li_481, li_482, li_483, li_484, li_490, li_496, li_510, li_999, li_9999, li_10000, li_10008, li_10009, li_10010, li_10011, li_10012, li_10013, li_10014, li_10015, li_10016, li_100000, wGi_ok, wGb_0, wGb_1, wLe_e, wBd_e, wB2_e, wEx_e, nI_mul, nI_add, nI_clamp, nI_leI, nI_ltI, nI_eq, nI_m1, of_ev, p1, st_eq, st_ne, if_true, v0, Nat.reduceEqDiff, if_false]
    rfl
  · simp (disch := omega) only [li_0, li_1, li_2, li_3, li_4, li_5, li_6, li_7, li_8, li_9, li_10, li_11, li_12, li_13, li_14, li_15, li_16, li_17, li_18, li_19, li_30, li_32, li_40, li_41, li_42, li_43, li_45, li_48, li_57, li_59, li_60, li_61, li_63, li_97, li_99, li_122, li_160, li_200, li_255, li_256, li_257, li_258, li_259, li_360, li_460, li_462, li_470, li_475, li_480, li_481, li_482, li_483, li_484, li_490, li_496, li_510, li_999, li_9999, li_10000, li_10008, li_10009, li_10010, li_10011, li_10012, li_10013, li_10014, li_10015, li_10016, li_100000, wGi_ok, wGb_0, wGb_1, wLe_e, wBd_e, wB2_e, wEx_e, nI_mul, nI_add, nI_clamp, nI_leI, nI_ltI, nI_eq, nI_m1, of_ev, p1, st_eq, st_ne, if_true, v7, e9, Nat.reduceEqDiff, if_false]
  · simp (disch := omega) only [li_0, li_1, li_2, li_3, li_4, li_5, li_6, li_7, li_8, li_9, li_10, li_11, li_12, li_13, li_14, li_15, li_16, li_17, li_18, li_19, li_30, li_32, li_40, li_41, li_42, li_43, li_45, li_48, li_57, li_59, li_60, li_61, li_63, li_97, li_99, li_122, li_160, li_200, li_255, li_256, li_257, li_258, li_259, li_360, li_460, li_462, li_470, li_475, li_480, li_481, li_482, li_483, li_484, li_490, li_496, li_510, li_999, li_9999, li_10000, li_10008, li_10009, li_10010, li_10011, li_10012, li_10013, li_10014, li_10015, li_10016, li_100000, wGi_ok, wGb_0, wGb_1, wLe_e, wBd_e, wB2_e, wEx_e, nI_mul, nI_add, nI_clamp, nI_leI, nI_ltI, nI_eq, nI_m1, of_ev, p1, st_eq, st_ne, if_true, Nat.reduceEqDiff, if_false]
  · simp (disch := omega) only [li_0, li_1, li_2, li_3, li_4, li_5, li_6, li_7, li_8, li_9, li_10, li_11, li_12, li_13, li_14, li_15, li_16, li_17, li_18, li_19, li_30, li_32, li_40, li_41, li_42, li_43, li_45, li_48, li_57, li_59, li_60, li_61, li_63, li_97, li_99, li_122, li_160, li_200, li_255, li_256, li_257, li_258, li_259, li_360, li_460, li_462, li_470, li_475, li_480, li_481, li_482, li_483, li_484, li_490, li_496, li_510, li_999, li_9999, li_10000, li_10008, li_10009, li_10010, li_10011, li_10012, li_10013, li_10014, li_10015, li_10016, li_100000, wGi_ok, wGb_0, wGb_1, wLe_e, wBd_e, wB2_e, wEx_e, nI_mul, nI_add, nI_clamp, nI_leI, nI_ltI, nI_eq, nI_m1, of_ev, p1, st_eq, st_ne, if_true, w5, Nat.reduceEqDiff, if_false]
  · simp (disch := omega) only [li_0, li_1, li_2, li_3, li_4, li_5, li_6, li_7, li_8, li_9, li_10, li_11, li_12, li_13, li_14, li_15, li_16, li_17, li_18, li_19, li_30, li_32, li_40, li_41, li_42, li_43, li_45, li_48, li_57, li_59, li_60, li_61, li_63, li_97, li_99, li_122, li_160, li_200, li_255, li_256, li_257, li_258, li_259, li_360, li_460, li_462, li_470, li_475, li_480, li_481, li_482, li_483, li_484, li_490, li_496, li_510, li_999, li_9999, li_10000, li_10008, li_10009, li_10010, li_10011, li_10012, li_10013, li_10014, li_10015, li_10016, li_100000, wGi_ok, wGb_0, wGb_1, wLe_e, wBd_e, wB2_e, wEx_e, nI_mul, nI_add, nI_clamp, nI_leI, nI_ltI, nI_eq, nI_m1, of_ev, p1, st_eq, st_ne, if_true, b2', Nat.reduceEqDiff, if_false]
  · simp (disch := omega) only [li_0, li_1, li_2, li_3, li_4, li_5, li_6, li_7, li_8, li_9, li_10, li_11, li_12, li_13, li_14, li_15, li_16, li_17, li_18, li_19, li_30, li_32, li_40, li_41, li_42, li_43, li_45, li_48, li_57, li_59, li_60, li_61, li_63, li_97, li_99, li_122, li_160, li_200, li_255, li_256, li_257, li_258, li_259, li_360, li_460, li_462, li_470, li_475, li_480, li_481, li_482, li_483, li_484, li_490, li_496, li_510, li_999, li_9999, li_10000, li_10008, li_10009, li_10010, li_10011, li_10012, li_10013, li_10014, li_10015, li_10016, li_100000, wGi_ok, wGb_0, wGb_1, wLe_e, wBd_e, wB2_e, wEx_e, nI_mul, nI_add, nI_clamp, nI_leI, nI_ltI, nI_eq, nI_m1, of_ev, p1, st_eq, st_ne, if_true, limR_ev, e9, v1, v3, v4, Nat.reduceEqDiff, if_false]
