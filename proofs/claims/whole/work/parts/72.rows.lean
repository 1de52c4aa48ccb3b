-- ===== rows of wishes, one after the other =====
/-- the plan that is kept, as the best row so far says -/
def KP (m p : Nat) (gC g1 : Mm) (best bA bB : Int32) : Prop := (best = -1 ∧ g1 23 = gC 23) ∨ ((∃ n : Nat, n < 2 ^ 31 ∧ best = nI n) ∧ g1 23 0 0 0 = nI m ∧ g1 23 0 0 1 = nI p ∧ g1 23 0 0 2 = bA ∧ g1 23 0 0 3 = bB)
theorem KP.lt {m p : Nat} {gC g1 : Mm} {best bA bB : Int32} (h : KP m p gC g1 best bA bB) : (best < 0 ↔ best = -1) := by
  rcases h with ⟨rfl, -⟩ | ⟨⟨n, hn, rfl⟩, -⟩
  · decide
  · constructor
    · intro q; exact (nI_pos hn q).elim
    · intro q; exact ((nI_m1 hn).mp q).elim
section ROW
variable {gC gR : Mm} {nv nf ns t n m p : Nat}
/-- the ticks of one row, from the wishes on -/
theorem ticks_row (h : R3 gC gR nv nf ns) (ht : gR 1 0 0 480 = nI t) (hn : n ≤ 40) (htn : t + n ≤ 9999) {g1 g2 : Mm} (hb : PB gC gR g1 g2) {a1 a2 : Mm} (hA : PS 1 a1 a2 nv nf ns) (hrs : RS 1 a1 a2) (hvb : VB 1 a1 nv) (hcb : CB 1 nv t a1) (et : a2 1 0 0 480 = nI t)
    (o1 : OA g1 a1) (o2 : ∀ t, t ≠ 1 → a2 t = g2 t) (sI sP wA sQ wB : Int32) (c1 c2 : Int32) (best bA bB x10 x11 : Int32) :
    ∃ g1' r, fX10_lateWith_b42 a1 sP wA sQ wB (nI n) = some (g1', nI r) ∧ r < 2 ^ 31 ∧ ∃ g2', PB gC gR g1' g2' ∧ g1' 23 = g1 23 ∧ g2' 5 = g2 5 ∧ g2' 0 = g2 0 ∧
      fX11_plan_b260 a2 sI (nI n) c1 c2 best bA bB x10 x11 = some (if best = -1 ∨ ¬ best ≤ nI r then .inl (g2', nI r, x10, x11, x11 + 1) else .inl (g2', best, bA, bB, x11 + 1)) := by
  have hP := h.1
  obtain ⟨t1, t2, r1, r2, r3⟩ := steps_pr (F1 := fun g x => fX10_lateWith_B45 g sP wA sQ wB (nI n) x) (F2 := fun g x => fX11_plan_B263 g sI (nI n) c1 c2 best bA bB x10 x11 x)
    (fun t1 t2 => ∃ g1' r g2', t1 = (g1', nI r) ∧ r < 2 ^ 31 ∧ PB gC gR g1' g2' ∧ g1' 23 = g1 23 ∧ g2' 5 = g2 5 ∧ g2' 0 = g2 0 ∧ t2 = (if best = -1 ∨ ¬ best ≤ nI r then .inl (g2', nI r, x10, x11, x11 + 1) else .inl (g2', best, bA, bB, x11 + 1))) (by omega) hA hrs hvb hcb et (show n ≤ 200 by omega) htn
    (fun k g g' hk e => by unfold fX10_lateWith_B45; rw [if_neg (nI_ge hk (by omega)), e, wBd_e, wLe_e, nI_1])
    (fun k g g' hk e => by unfold fX11_plan_B263; rw [if_neg (nI_ge hk (by omega)), e, wBd_e, wLe_e, nI_1])
    (fun a b hAF => by
      obtain ⟨r, hr, l1, l2⟩ := lateAll_nn hAF.1 hAF.2.2.2.2 (by omega)
      obtain ⟨g3, m1, m2, m3⟩ := lays_1 b
      have pb : PB gC gR a g3 := by
        refine ⟨fun t i' v j q q8 q18 q23 => (hAF.2.1 t i' v j (by unfold wrC; omega) (by omega)).trans ((o1 t i' v j q).trans (hb.1 t i' v j q q8 q18 q23)), fun t x1 x20 x21 x22 => (m2 t x1).trans ((hAF.2.2.1 t x1 x20 x21).trans ((o2 t x1).trans (hb.2.1 t x1 x20 x21 x22))), fun k hk => ?_, fun k hk => ?_⟩
        · rw [m3 k hk, hAF.2.2.1 22 (by decide) (by decide) (by decide), o2 22 (by decide)]
          exact hb.2.2.2 k hk
        · rw [m2 22 (by decide), hAF.2.2.1 22 (by decide) (by decide) (by decide), o2 22 (by decide)]
          exact hb.2.2.2 k hk
      refine ⟨(a, nI r), (if best = -1 ∨ ¬ best ≤ nI r then .inl (g3, nI r, x10, x11, x11 + 1) else .inl (g3, best, bA, bB, x11 + 1)), ?_, ?_, a, r, g3, rfl, hr, pb, ?_, ?_, ?_, rfl⟩
      · unfold fX10_lateWith_B45; rw [if_pos (nI_le (Nat.le_refl _) (by omega)), l1, wBd_e, wEx_e]
      · unfold fX11_plan_B263 fX11_plan_b303 fX11_plan_b315
        rw [if_pos (nI_le (Nat.le_refl _) (by omega)), l2, wBd_e, m1, wBd_e, wLe_e, wLe_e]
        by_cases c : best = -1
        · rw [if_pos c, if_pos (Or.inl c), wEx_e]
        · rw [if_neg c]
          by_cases d : best ≤ nI r
          · rw [if_pos d, if_neg (show ¬ (best = -1 ∨ ¬ best ≤ nI r) from fun q => q.elim c fun z => z d), wEx_e]
          · rw [if_neg d, if_pos (Or.inr d), wEx_e]
      · funext i v j
        exact (hAF.2.1 23 i v j (by unfold wrC; omega) (by omega)).trans (o1 23 i v j (by omega))
      · rw [m2 5 (by decide), hAF.2.2.1 5 (by decide) (by decide) (by decide), o2 5 (by decide)]
      · rw [m2 0 (by decide), hAF.2.2.1 0 (by decide) (by decide) (by decide), o2 0 (by decide)])
  obtain ⟨g1', r, g2', e1, e2, e3, e4, e5, e6, e7⟩ := r3
  subst e1
  refine ⟨g1', r, ?_, e2, g2', e3, e4, e5, e6, ?_⟩
  · unfold fX10_lateWith_b42; rw [wLe_e]; exact r1
  · unfold fX11_plan_b260; rw [wLe_e, ← e7]; exact r2
/-- one row of wishes, whole -/
theorem row_pr (h : R3 gC gR nv nf ns) (ht : gR 1 0 0 480 = nI t) (ht' : t ≤ 10000) (hc : CB 0 nv t gC) (hn : n ≤ 40) (htn : t + n ≤ 9999) (hp : p < nv) {q : Option Nat} (hq : ∀ q', q = some q' → q' < nv ∧ p ≠ q') {g1 g2 : Mm} (hb : PB gC gR g1 g2) {wA wB : Int32} (vA : WV ns wA) (vB : WV ns wB) (sI best bA bB : Int32) :
    ∃ g1' r, fX10_lateWith g1 (nI p) wA (oI q) wB (nI n) = some (g1', nI r) ∧ r < 2 ^ 31 ∧ ∃ g2', PB gC gR g1' g2' ∧ g1' 23 = g1 23 ∧ g2' 5 = g2 5 ∧ g2' 0 = g2 0 ∧
      fX11_plan_b227 g2 sI (nI n) (nI p) (oI q) best bA bB wA wB = some (if best = -1 ∨ ¬ best ≤ nI r then .inl (g2', nI r, wA, wB, wB + 1) else .inl (g2', best, bA, bB, wB + 1)) := by
  have hP := hb.ps h.1
  have hv12 := hP.nv12
  have hrs : RS 0 g1 g2 := by
    obtain ⟨t', k1, k2, k3, k4⟩ := h.rs
    exact ⟨t', k1, (hb.1 9 0 0 4 (by omega) (by decide) (by decide) (by decide)).trans k2, by rw [hb.2.1 0 (by decide) (by decide) (by decide) (by decide)]; exact k3, k4.off (funext fun j => hb.1 6 t' 0 j (by omega) (by decide) (by decide) (by decide)) (funext fun j => hb.1 7 t' 0 j (by omega) (by decide) (by decide) (by decide)) (hb.2.1 7 (by decide) (by decide) (by decide) (by decide)) (hb.2.1 8 (by decide) (by decide) (by decide) (by decide))⟩
  have hvb : VB 0 g1 nv := fun v hv => by
    obtain ⟨e, he, ee⟩ := h.2.1 v hv
    exact ⟨e, he, (hb.1 19 0 v 2 (by omega) (by decide) (by decide) (by decide)).trans ee⟩
  have hcb : CB 0 nv t g1 := fun v hv c hc' => by
    obtain ⟨e, he, ee⟩ := hc v hv c hc'
    exact ⟨e, he, (hb.1 21 0 v c (by omega) (by decide) (by decide) (by decide)).trans ee⟩
  obtain ⟨g3, b1, b2, b3, b4, b5⟩ := become_pr hP hrs hvb
  have e34 : ∀ v : Nat, (30 : Int32) * nI v + 4 = nI (30 * v + 4) := fun v => by simp only [li_0, li_1, li_2, li_3, li_4, li_5, li_6, li_7, li_8, li_9, li_10, li_11, li_12, li_13, li_14, li_15, li_16, li_17, li_18, li_19, li_30, li_32, li_40, li_41, li_42, li_43, li_45, li_48, li_57, li_59, li_60, li_61, li_63, li_97, li_99, li_122, li_160, li_200, li_255, li_256, li_257, li_258, li_259, li_360, li_460, li_462, li_470, li_475, li_480, li_481, li_482, li_483, li_484, li_490, li_496, li_510, li_999, li_9999, li_10000, li_10008, li_10009, li_10010, li_10011, li_10012, li_10013, li_10014, li_10015, li_10016, li_100000, nI_mul, nI_add]
  have k1 := b2.set (x := wA) (ix_v5 (nf := nf) (ns := ns) hp) (b2.2.2.2.2.1.wish hp vA)
  have t480 : g2 1 0 0 480 = nI t := (hb.2.2.1 480 (by omega)).trans ht
  unfold fX10_lateWith fX11_plan_b227
  rw [b1, wBd_e, wGi_ok (by omega) (by omega), nI_clamp (by omega), e34, wGi_ok (by omega) (by omega), nI_clamp (by omega)]
  simp only [wLe_e]
  have rs1 : ∀ a1 a2 : Mm, (∀ t, t ≠ 19 → a1 t = g3 t) → (∀ t, t ≠ 1 → a2 t = g2 t) → RS 1 a1 a2 := fun a1 a2 x1 x2 => by
    obtain ⟨t', k1, k2, k3, k4⟩ := b4
    exact ⟨t', k1, by rw [x1 9 (by decide)]; exact k2, by rw [x2 0 (by decide)]; exact k3, k4.off (by rw [x1 6 (by decide)]) (by rw [x1 7 (by decide)]) (x2 7 (by decide)) (x2 8 (by decide))⟩
  have vb1 : ∀ a1 : Mm, (∀ v, a1 19 1 v 2 = g3 19 1 v 2) → VB 1 a1 nv := fun a1 x1 v hv => by
    obtain ⟨e, he, ee⟩ := b5 v hv
    exact ⟨e, he, (x1 v).trans ee⟩
  have cb1 : ∀ a1 : Mm, (∀ t, t ≠ 19 → a1 t = g3 t) → CB 1 nv t a1 := fun a1 x1 v hv c hc' => by
    obtain ⟨e, he, ee⟩ := hcb.of hP b2 v hv c hc'
    exact ⟨e, he, by rw [x1 21 (by decide)]; exact ee⟩
  cases q with
  | none =>
    have z : oI none = (-1 : Int32) := rfl
    rw [z, if_pos (show (-1 : Int32) < 0 by decide), if_pos rfl]
    exact ticks_row h ht hn htn hb k1 (rs1 _ _ (fun t q => st_kind q) (fun t q => st_kind q)) (vb1 _ fun v => st_ne (by omega)) (cb1 _ fun t q => st_kind q) ((st_ne (by omega)).trans t480) (b3.st (by omega)) (fun t q => st_kind q) sI (nI p) wA (-1) wB (nI p) (-1) best bA bB wA wB
  | some q' =>
    obtain ⟨hq1, hq2⟩ := hq q' rfl
    have z : oI (some q') = nI q' := rfl
    have k2 := k1.set (x := wB) (ix_v5 (nf := nf) (ns := ns) hq1) (k1.2.2.2.2.1.wish hq1 vB)
    rw [z, if_neg (nI_pos (by omega)), if_neg (show ¬ nI q' = (-1 : Int32) from fun e => (nI_m1 (by omega)).mp e), wGi_ok (by omega) (by omega), nI_clamp (by omega), e34, wGi_ok (by omega) (by omega), nI_clamp (by omega)]
    exact ticks_row h ht hn htn hb k2 (rs1 _ _ (fun t q => by rw [st_kind q, st_kind q]) (fun t q => by rw [st_kind q, st_kind q])) (vb1 _ fun v => by rw [st_ne (by omega), st_ne (by omega)]) (cb1 _ fun t q => by rw [st_kind q, st_kind q]) (by rw [st_ne (by omega), st_ne (by omega)]; exact t480) ((b3.st (by omega)).st (by omega)) (fun t q => by rw [st_kind q, st_kind q]) sI (nI p) wA (nI q') wB (nI p) (nI q') best bA bB wA wB
end ROW
theorem cmpm {a b : Nat} (ha : a < 2 ^ 31) (hb : b < 2 ^ 31) : (nI a ≤ nI b + -nI 1) ↔ a < b := by
  rw [← Int32.sub_eq_add_neg, Int32.le_iff_toInt_le, nI_subI hb (by omega), nI_toInt ha]
  omega
theorem m1_1 (k : Nat) : nI k + -nI 1 + 1 = nI (k + 1) + -nI 1 := by
  rw [Int32.add_assoc, Int32.add_comm (-nI 1) 1, ← Int32.add_assoc, nI_1]
theorem wv_of {ns k : Nat} (h : k ≤ ns) : WV ns (nI k + -nI 1) := by
  cases k with
  | zero => exact Or.inl rfl
  | succ k => exact Or.inr ⟨k, by omega, nI_p1 k⟩
/-- a valid row's pair of fits -/
theorem PB.port {gC gR g1 g2 : Mm} {nv nf ns : Nat} (h : R3 gC gR nv nf ns) (k : PB gC gR g1 g2) : g1 9 0 0 1 = nI ns ∧ g2 0 0 0 3 = nI ns := ⟨(k.ps h.1).1.1, (k.ps h.1).2.1.2.2⟩
section ROWS
variable {gC gR : Mm} {nv nf ns t n m p : Nat} {q : Option Nat}
/-- the rows with one wish of the first -/
theorem inner_pr (h : R3 gC gR nv nf ns) (ht : gR 1 0 0 480 = nI t) (ht' : t ≤ 10000) (hc : CB 0 nv t gC) (hn : n ≤ 40) (htn : t + n ≤ 9999) (hp : p < nv) (hq : ∀ q', q = some q' → q' < nv ∧ p ≠ q') {g1 g2 : Mm} (hb : PB gC gR g1 g2) {k : Nat} (hk : k ≤ ns) {best bA bB : Int32} (kp : KP m p gC g1 best bA bB) (wa : WV ns bA) (wb : WV ns bB) (k0 : k = 0 ∨ best ≠ -1) (s0 : g2 5 = gR 5 ∧ g2 0 = gR 0) :
    ∃ g1' g2' best' bA' bB', fX10_plan_L73 g1 (nI m) (nI n) (nI p) (oI q) (if q = none then nI 0 else nI ns) best (nI k + -nI 1) (-nI 1) = some (.inl (g1', best', nI (k + 1) + -nI 1)) ∧ fX11_plan_L181 g2 (nI m) (nI n) (nI p) (oI q) best bA bB (nI k + -nI 1) (-nI 1) = some (.inl (g2', best', bA', bB', nI (k + 1) + -nI 1)) ∧
      PB gC gR g1' g2' ∧ KP m p gC g1' best' bA' bB' ∧ WV ns bA' ∧ WV ns bB' ∧ best' ≠ -1 ∧ g2' 5 = gR 5 ∧ g2' 0 = gR 0 := by
  have hs6 := h.1.ns6
  have hv12 := h.1.nv12
  obtain ⟨L, hL, hL0, eL⟩ : ∃ L : Nat, L ≤ ns ∧ (q = none → L = 0) ∧ (if q = none then nI 0 else nI ns) = nI L := by
    by_cases c : q = none
    · exact ⟨0, by omega, fun _ => rfl, if_pos c⟩
    · exact ⟨ns, Nat.le_refl _, fun e => (c e).elim, if_neg c⟩
  rw [eL]
  have lim : ∀ g2 : Mm, g2 0 0 0 3 = nI ns → ∀ x7 x8 x9 x10 x11 : Int32, fX11_plan_B181 g2 (nI m) (nI n) (nI p) (oI q) x7 x8 x9 x10 x11 = fX11_plan_b197 g2 (nI m) (nI n) (nI p) (oI q) x7 x8 x9 x10 x11 x11 (nI L) := fun g2 e x7 x8 x9 x10 x11 => by
    unfold fX11_plan_B181
    rw [← eL]
    cases q with
    | none => rw [if_pos (show oI none = (-1 : Int32) from rfl), if_pos rfl]; rfl
    | some q' =>
      obtain ⟨hq1, -⟩ := hq q' rfl
      rw [if_neg (show ¬ oI (some q') = (-1 : Int32) from fun e => (nI_m1 (show q' < 2 ^ 31 by omega)).mp e), if_neg (by simp), e]
  obtain ⟨t1, t2, r1, r2, g1', g2', best', bA', bB', c1, c2, c3, c4, c5, c6, c7, c8⟩ := wLp_two (f1 := fun x : Mm × Int32 × Int32 => fX10_plan_B73 x.1 (nI m) (nI n) (nI p) (oI q) (nI L) x.2.1 (nI k + -nI 1) x.2.2) (f2 := fun x : Mm × Int32 × Int32 × Int32 × Int32 => fX11_plan_B181 x.1 (nI m) (nI n) (nI p) (oI q) x.2.1 x.2.2.1 x.2.2.2.1 (nI k + -nI 1) x.2.2.2.2)
    (fun t1 t2 => ∃ g1' g2' best' bA' bB', t1 = .inl (g1', best', nI (k + 1) + -nI 1) ∧ t2 = .inl (g2', best', bA', bB', nI (k + 1) + -nI 1) ∧ PB gC gR g1' g2' ∧ KP m p gC g1' best' bA' bB' ∧ WV ns bA' ∧ WV ns bB' ∧ best' ≠ -1 ∧ g2' 5 = gR 5 ∧ g2' 0 = gR 0)
    (fun j s1 s2 => ∃ g1' g2' best' bA' bB', s1 = (g1', best', nI j + -nI 1) ∧ s2 = (g2', best', bA', bB', nI j + -nI 1) ∧ PB gC gR g1' g2' ∧ KP m p gC g1' best' bA' bB' ∧ WV ns bA' ∧ WV ns bB' ∧ ((k = 0 ∧ j = 0) ∨ best' ≠ -1) ∧ g2' 5 = gR 5 ∧ g2' 0 = gR 0) (L + 1)
    (fun j s1 s2 hj ⟨g1, g2, best, bA, bB, a1, a2, a3, a4, a5, a6, a7, a8, a9⟩ => by
      subst a1; subst a2
      left
      have hP' := a3.ps h.1
      obtain ⟨n1, n2⟩ := a3.port h
      have wA : WV ns (nI k + -nI 1) := wv_of hk
      have wB : WV ns (nI j + -nI 1) := wv_of (by omega)
      obtain ⟨y, y1, y2, y3, -⟩ := sit_pr hP' hp wA
      dsimp only
      rw [lim g2 n2]
      unfold fX10_plan_B73 fX11_plan_b197
      have nl : ¬ nI L ≤ nI j + -nI 1 := fun z => by
        rw [cmpm (by omega) (by omega)] at z
        omega
      rw [if_neg nl, if_neg nl, y2, wBd_e, y3, wBd_e]
      -- a row that doesn't fit
      have skip : ((k = 0 ∧ j + 1 = 0) ∨ best ≠ -1) → ∃ s1' s2', fX10_plan_b161 g1 (nI m) (nI n) (nI p) (oI q) (nI L) best (nI k + -nI 1) (nI j + -nI 1) = some (.inl s1') ∧ fX11_plan_b315 g2 (nI m) (nI n) (nI p) (oI q) best bA bB (nI k + -nI 1) (nI j + -nI 1) = some (.inl s2') ∧ ∃ g1' g2' best' bA' bB', s1' = (g1', best', nI (j + 1) + -nI 1) ∧ s2' = (g2', best', bA', bB', nI (j + 1) + -nI 1) ∧ PB gC gR g1' g2' ∧ KP m p gC g1' best' bA' bB' ∧ WV ns bA' ∧ WV ns bB' ∧ ((k = 0 ∧ j + 1 = 0) ∨ best' ≠ -1) ∧ g2' 5 = gR 5 ∧ g2' 0 = gR 0 := fun z => by
        unfold fX10_plan_b161 fX11_plan_b315
        rw [wLe_e, wLe_e, m1_1]
        exact ⟨_, _, rfl, rfl, g1, g2, best, bA, bB, rfl, rfl, a3, a4, a5, a6, z, a8, a9⟩
      -- a row that fits
      have row : ∃ s1' s2', fX10_plan_b116 g1 (nI m) (nI n) (nI p) (oI q) (nI L) best (nI k + -nI 1) (nI j + -nI 1) = some (.inl s1') ∧ fX11_plan_b227 g2 (nI m) (nI n) (nI p) (oI q) best bA bB (nI k + -nI 1) (nI j + -nI 1) = some (.inl s2') ∧ ∃ g1' g2' best' bA' bB', s1' = (g1', best', nI (j + 1) + -nI 1) ∧ s2' = (g2', best', bA', bB', nI (j + 1) + -nI 1) ∧ PB gC gR g1' g2' ∧ KP m p gC g1' best' bA' bB' ∧ WV ns bA' ∧ WV ns bB' ∧ ((k = 0 ∧ j + 1 = 0) ∨ best' ≠ -1) ∧ g2' 5 = gR 5 ∧ g2' 0 = gR 0 := by
        obtain ⟨g3, r, l1, hr, g4, l2, l3, l4, l5, l6⟩ := row_pr h ht ht' hc hn htn hp hq a3 wA wB (nI m) best bA bB
        have nr : nI r ≠ (-1 : Int32) := fun e => (nI_m1 hr).mp e
        unfold fX10_plan_b116 fX10_plan_b143 fX10_plan_b161
        rw [l1, wB2_e, l6]
        -- the row is the best so far
        have bet : ∃ s1' s2', (wBd (fX2_keep g3 (nI m) (nI p) (nI k + -nI 1) (nI j + -nI 1)) fun g35 => wLe (nI j + -nI 1 + 1) fun y26 => some (.inl (g35, nI r, y26)) : Option ((Mm × Int32 × Int32) ⊕ ((Mm × Int32 × Int32) ⊕ (Mm × Int32)))) = some (.inl s1') ∧ (some (.inl (g4, nI r, nI k + -nI 1, nI j + -nI 1, nI j + -nI 1 + 1)) : Option ((Mm × Int32 × Int32 × Int32 × Int32) ⊕ ((Mm × Int32 × Int32 × Int32 × Int32) ⊕ (Mm × Int32)))) = some (.inl s2') ∧ ∃ g1' g2' best' bA' bB', s1' = (g1', best', nI (j + 1) + -nI 1) ∧ s2' = (g2', best', bA', bB', nI (j + 1) + -nI 1) ∧ PB gC gR g1' g2' ∧ KP m p gC g1' best' bA' bB' ∧ WV ns bA' ∧ WV ns bB' ∧ ((k = 0 ∧ j + 1 = 0) ∨ best' ≠ -1) ∧ g2' 5 = gR 5 ∧ g2' 0 = gR 0 := by
          unfold fX2_keep
          rw [wLe_e, wLe_e, wLe_e, wLe_e, wBd_e, wLe_e, m1_1]
          refine ⟨_, _, rfl, rfl, _, g4, nI r, _, _, rfl, rfl, ⟨fun t i' v j q q8 q18 q23 => ?_, l2.2⟩, Or.inr ⟨⟨r, hr, rfl⟩, ?_, ?_, ?_, ?_⟩, wA, wB, Or.inr nr, l4.trans a8, l5.trans a9⟩
          · rw [st_kind q23, st_kind q23, st_kind q23, st_kind q23]
            exact l2.1 t i' v j q q8 q18 q23
          · simp (disch := omega) only [st_ne, st_eq]
          · simp (disch := omega) only [st_ne, st_eq]
          · simp (disch := omega) only [st_ne, st_eq]
          · simp (disch := omega) only [st_ne, st_eq]
        by_cases c : best = -1
        · rw [if_pos (a4.lt.mpr c), if_pos (Or.inl c)]
          exact bet
        · rw [if_neg (fun z => c (a4.lt.mp z))]
          by_cases d : best ≤ nI r
          · rw [if_pos d, if_neg (show ¬ (best = -1 ∨ ¬ best ≤ nI r) from fun q => q.elim c fun z => z d), wLe_e, m1_1]
            refine ⟨_, _, rfl, rfl, g3, g4, best, bA, bB, rfl, rfl, l2, ?_, a5, a6, Or.inr c, l4.trans a8, l5.trans a9⟩
            rcases a4 with ⟨z, -⟩ | ⟨z1, z2, z3, z4, z5⟩
            · exact (c z).elim
            · exact Or.inr ⟨z1, by rw [l3]; exact z2, by rw [l3]; exact z3, by rw [l3]; exact z4, by rw [l3]; exact z5⟩
          · rw [if_neg d, if_pos (Or.inr d)]
            exact bet
      rcases y1 with rfl | rfl
      · rw [if_pos rfl, if_pos rfl]
        refine skip (Or.inr ?_)
        rcases a7 with ⟨rfl, rfl⟩ | z
        · -- no wish always fits
          have : fX4_fits g1 0 (nI p) (nI 0 + -nI 1) = some 1 := rfl
          rw [this] at y2
          exact absurd y2 (by decide)
        · exact z
      · rw [if_neg c10, if_neg c10]
        cases q with
        | none =>
          rw [if_pos (show oI none < (0 : Int32) by decide), if_pos (show oI none = (-1 : Int32) from rfl)]
          exact row
        | some q' =>
          obtain ⟨hq1, hq2⟩ := hq q' rfl
          obtain ⟨y, y1, y2, y3, -⟩ := sit_pr hP' hq1 wB
          have z : oI (some q') = nI q' := rfl
          rw [if_neg (show ¬ oI (some q') < (0 : Int32) from nI_pos (show q' < 2 ^ 31 by omega)), if_neg (show ¬ oI (some q') = (-1 : Int32) from fun e => (nI_m1 (show q' < 2 ^ 31 by omega)).mp e), z, y2, wBd_e, y3, wBd_e]
          rcases y1 with rfl | rfl
          · rw [if_pos rfl, if_pos rfl]
            refine skip (Or.inr ?_)
            rcases a7 with ⟨rfl, rfl⟩ | z
            · have : fX4_fits g1 0 (nI q') (nI 0 + -nI 1) = some 1 := rfl
              rw [this] at y2
              exact absurd y2 (by decide)
            · exact z
          · rw [if_neg c10, if_neg c10]
            exact row)
    (fun s1 s2 ⟨g1, g2, best, bA, bB, a1, a2, a3, a4, a5, a6, a7, a8, a9⟩ => by
      subst a1; subst a2
      obtain ⟨n1, n2⟩ := a3.port h
      dsimp only
      rw [lim g2 n2]
      unfold fX10_plan_B73 fX11_plan_b197
      rw [if_pos ((cmpm (by omega) (by omega)).mpr (by omega)), if_pos ((cmpm (by omega) (by omega)).mpr (by omega)), wLe_e, wLe_e, m1_1, wEx_e, wEx_e]
      exact ⟨_, _, rfl, rfl, g1, g2, best, bA, bB, rfl, rfl, a3, a4, a5, a6, a7.resolve_left (by omega), a8, a9⟩)
    (k := 0) (Nat.zero_le _) (s1 := (g1, best, -nI 1)) (s2 := (g2, best, bA, bB, -nI 1)) ⟨g1, g2, best, bA, bB, rfl, rfl, hb, kp, wa, wb, by rcases k0 with q | q; exact Or.inl ⟨q, rfl⟩; exact Or.inr q, s0.1, s0.2⟩ (u1 := 1000) (u2 := 1000) (by omega) (by omega)
  subst c1; subst c2
  exact ⟨g1', g2', best', bA', bB', r1, r2, c3, c4, c5, c6, c7, c8⟩
end ROWS
