theorem lw_classes {args : Array Value} {s : State} (hts : ∀ w ∈ Gt, w.before args s = true) : ∃ D : va_G, ∀ (c : Nat) (q : vw_C), classes[c]? = some q → u_Kn s q.1 q.2.1 q.2.2 (D.1 c) (D.2 c) := by
  have mk : ∀ {C : String} {T : u_T} {N : Nat}, (∃ (cC : ClassId) (iS : Nat → Nat), u_Kn s C T N cC iS) → ∃ d : ClassId × (Nat → Nat), ∀ q : vw_C, some (C, T, N) = some q → u_Kn s q.1 q.2.1 q.2.2 d.1 d.2 := fun h => by
    obtain ⟨cC, iS, h⟩ := h
    exact ⟨(cC, iS), fun q e => by cases e; exact h⟩
  have h0 : ∀ c : Nat, ∃ d : ClassId × (Nat → Nat), ∀ q : vw_C, classes[c]? = some q → u_Kn s q.1 q.2.1 q.2.2 d.1 d.2 := by
    intro c
    match c with
    | 0 => exact mk (u_known hts iX0 (hts _ in_X0))
    | 1 => exact mk (u_known hts iX1 (hts _ in_X1))
    | 2 => exact mk (u_known hts iX2 (hts _ in_X2))
    | 3 => exact mk (u_known hts iX4 (hts _ in_X4))
    | 4 => exact mk (u_known hts iX5 (hts _ in_X5))
    | 5 => exact mk (u_known hts iX6 (hts _ in_X6))
    | 6 => exact mk (u_known hts iX7 (hts _ in_X7))
    | 7 => exact mk (u_known hts iX8 (hts _ in_X8))
    | 8 => exact mk (u_known hts iX9 (hts _ in_X9))
    | 9 => exact mk (u_known hts iX10 (hts _ in_X10))
    | 10 => exact mk (u_known hts iX11 (hts _ in_X11))
    | c + 11 => exact ⟨((mk (u_known hts iX0 (hts _ in_X0))).choose.1, fun _ => 0), fun q e => by
        have h1 := (List.getElem?_eq_some_iff.mp e).1
        have h2 : classes.length = 11 := rfl
        omega⟩
  obtain ⟨d, hd⟩ := Classical.axiomOfChoice h0
  exact ⟨(fun c => (d c).1, fun c => (d c).2), fun c q hq => hd c q hq⟩
theorem lw_arrays {args : Array Value} {s : State} (hts : ∀ w ∈ Gt, w.before args s = true) (hao : ∀ C ∈ aoL, (Cond.arrayOver (.object C)).before args s = true) : ∃ cA : Nat → ClassId, ∀ k : En, k.2.2.1 = cA → ∀ (i : Nat) (q : ClassId × FieldType), (tysOf k)[i]? = some q → ArrOfT s q.1 q.2 ∧ va_RA s q.1 q.2 := by
  have obj : ∀ C ∈ aoL, ∃ cA : ClassId, ArrOfT s cA (.object C) ∧ va_RA s cA (.object C) := fun C hC => by
    obtain ⟨comp, c, k, f1, f2, f3, f4, f5⟩ := Cond.arrayOver_spec (hao C hC)
    exact ⟨c, fun n z => ⟨fun k h => (by cases h), k, f3, comp, f4⟩, k, comp, f3, f4, f1, f5⟩
  obtain ⟨c0, k0, comp0, g1, g2, g3⟩ := Cond.arrayClass_spec (hts _ arr_int)
  obtain ⟨c1, a1⟩ := obj "WingPort$Rule" arr_1
  obtain ⟨c2, a2⟩ := obj "WingPort$Visit" arr_2
  obtain ⟨c3, a3⟩ := obj "WingPort$Feed" arr_3
  obtain ⟨c4, a4⟩ := obj "WingPort$Sheet" arr_4
  refine ⟨fun i => [c0, c1, c2, c3, c4].getD i c0, fun k e i q hk => ?_⟩
  unfold tysOf at hk
  rw [e] at hk
  match i, hk with
  | 0, hk =>
    cases hk
    exact ⟨fun n z => ⟨fun k h => (by cases h), k0, g2, comp0, g3⟩, g1⟩
  | 1, hk => cases hk; exact a1
  | 2, hk => cases hk; exact a2
  | 3, hk => cases hk; exact a3
  | 4, hk => cases hk; exact a4
  | i + 5, hk =>
    have h1 := (List.getElem?_eq_some_iff.mp hk).1
    simp only [List.length_cons, List.length_nil] at h1
    omega
theorem lw_statics {b : Nat} {s : State} {A : Nat → Prop} (hts : ∀ w ∈ lw_tbl, w.before #[Value.ref b] s = true) (hgv : (Jvm.Cond.and given_1 narrow_1).before #[Value.ref b] s = true) (hA : ∀ a : Nat, a < s.heap.size → ¬ A a) : ∃ ad : Nat → Nat, ∀ (q : Nat) (r : String × String × List Int32), sT[q]? = some r → va_Z r.1 r.2.1 "[I" (.ref (ad q)) A s s.heap ∧ va_T .int (ad q) r.2.2.length (fun j => .int (r.2.2.getD j 0)) A s s.heap := by
  have h0 : ∀ q : Nat, ∃ a : Nat, ∀ r : String × String × List Int32, sT[q]? = some r → va_Z r.1 r.2.1 "[I" (.ref a) A s s.heap ∧ va_T .int a r.2.2.length (fun j => .int (r.2.2.getD j 0)) A s s.heap := by
    intro q
    cases e : sT[q]? with
    | none => exact ⟨0, fun r h => by cases h⟩
    | some r =>
      have hr := List.mem_of_getElem? e
      obtain ⟨t, ht, hT⟩ := va_Tof (f := fun j => .int (r.2.2.getD j 0)) (A := A) (sT_s r hr) (nv_in hgv (sT_a r hr)) (va_eqt (nv_in hgv (sT_n r hr))) (fun j hj => va_eqt (nv_in hgv (sT_e q r e j hj))) hA
      exact ⟨t, fun r' h => by cases h; exact ⟨va_Zof (hts _ (sT_l r hr)) (hts _ (sT_i r hr)) ht hA, hT⟩⟩
  exact Classical.axiomOfChoice h0
theorem lw_strings {b : Nat} {s : State} {A : Nat → Prop} (hts : ∀ w ∈ lw_tbl, w.before #[Value.ref b] s = true) (hgv : (Jvm.Cond.and given_1 narrow_1).before #[Value.ref b] s = true) (hA : ∀ a : Nat, a < s.heap.size → ¬ A a) : ∃ adK adV : Nat → Nat, vk_S 3 kL kB adK adV A s s.heap ∧ ∀ (q : Nat) (r : String × Nat × String), kS[q]? = some r → vk_R r.1 r.2.1 r.2.2 (adK q) s := by
  obtain ⟨adK, adV, h1, h2⟩ := vk_Sof (args := #[Value.ref b]) (s := s) (N := 3) (tm := kT) (len := kL) (byt := kB) (A := A) kS_s (fun i hi => nv_in hgv (kS_x i hi)) (fun i hi => nv_in hgv (kS_c i hi)) (fun i hi => nv_in hgv (kS_a i hi)) (fun i hi => nv_in hgv (kS_n i hi)) (fun i hi j hj => nv_in hgv (kS_e i hi j hj)) (fun i j hi hj hij => (kS_d i hi j hj hij).imp (fun h => nv_in hgv h) (fun h => nv_in hgv h)) hA
  refine ⟨adK, adV, h1, fun q r hr => ?_⟩
  have hq : q < 3 := (List.getElem?_eq_some_iff.mp hr).1
  have hv := h2 q hq
  have e : kT q = .string r.1 r.2.1 := by unfold kT; rw [hr]
  rw [e] at hv
  exact vk_R.of (hts _ (kS_r r (List.mem_of_getElem? hr))) hv
theorem lw_X {p : Program} {l : Launch} {s : State} {m : MethodId} {meth : Method} {c : Code} {b L : Nat} {xs : Nat → Int32} (hL : L ≤ 3072) (C0 : lw_At p s m meth c b L xs) : ∃ kC kR : En, Lw p l s m meth c b L xs kC kR := by
  obtain ⟨hx, hb, hr, hml, hown, hts, hX, hbl, hlocks, hgv⟩ := C0
  have htg : ∀ w ∈ Gt, w.before #[Value.ref b] s = true := fun w hw => hts w (gt_tbl hw)
  have hao : ∀ C ∈ aoL, (Cond.arrayOver (.object C)).before #[Value.ref b] s = true := fun C hC => hts _ (ao_in C hC)
  have hA : ∀ a : Nat, a < s.heap.size → ¬ s.heap.size ≤ a := fun a h q => absurd h (Nat.not_lt.mpr q)
  obtain ⟨D, hD⟩ := lw_classes htg
  obtain ⟨cA, hcA⟩ := lw_arrays htg hao
  obtain ⟨ad, had⟩ := lw_statics (A := fun q => s.heap.size ≤ q) hts hgv hA
  obtain ⟨adK, adV, hS, hR⟩ := lw_strings (A := fun q => s.heap.size ≤ q) hts hgv hA
  have hZ : va_Z "java/lang/String" "COMPACT_STRINGS" "Z" (.int 1) (fun q => s.heap.size ≤ q) s s.heap := va_Zof (hts _ (by decide +kernel)) (hts _ (by decide +kernel)) (va_eqt (nv_in hgv (by decide +kernel))) hA
  have hQ : va_Zq "jdk/internal/util/Preconditions" "SIOOBE_FORMATTER" "Ljava/util/function/BiFunction;" (fun q => s.heap.size ≤ q) s s.heap := va_Zqof (hts _ (by decide +kernel)) (hts _ (by decide +kernel)) (nv_in hgv (by decide +kernel)) hA
  exact ⟨(s.heap.size, D, cA, ad, adK, adV), (s.heap.size + 167, D, cA, ad, adK, adV), ⟨hx, hb, hml, hown, htg⟩, ⟨⟨hD, hcA _ rfl⟩, fun C hC => va_AO.of (hao C hC)⟩, ⟨had, hS, hR, hZ, hQ⟩, rfl, rfl, hX, hbl, hL, hr, hlocks⟩
