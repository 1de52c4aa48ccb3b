-- ===== the law's beginning =====
section LB
variable {p : Program} {l : Launch} {e : Env} {s : State} {m : MethodId} {below : List Frame} {meth : Method} {c : Code} {H : Heap} {locs : List Loc} {Q : State → Prop} {b L : Nat} {xs : Nat → Int32} {kC kR : En} {cells slots cells' slots' : Nat}
variable {kd : Nat → Nat} {en : En → Nat → (Nat → Int32) → va_E} {nc pc : Nat} {ls : Array Slot} {rest : List Value} {k : En}
theorem lw_new0 (X : Lw p l s m meth c b L xs kC kR) (hS : va_S (fun q => s.heap.size ≤ q) s.heap H locs) (hk : k.2 = kC.2) (hz : H.size = k.1) {C : String} {T : u_T} {ty : Nat → FieldType} {N ci idx t : Nat} {fs : List Value} (hkd : kd 0 = t) (he : en k t (fun _ => 0) = .inr (ci, fs)) (hcl : classes[ci]? = some (C, T, N)) (hin : ∀ w ∈ u_ws C T N, w ∈ Gt) (hty : ∀ k, k < N → parseFieldDescriptor (T k).2.2.1 = some (ty k)) (hdf : ∀ j, j < N → vp_V fs j = defaultValue (ty j))
    (hl : Cond.classLink "WingPortLaw" idx C ∈ Gt) (hi : Cond.instantiable C N ∈ Gt) (hini : Cond.initialized C ∈ Gt) (hcs : cells' = cells + 1) (hss : slots' = slots + N) (hR : cells' ≤ room_1.cells ∧ slots' ≤ room_1.slots) (hd : decode code pc = .ok (.new idx, 3))
    (kk : ∀ (H1 : Heap), Wd (YK kd en nc) (fun c => c < 1) k (nw g_0 0) H1 → va_S (fun q => s.heap.size ≤ q) s.heap H1 locs → H1.size = k.1 + 1 → (∀ q, q < H.size → H1[q]? = H[q]?) → W p l e room_1 s m #[Value.ref b] below meth c H1 locs cells' slots' Q (F0 m (pc + 3) ls (.ref k.1 :: rest))) : W p l e room_1 s m #[Value.ref b] below meth c H locs cells slots Q (F0 m pc ls rest) := by
  obtain ⟨o1, k1⟩ := k
  have hk : k1 = kC.2 := hk
  subst hk
  subst hcs; subst hss
  refine W.newc X.x X.bb X.o (X.t _ hl) (X.t _ hi) (X.t _ hini) rfl hd hR.1 hR.2 fun cC kC' f1 f2 f3 f4 => ?_
  have h0 := X.2.1.1.1 ci _ hcl
  have ec : cC = kC.2.1.1 ci := Option.some.inj (f1.symm.trans h0.2.1)
  subst ec
  generalize hH1 : H.push ({ cls := kC.2.1.1 ci, slots := kC'.instanceTypes.map defaultValue, vm := .none } : Cell) = H1
  have z1 : H1.size = H.size + 1 := by rw [← hH1, Array.size_push]
  have e1 : H1[H.size]? = some (blank (kC.2.1.1 ci) kC') := by rw [← hH1, Array.getElem?_push_size]; rfl
  have o1' : ∀ q : Nat, q < H.size → H1[q]? = H[q]? := fun q hq => by rw [← hH1, Array.getElem?_push, if_neg (Nat.ne_of_lt hq)]
  have hb := u_born ty X.t hin h0 f2 e1 hty
  have hz : H.size = o1 := hz
  rw [hz] at hb
  have key := kk H1 (fun t' i v hs hi' hv => by
    have e0 : t' = 0 := by have : t' < 1 := hs; omega
    subst e0
    have e2 : nw g_0 0 0 i v = fun _ => 0 := by funext j; simp [nw]
    rw [e2]
    show va_at kC.2.1 classes (o1 + 0, en (o1, kC.2) (kd 0) (fun _ => 0)) H1
    rw [hkd, he]
    exact ⟨_, hcl, hb.to fun j hj => (hdf j hj).symm⟩) ⟨by rw [z1]; exact Nat.le_succ_of_le hS.1, fun q q1 q2 => (o1' q (Nat.lt_of_lt_of_le q1 hS.1)).trans (hS.2.1 q q1 q2), hS.2.2⟩ (by rw [z1, hz]) o1'
  rw [hz]
  exact key
theorem lw_init (X : Lw p l s m meth c b L xs kC kR) (hS : va_S (fun q => s.heap.size ≤ q) s.heap H locs) (hk : k.2 = kC.2) {n n1 : Nat} {g g1 : Mm} (hz : H.size = k.1 + n) (hge : s.heap.size ≤ k.1) (hw : Wd (YK kd en nc) (fun c => c < n) k g H) {y : MethodName} {bytes : ByteArray} {maxL na idx mc ms : Nat} {rm : Room} {b0 : Nat} {As st0 : List Value} (hM : MtD l y bytes maxL rm mc ms (YK kd en nc) k n (.ref b0 :: As) g n1 g1) (hf : Miv y bytes maxL na)
    (hl : Cond.methodLink "WingPortLaw" idx y ∈ Gt) (hc0 : rm.cells = mc ∧ rm.slots = ms) (hR : rm.frames + 1 ≤ room_1.frames ∧ 8 + (maxL + 11) + rm.locals ≤ room_1.locals) (hn : As.length = na) {l0 : List (Nat × Value)} (hls : lv_has ls 4 l0) (hst : st0 = As.reverse ++ .ref b0 :: rest) (hcat : (rest.map fun v => v.category).sum ≤ 8) (hcs : cells' = cells + mc) (hss : slots' = slots + ms) (hcR : cells' ≤ room_1.cells ∧ slots' ≤ room_1.slots) (hd : decode code pc = .ok (.invokespecial idx, 3))
    (kk : ∀ (H1 : Heap) (locs : List Loc), Wd (YK kd en nc) (fun c => c < n1) k g1 H1 → va_S (fun q => s.heap.size ≤ q) s.heap H1 locs → H1.size = k.1 + n1 → (∀ q, q < H.size → q < k.1 → H1[q]? = H[q]?) → W p l e room_1 s m #[Value.ref b] below meth c H1 locs cells' slots' Q (F0 m (pc + 3) ls rest)) : W p l e room_1 s m #[Value.ref b] below meth c H locs cells slots Q (F0 m pc ls st0) := by
  obtain ⟨o1, k1⟩ := k
  have hk : k1 = kC.2 := hk
  subst hk
  subst hcs; subst hss
  obtain ⟨f1, f3, f4, f5, f6⟩ := hf
  have cb := callB_of (R := room_1) (own := "WingPortLaw") (index := idx) (rm := rm) (mc := mc) (ms := ms) na X.t (gt_in f4) rfl hc0.1 hc0.2 (X.t _ f3) (X.t _ hl) f5 hR
  have hr := va_runI (p := p) (l := l) (e := e) (below := below) (meth := meth) (H := H) (locs := locs) (cells := cells) (slots := slots) (g := F0 m pc ls st0) (rest := rest) X.1 hM ⟨cb, f6, X.t _ f1⟩ ⟨PreD.blind, fun U hU hW => ⟨rfl, by rw [hU]; exact hw, KD.moved hW.alike X.2.1, by rw [hU]; exact ((X.2.2.1.warm hW).kept (fun a q1 q2 => hS.2.1 a q1 (fun z => absurd q1 (Nat.not_lt.mpr z)))).narrow (fun q z => by show kC.1 ≤ q; rw [X.2.2.2.1]; exact Nat.le_trans hge z), by rw [hU]; exact hz⟩⟩ rfl hn hls.1 hst (lv_room hcat) hd hcR
  intro T hT XX
  obtain ⟨v, st₀, t, T', L', h0, X', hL, e1, e2, ⟨hv, hw', ⟨hz', hk'⟩, hsz⟩, stp⟩ := hr T hT XX
  cases hv
  rw [h0] at hz' hk'
  obtain ⟨t2, a1, b1⟩ := kk T'.heap (locs ++ L') (by rw [e1]; exact hw') ⟨Nat.le_trans hS.1 (by rw [e1]; exact hz'), fun q q1 q2 => by
      rw [e1, hk' q (Nat.lt_of_lt_of_le q1 hS.1) (fun z => by have z : o1 ≤ q := z; have hge : s.heap.size ≤ o1 := hge; omega)]
      exact hS.2.1 q q1 q2, fun q hq => by
      rcases List.mem_append.mp hq with z | z
      · exact hS.2.2 q z
      · exact Nat.le_trans hge (hL q z)⟩ (by rw [e1]; exact hsz) (fun q q1 q2 => by
      rw [e1]
      exact hk' q q1 (fun z => by have z : o1 ≤ q := z; have q2 : q < o1 := q2; omega)) T' rfl X'
  exact ⟨t2, stp t2 a1, b1⟩
end LB
