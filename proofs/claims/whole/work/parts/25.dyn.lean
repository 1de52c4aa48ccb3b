-- ===== the world while it is made: cells in the order of their making; references are numbers too (0: null, c + 1: cell c) =====
def rD (k : En) (x : Int32) : Value := if x.toNatClampNeg = 0 then .null else .ref (k.1 + (x.toNatClampNeg - 1))
def rO (k : En) (x : Int32) : Option Nat := if x.toNatClampNeg = 0 then none else some (k.1 + (x.toNatClampNeg - 1))
/-- a layout by the cells' kinds -/
abbrev YK (kd : Nat → Nat) (en : En → Nat → (Nat → Int32) → va_E) (nc : Nat) : Ly := (fun t _ _ => t, fun t => if t < nc then (1, 1) else (0, 0), fun k t _ _ r => en k (kd t) r)
theorem okK (kd : Nat → Nat) (en : En → Nat → (Nat → Int32) → va_E) (nc : Nat) : Okl (YK kd en nc) := by
  intro t i v t' i' v' hi hv hi' hv' e
  have e : t = t' := e
  subst e
  have h1 : ∀ z : Nat, z < (if t < nc then ((1, 1) : Nat × Nat) else (0, 0)).1 → z = 0 := fun z hz => by split at hz <;> simp at hz; exact hz
  have h2 : ∀ z : Nat, z < (if t < nc then ((1, 1) : Nat × Nat) else (0, 0)).2 → z = 0 := fun z hz => by split at hz <;> simp at hz; exact hz
  exact ⟨rfl, (h1 _ hi).trans (h1 _ hi').symm, (h2 _ hv).trans (h2 _ hv').symm⟩
theorem yk1 {kd : Nat → Nat} {en : En → Nat → (Nat → Int32) → va_E} {nc t : Nat} (h : t < nc) : 0 < ((YK kd en nc).2.1 t).1 := by
  show 0 < (if t < nc then ((1, 1) : Nat × Nat) else (0, 0)).1
  rw [if_pos h]; exact Nat.one_pos
theorem yk2 {kd : Nat → Nat} {en : En → Nat → (Nat → Int32) → va_E} {nc t : Nat} (h : t < nc) : 0 < ((YK kd en nc).2.1 t).2 := by
  show 0 < (if t < nc then ((1, 1) : Nat × Nat) else (0, 0)).2
  rw [if_pos h]; exact Nat.one_pos
/-- all from the world's first address on -/
abbrev AU (k : En) (q : Nat) : Prop := k.1 ≤ q
def aoL : List String := ["WingPort$Rule", "WingPort$Visit", "WingPort$Feed", "WingPort$Sheet"]
def KD (k : En) (U : State) : Prop := va_K k.2.1 classes (tysOf k) U ∧ ∀ C ∈ aoL, va_AO C U
theorem KD.moved {k : En} {u U : State} (hvm : u.vm.Alike U.vm) (h : KD k u) : KD k U := ⟨va_K.moved hvm h.1, fun C hC => va_AO.moved hvm (h.2 C hC)⟩
def Hd (Y : Ly) (k : En) (n : Nat) (s : State) (g : Mm) (H : Heap) (locs : List Loc) : Prop := Wd Y (fun c => c < n) k g H ∧ va_S (AU k) s.heap H locs ∧ H.size = k.1 + n
def Cd (k : En) (p : Program) (s : State) (m : MethodId) (args : Array Value) (meth : Method) (c : Code) (cc : ByteArray) (nL : Nat) (own : String) : Prop :=
  CallFix p m c cc nL s args Gt own ∧ KD k s ∧ SE (AU k) k s s.heap ∧ meth.sig.returnType = none ∧ meth.locks = false ∧ meth.name = "<init>"
def PreD (Y : Ly) (k : En) (n : Nat) (g : Mm) (U : State) : Prop := Wd Y (fun c => c < n) k g U.heap ∧ KD k U ∧ SE (AU k) k U U.heap ∧ U.heap.size = k.1 + n
def PostD (Y : Ly) (k : En) (n : Nat) (g : Mm) : Array Value → State → Outcome → State → Prop := fun _ st0 oc t => oc = .returned none ∧ Wd Y (fun c => c < n) k g t.heap ∧ va_F (AU k) st0 t ∧ t.heap.size = k.1 + n
def MtD (l : Launch) (y : MethodName) (cc : ByteArray) (nL : Nat) (rm : Room) (mc ms : Nat) (Y : Ly) (k : En) (n : Nat) (As : List Value) (g : Mm) (n' : Nat) (g' : Mm) : Prop :=
  Met l y (.code y cc nL none :: Gt) rm (va_Pc As (PreD Y k n g)) (PostD Y k n' g') mc ms (AU k)
abbrev FinD (Y : Ly) (k : En) (args : Array Value) (s : State) (below : List Frame) (mc ms : Nat) (n : Nat) (g : Mm) : State → Prop := MQ below (PostD Y k n g) args s mc ms (AU k)
theorem PreD.blind {Y : Ly} {k : En} {n : Nat} {g : Mm} {As : List Value} : FrameBlind (va_Pc As (PreD Y k n g)) := fun a U gf mk q => by
  obtain ⟨rfl, h1, h2, h3, h4⟩ := q
  exact ⟨rfl, h1, KD.moved (u := U) (U := U.calling gf mk _) (Vm.Alike.refl U.vm) h2, h3.blind gf mk _, h4⟩
theorem MtD.of {l : Launch} {y : MethodName} {cc : ByteArray} {nL : Nat} {rm : Room} {mc ms : Nat} {Y : Ly} {k : En} {n : Nat} {As : List Value} {g : Mm} {n' : Nat} {g' : Mm} (hy : plainName y.cls = true) (hy1 : y.name = "<init>") (hn : (lg_sl As).length ≤ nL)
    (body : ∀ (p : Program) (e : Env) (s : State) (m : MethodId) (args : Array Value) (below : List Frame) (meth : Method) (c : Code) (ls : Array Slot), Cd k p s m args meth c cc nL y.cls → Hd Y k n s g s.heap [] → lv_has ls nL (lv_args 0 As) →
      W p l e rm s m args below meth c s.heap [] 0 0 (FinD Y k args s below mc ms n' g') (F0 m 0 ls [])) : MtD l y cc nL rm mc ms Y k n As g n' g' := by
  refine Met.ofW (cc := cc) (maxL := nL) (ret := none) hy rfl ?_
  intro p e s m args below meth c s₁ B hml hv
  obtain ⟨rfl, hW, hK, hE, hz⟩ := hv
  have hts := atoms_spec (ws := .code y cc nL none :: Gt) B.pre
  have hl := lv_entry As (n := nL) hn
  rw [lg_entry_eq]
  exact body p e s m _ below meth c _ ⟨⟨B.exec, B.bytes, hml, findClass_of_methodNamed B.named, fun w hw => hts w (List.mem_cons_of_mem _ hw)⟩, hK, hE, B.returns, B.notSynchronized, by rw [(name_of_methodNamed B.named B.method).1, hy1]⟩ ⟨hW, va_S.rf, hz⟩ hl
/-- a new cell -/
def nw (g : Mm) (n : Nat) : Mm := fun t i v j => if t = n then 0 else g t i v j
section DRows0
variable {p : Program} {l : Launch} {e : Env} {R : Room} {s : State} {m : MethodId} {args : Array Value} {below : List Frame} {meth : Method} {c : Code} {H : Heap} {locs : List Loc} {cells slots : Nat} {Q : State → Prop}
theorem W.putFinG {cc : ByteArray} (hexec : p.tables.exec = Jvm.exec) (hb : c.code = cc) {own ref name desc : String} {index : Nat} (hown : s.vm.findClass own = some m.cls) (hlink : (Cond.fieldLink own index ref name desc).before args s = true)
    {cf i : Nat} {kl : Class} {f : Field} (hi : s.fieldFound? ref name desc = some (cf, kl, i, f)) (hst : f.isStatic = false) (hfin : hasFlag f.accessFlags Acc.final = false ∨ (m.cls = cf ∧ meth.name = "<init>")) {a : Addr} {cell : Cell} {v : Value} (hS : narrow f.type v = v ∧ s.fitsSlot cell.cls .none f.slot v = true)
    (hcell : H[a]? = some cell) (hvm : cell.vm = .none) (hlt : f.slot < cell.slots.size)
    {gf : JFrame} (hg : gf.method = m) {rest : List Value} (hstack : gf.stack = v :: .ref a :: rest) (hdg : decode cc gf.pc = .ok (.putfield index, 3))
    (kk : ∀ H' : Heap, H'[a]? = some (cell.setSlot f.slot v) → H'.size = H.size → (∀ q, q ≠ a → H'[q]? = H[q]?) → W p l e R s m args below meth c H' (locs ++ [⟨a, f.slot⟩]) cells slots Q { gf with pc := gf.pc + 3, stack := rest }) : W p l e R s m args below meth c H locs cells slots Q gf := by
  have ha : a < H.size := (Array.getElem?_eq_some_iff.mp hcell).1
  refine W.putf hexec hb hown hlink hi hst hfin hcell (by rw [hvm]; exact fun h => by cases h) hlt hS.1 (by rw [hvm]; exact hS.2) hg hstack hdg (kk _ ?_ ?_ ?_)
  · simp [Array.getElem?_setIfInBounds, ha]
  · simp
  · intro q hq
    simp [Array.getElem?_setIfInBounds, Ne.symm hq]
theorem ro_cls {own C : String} {T : u_T} {j : Nat} {cf fi : Nat} {kf : Class} {f : Field} (hown : s.vm.findClass own = some m.cls) (hlay : (u_lay C T j).before args s = true) (hi : s.fieldFound? (T j).1 (T j).2.1 (T j).2.2.1 = some (cf, kf, fi, f)) (hdecl : (T j).1 = own) (hin : meth.name = "<init>") : hasFlag f.accessFlags Acc.final = false ∨ (m.cls = cf ∧ meth.name = "<init>") := by
  unfold u_lay at hlay
  rw [hdecl] at hi hlay
  split at hlay
  · obtain ⟨_, _, c', _, _, _, -, -, hf', -, -, -, hown2, -⟩ := Cond.laysFinal_spec hlay
    have e1 : c' = cf := by have := hi.symm.trans hf'; simp at this; exact this.1.symm
    exact Or.inr ⟨by rw [← e1]; exact Option.some.inj (hown.symm.trans hown2), hin⟩
  · obtain ⟨_, _, _, _, _, f2, -, -, hf', -, hnf, -⟩ := Cond.lays_spec hlay
    have e1 : f2 = f := by have := hi.symm.trans hf'; simp at this; exact this.2.2.2.symm
    exact Or.inl (by rw [← e1]; exact hnf)
end DRows0
section DRows
variable {p : Program} {l : Launch} {e : Env} {R : Room} {s : State} {m : MethodId} {args : Array Value} {below : List Frame} {meth : Method} {c : Code} {H : Heap} {locs : List Loc} {cells slots cells' slots' : Nat} {Q : State → Prop}
variable {kd : Nat → Nat} {en : En → Nat → (Nat → Int32) → va_E} {nc : Nat} {k : En} {g : Mm} {cc : ByteArray} {nL pc n : Nat} {own : String} {ls : Array Slot} {rest : List Value}
theorem Cd.x (X : Cd k p s m args meth c cc nL own) : p.tables.exec = Jvm.exec := X.1.1
theorem Cd.b (X : Cd k p s m args meth c cc nL own) : c.code = cc := X.1.2.1
theorem Cd.o (X : Cd k p s m args meth c cc nL own) : s.vm.findClass own = some m.cls := X.1.2.2.2.1
theorem Cd.t (X : Cd k p s m args meth c cc nL own) : ∀ w ∈ Gt, w.before args s = true := X.1.2.2.2.2
theorem Cd.K (X : Cd k p s m args meth c cc nL own) : va_K k.2.1 classes (tysOf k) s := X.2.1.1
theorem Cd.nm (X : Cd k p s m args meth c cc nL own) : meth.name = "<init>" := X.2.2.2.2.2
theorem hd_new (h : Hd (YK kd en nc) k n s g H locs) {H1 : Heap} (hz : H1.size = H.size + 1) (ho : ∀ q, q < H.size → H1[q]? = H[q]?) (hc : n < nc → va_at k.2.1 classes (k.1 + n, en k (kd n) (fun _ => 0)) H1) : Hd (YK kd en nc) k (n + 1) s (nw g n) H1 locs := by
  refine ⟨fun t i v hs hi hv => ?_, ⟨by rw [hz]; exact Nat.le_succ_of_le h.2.1.1, fun q q1 q2 => (ho q (Nat.lt_of_lt_of_le q1 h.2.1.1)).trans (h.2.1.2.1 q q1 q2), h.2.1.2.2⟩, by rw [hz, h.2.2, Nat.add_assoc]⟩
  by_cases e : t = n
  · subst e
    have e1 : nw g t t i v = fun _ => 0 := by funext j; simp [nw]
    rw [e1]
    refine hc ?_
    have hi : i < (if t < nc then ((1, 1) : Nat × Nat) else (0, 0)).1 := hi
    split at hi
    · assumption
    · simp at hi
  · have e1 : nw g n t i v = g t i v := by funext j; simp [nw, e]
    rw [e1]
    have ht : t < n := by have : t < n + 1 := hs; omega
    exact (h.1 t i v ht hi hv).kept (ho _ (by show k.1 + t < H.size; rw [h.2.2]; omega))
/-- a new object -/
theorem rd_new (X : Cd k p s m args meth c cc nL own) (h : Hd (YK kd en nc) k n s g H locs) {C : String} {T : u_T} {ty : Nat → FieldType} {N ci idx t : Nat} {fs : List Value} (hk : kd n = t) (he : en k t (fun _ => 0) = .inr (ci, fs)) (hcl : classes[ci]? = some (C, T, N)) (hin : ∀ w ∈ u_ws C T N, w ∈ Gt) (hty : ∀ k, k < N → parseFieldDescriptor (T k).2.2.1 = some (ty k)) (hdf : ∀ j, j < N → vp_V fs j = defaultValue (ty j))
    (hl : Cond.classLink own idx C ∈ Gt) (hi : Cond.instantiable C N ∈ Gt) (hini : Cond.initialized C ∈ Gt) (hcs : cells' = cells + 1) (hss : slots' = slots + N) (hR : cells' ≤ R.cells ∧ slots' ≤ R.slots) (hd : decode cc pc = .ok (.new idx, 3))
    (kk : ∀ (H : Heap), Hd (YK kd en nc) k (n + 1) s (nw g n) H locs → W p l e R s m args below meth c H locs cells' slots' Q (F0 m (pc + 3) ls (.ref (k.1 + n) :: rest))) : W p l e R s m args below meth c H locs cells slots Q (F0 m pc ls rest) := by
  subst hcs; subst hss
  refine W.newc X.x X.b X.o (X.t _ hl) (X.t _ hi) (X.t _ hini) rfl hd hR.1 hR.2 fun cC kC f1 f2 f3 f4 => ?_
  have h0 := X.K.1 ci _ hcl
  have ec : cC = k.2.1.1 ci := Option.some.inj (f1.symm.trans h0.2.1)
  subst ec
  generalize hH1 : H.push ({ cls := k.2.1.1 ci, slots := kC.instanceTypes.map defaultValue, vm := .none } : Cell) = H1
  have z1 : H1.size = H.size + 1 := by rw [← hH1, Array.size_push]
  have e1 : H1[H.size]? = some (blank (k.2.1.1 ci) kC) := by rw [← hH1, Array.getElem?_push_size]; rfl
  have o1 : ∀ q : Nat, q < H.size → H1[q]? = H[q]? := fun q hq => by rw [← hH1, Array.getElem?_push, if_neg (Nat.ne_of_lt hq)]
  have hb := u_born ty X.t hin h0 f2 e1 hty
  rw [h.2.2] at hb
  have key := kk H1 (hd_new h z1 o1 fun _ => by
    show va_at k.2.1 classes (k.1 + n, en k (kd n) (fun _ => 0)) H1
    rw [hk, he]
    exact ⟨_, hcl, hb.to fun j hj => (hdf j hj).symm⟩)
  rw [← h.2.2] at key
  exact key
/-- a new int array -/
theorem rd_newa (X : Cd k p s m args meth c cc nL own) (h : Hd (YK kd en nc) k n s g H locs) {N t : Nat} (hk : kd n = t) (he : ∀ r, en k t r = .inl (k.2.2.1 0, N, .inl r)) {x : Int32} (hn : ¬ x < 0) (hN : x.toNatClampNeg = N) (hb4 : N * 4 ≤ 536870912)
    (ha : Cond.arrayClass .int ∈ Gt) (hcs : cells' = cells + 1) (hss : slots' = slots + N) (hR : cells' ≤ R.cells ∧ slots' ≤ R.slots) (hd : decode cc pc = .ok (.newarray .int, 2))
    (kk : ∀ (H : Heap), Hd (YK kd en nc) k (n + 1) s (nw g n) H locs → W p l e R s m args below meth c H locs cells' slots' Q (F0 m (pc + 2) ls (.ref (k.1 + n) :: rest))) : W p l e R s m args below meth c H locs cells slots Q (F0 m pc ls (.int x :: rest)) := by
  subst hcs; subst hss; subst hN
  refine W.newa X.x X.b (atype := .int) (X.t _ ha) rfl hd rfl hn hb4 hR.1 hR.2 fun cA kA comp f1 f2 f3 => ?_
  have ec : cA = k.2.2.1 0 := Option.some.inj (f1.symm.trans (X.K.2 0 _ rfl).2)
  subst ec
  generalize hH1 : H.push ({ cls := k.2.2.1 0, slots := Array.replicate x.toNatClampNeg (defaultValue (newarray.typeOf .int)), vm := .none } : Cell) = H1
  have z1 : H1.size = H.size + 1 := by rw [← hH1, Array.size_push]
  have e1 : H1[H.size]? = some (vp_cell (k.2.2.1 0) (x.toNatClampNeg, .inl (fun _ => 0))) := by rw [← hH1, Array.getElem?_push_size, vp_cell_i, ← arrV_new]; rfl
  have o1 : ∀ q : Nat, q < H.size → H1[q]? = H[q]? := fun q hq => by rw [← hH1, Array.getElem?_push, if_neg (Nat.ne_of_lt hq)]
  rw [h.2.2] at e1
  have key := kk H1 (hd_new h z1 o1 fun _ => by
    show va_at k.2.1 classes (k.1 + n, en k (kd n) (fun _ => 0)) H1
    rw [hk, he]
    exact e1)
  rw [← h.2.2] at key
  exact key
/-- a new array of references -/
theorem rd_newq (X : Cd k p s m args meth c cc nL own) (h : Hd (YK kd en nc) k n s g H locs) {C : String} {N t q idx : Nat} (hk : kd n = t) (he : ∀ r, en k t r = .inl (k.2.2.1 q, N, .inr (.inr (.inr (.inr (fun j => rO k (r j))))))) (ht : (tysOf k)[q]? = some (k.2.2.1 q, .object C)) {x : Int32} (hn : ¬ x < 0) (hN : x.toNatClampNeg = N) (hb4 : N * 4 ≤ 536870912)
    (hl : Cond.classLink own idx C ∈ Gt) (ha : C ∈ aoL) (hcs : cells' = cells + 1) (hss : slots' = slots + N) (hR : cells' ≤ R.cells ∧ slots' ≤ R.slots) (hd : decode cc pc = .ok (.anewarray idx, 3))
    (kk : ∀ (H : Heap), Hd (YK kd en nc) k (n + 1) s (nw g n) H locs → W p l e R s m args below meth c H locs cells' slots' Q (F0 m (pc + 3) ls (.ref (k.1 + n) :: rest))) : W p l e R s m args below meth c H locs cells slots Q (F0 m pc ls (.int x :: rest)) := by
  subst hcs; subst hss; subst hN
  refine W.anew X.x X.b X.o (X.t _ hl) (va_AO.use (X.2.1.2 _ ha)) rfl hd rfl hn hb4 hR.1 hR.2 fun cA kA comp f1 f2 f3 f4 => ?_
  obtain ⟨kA', comp', g1, g2, g3, g4⟩ := (X.K.2 q _ ht).2
  have ec : cA = k.2.2.1 q := Option.some.inj (f1.symm.trans g4)
  subst ec
  generalize hH1 : H.push ({ cls := k.2.2.1 q, slots := Array.replicate x.toNatClampNeg .null, vm := .none } : Cell) = H1
  have z1 : H1.size = H.size + 1 := by rw [← hH1, Array.size_push]
  have e1 : H1[H.size]? = some (vp_cell (k.2.2.1 q) (x.toNatClampNeg, .inr (.inr (.inr (.inr (fun _ => none)))))) := by rw [← hH1, Array.getElem?_push_size, vp_cell_q, ← arrV_new]; rfl
  have o1 : ∀ q : Nat, q < H.size → H1[q]? = H[q]? := fun q hq => by rw [← hH1, Array.getElem?_push, if_neg (Nat.ne_of_lt hq)]
  rw [h.2.2] at e1
  have key := kk H1 (hd_new h z1 o1 fun _ => by
    show va_at k.2.1 classes (k.1 + n, en k (kd n) (fun _ => 0)) H1
    rw [hk, he]
    exact e1)
  rw [← h.2.2] at key
  exact key
theorem rd_get (X : Cd k p s m args meth c cc nL own) (h : Hd (YK kd en nc) k n s g H locs) {c0 t ci j idx N : Nat} {C : String} {T : u_T} (hlt : c0 < n ∧ c0 < nc ∧ kd c0 = t) {fs : List Value} (he : en k t (g c0 0 0) = .inr (ci, fs)) (hc : classes[ci]? = some (C, T, N)) (hj : j < N) (hin : ∀ w ∈ u_ws C T N, w ∈ Gt)
    (hl : Cond.fieldLink own idx (T j).1 (T j).2.1 (T j).2.2.1 ∈ Gt) {val : Value} (hval : fs[j]? = some val) (hd : decode cc pc = .ok (.getfield idx, 3))
    (kk : W p l e R s m args below meth c H locs cells slots Q (F0 m (pc + 3) ls (val :: rest))) : W p l e R s m args below meth c H locs cells slots Q (F0 m pc ls (.ref (k.1 + c0) :: rest)) :=
  va_get X.x X.b X.t hin X.o X.K (wd_one (Y := YK kd en nc) h.1 hlt.1 (yk1 hlt.2.1) (yk2 hlt.2.1) (by show en k (kd c0) _ = _; rw [hlt.2.2]; exact he)) 0 rfl hc j hj (X.t _ hl) (fun _ q => q) hval hd kk
theorem rd_put (X : Cd k p s m args meth c cc nL own) (h : Hd (YK kd en nc) k n s g H locs) {c0 t ci j idx N : Nat} {C : String} {T : u_T} {ty0 : Nat → FieldType} (hlt : c0 < n ∧ c0 < nc ∧ kd c0 = t) {fs : List Value} (he : en k t (g c0 0 0) = .inr (ci, fs)) (hc : classes[ci]? = some (C, T, N)) (hj : j < N) (hin : ∀ w ∈ u_ws C T N, w ∈ Gt)
    (hty : ∀ k, k < N → parseFieldDescriptor (T k).2.2.1 = some (ty0 k)) (hnm : ∀ a, a < N → ∀ b, b < N → a ≠ b → (T a).2.1 ≠ (T b).2.1) (hdecl : (T j).1 = own) {val : Value} (hn : narrow (ty0 j) val = val) (hfit : fits (ty0 j) val = true) (hlen : j < fs.length)
    (hl : Cond.fieldLink own idx (T j).1 (T j).2.1 (T j).2.2.1 ∈ Gt) {x : Int32} {g' : Mm} (hg : g' = st g c0 0 0 j x) (hset : en k t (upd (g c0 0 0) j x) = .inr (ci, fs.set j val)) (hd : decode cc pc = .ok (.putfield idx, 3))
    (kk : ∀ (H : Heap) (locs : List Loc), Hd (YK kd en nc) k n s g' H locs → W p l e R s m args below meth c H locs cells slots Q (F0 m (pc + 3) ls rest)) : W p l e R s m args below meth c H locs cells slots Q (F0 m pc ls (val :: .ref (k.1 + c0) :: rest)) := by
  obtain ⟨hl1, hl2, rfl⟩ := hlt
  obtain ⟨r, h1, cell, q1, q2, q3, q4⟩ := (wd_one (Y := YK kd en nc) h.1 hl1 (yk1 hl2) (yk2 hl2) he) 0 _ rfl
  have hr : r = (C, T, N) := Option.some.inj (h1.symm.trans hc)
  subst hr
  have hap := va_apart (own := own) X.t hin ty0 hty hnm X.K hc
  obtain ⟨hS, hfc, kC, hkC, hkind⟩ := X.K.1 ci _ hc
  obtain ⟨cf, kf, fi, f, hi2, hsl⟩ := hS j hj
  have hst := (u_facts hfc hkC (u_lays X.t hin hj) hi2).1
  have hcf := ro_cls X.o (X.t _ (hin _ (u_in_lay hj))) hi2 hdecl X.nm
  have h6 := u_fits hfc hkC hkind (u_lays X.t hin hj) hi2 (hty j hj) hn hfit
  refine W.putFinG X.x X.b X.o (X.t _ hl) hi2 hst hcf (by rw [q2]; exact h6) q1 q3 (by rw [hsl]; exact k2_hasslot (q4 j hj)) rfl rfl hd fun H' e1 e2 e3 => ?_
  rw [hsl] at e1 ⊢
  subst hg
  refine kk H' _ ⟨wd_put (okK kd en nc) h.1 (yk1 hl2) (yk2 hl2) ?_ e3, h.2.1.put e2 e3 (Nat.le_add_right _ _), e2.trans h.2.2⟩
  show va_at k.2.1 classes (k.1 + c0, en k (kd c0) (upd (g c0 0 0) j x)) H'
  rw [hset]
  exact ⟨_, hc, t_OB.to (V := updV (vp_V fs) j val) ⟨_, e1, q2, q3, t_set q4 hap hj val⟩ (fun j0 _ => vp_updV_set hlen val j0)⟩
theorem rd_ald (X : Cd k p s m args meth c cc nL own) (h : Hd (YK kd en nc) k n s g H locs) {c0 t N : Nat} (hlt : c0 < n ∧ c0 < nc ∧ kd c0 = t) (he : ∀ r, en k t r = .inl (k.2.2.1 0, N, .inl r)) {x : Int32} (hin : vp_in x N) (hd : decode cc pc = .ok (.iaload, 1))
    (kk : W p l e R s m args below meth c H locs cells slots Q (F0 m (pc + 1) ls (.int (g c0 0 0 x.toNatClampNeg) :: rest))) : W p l e R s m args below meth c H locs cells slots Q (F0 m pc ls (.int x :: .ref (k.1 + c0) :: rest)) :=
  va_iald X.x X.b X.K (wd_one (Y := YK kd en nc) h.1 hlt.1 (yk1 hlt.2.1) (yk2 hlt.2.1) (by show en k (kd c0) _ = _; rw [hlt.2.2]; exact he _)) 0 0 rfl rfl hin hd kk
theorem rd_ast (X : Cd k p s m args meth c cc nL own) (h : Hd (YK kd en nc) k n s g H locs) {c0 t N : Nat} (hlt : c0 < n ∧ c0 < nc ∧ kd c0 = t) (he : ∀ r, en k t r = .inl (k.2.2.1 0, N, .inl r)) {x z : Int32} {g' : Mm} (hg : g' = st g c0 0 0 x.toNatClampNeg z) (hin : vp_in x N) (hd : decode cc pc = .ok (.iastore, 1))
    (kk : ∀ (H : Heap) (locs : List Loc), Hd (YK kd en nc) k n s g' H locs → W p l e R s m args below meth c H locs cells slots Q (F0 m (pc + 1) ls rest)) : W p l e R s m args below meth c H locs cells slots Q (F0 m pc ls (.int z :: .int x :: .ref (k.1 + c0) :: rest)) := by
  obtain ⟨hl1, hl2, rfl⟩ := hlt
  have hP := wd_one (Y := YK kd en nc) h.1 hl1 (yk1 hl2) (yk2 hl2) (he _) 0 _ rfl
  refine W.iast X.x X.b hP ((X.K.2 0 _ rfl).1 N (fun j => .int (g c0 0 0 j))) (fun q => by cases q) (by show ¬ (x < 0 ∨ (arrV _ _ _).slots.size ≤ _); rw [arrV_size]; exact hin) rfl rfl hd fun H1 e z0 oq => ?_
  subst hg
  refine kk H1 _ ⟨wd_put (okK kd en nc) h.1 (yk1 hl2) (yk2 hl2) ?_ oq, h.2.1.put z0 oq (Nat.le_add_right _ _), z0.trans h.2.2⟩
  show va_at k.2.1 classes (k.1 + c0, en k (kd c0) (upd (g c0 0 0) x.toNatClampNeg z)) H1
  rw [he]
  show H1[_]? = some (vp_cell _ _)
  rw [e]
  show some ((vp_cell (k.2.2.1 0) (N, .inl (g c0 0 0))).setSlot _ _) = some (vp_cell (k.2.2.1 0) (N, .inl (upd (g c0 0 0) x.toNatClampNeg z)))
  rw [vp_cell_i, vp_cell_i, arrV_store]
  congr 2
  funext q
  unfold upd updV
  split <;> rfl
theorem rd_aast (X : Cd k p s m args meth c cc nL own) (h : Hd (YK kd en nc) k n s g H locs) {c0 t N q d t1 ci : Nat} {r : vw_C} {fs : List Value} (hlt : c0 < n ∧ c0 < nc ∧ kd c0 = t) (he : ∀ r, en k t r = .inl (k.2.2.1 q, N, .inr (.inr (.inr (.inr (fun j => rO k (r j))))))) (ht : (tysOf k)[q]? = some (k.2.2.1 q, .object r.1)) (hlt1 : d < n ∧ d < nc ∧ kd d = t1) (he1 : en k t1 (g d 0 0) = .inr (ci, fs)) (hc : classes[ci]? = some r)
    {x : Int32} {g' : Mm} (hg : g' = st g c0 0 0 x.toNatClampNeg (nI (d + 1))) (hdm : d + 1 < 2 ^ 31) (hin : vp_in x N) (hd : decode cc pc = .ok (.aastore, 1))
    (kk : ∀ (H : Heap) (locs : List Loc), Hd (YK kd en nc) k n s g' H locs → W p l e R s m args below meth c H locs cells slots Q (F0 m (pc + 1) ls rest)) : W p l e R s m args below meth c H locs cells slots Q (F0 m pc ls (.ref (k.1 + d) :: .int x :: .ref (k.1 + c0) :: rest)) := by
  obtain ⟨hl1, hl2, rfl⟩ := hlt
  obtain ⟨hm1, hm2, rfl⟩ := hlt1
  have hlx : x.toNatClampNeg < N := Nat.not_le.mp fun z => hin (Or.inr z)
  have h0 : ¬ x < 0 := fun z => hin (Or.inl z)
  have hP := wd_one (Y := YK kd en nc) h.1 hl1 (yk1 hl2) (yk2 hl2) (he _) 0 _ rfl
  obtain ⟨r', hr', cellV, g1, g2, g3, -⟩ := (wd_one (Y := YK kd en nc) h.1 hm1 (yk1 hm2) (yk2 hm2) he1) 0 _ rfl
  have hcls := (X.K.1 ci r hc).2
  obtain ⟨kA, comp, k1, k2, k3, -⟩ := (X.K.2 q _ ht).2
  have hcomp : comp = k.2.1.1 ci := Option.some.inj (k3.symm.trans hcls.1)
  subst hcomp
  obtain ⟨kC, hkC, -⟩ := hcls.2
  refine W.aast X.x X.b hP (fun q h => by cases h) (fun h => by cases h) k1 k2 rfl hkC ⟨h0, by show _ < (arrV _ _ _).slots.size; rw [arrV_size]; exact hlx⟩ g1 (fun q h => by rw [g3] at h; cases h) (by rw [g2]; exact hkC) (by rw [g2]; exact va_assign hcls) rfl rfl hd fun H1 e z0 oq => ?_
  subst hg
  refine kk H1 _ ⟨wd_put (okK kd en nc) h.1 (yk1 hl2) (yk2 hl2) ?_ oq, h.2.1.put z0 oq (Nat.le_add_right _ _), z0.trans h.2.2⟩
  show va_at k.2.1 classes (k.1 + c0, en k (kd c0) (upd (g c0 0 0) x.toNatClampNeg (nI (d + 1)))) H1
  rw [he]
  show H1[_]? = some (vp_cell _ _)
  rw [e]
  show some ((vp_cell (k.2.2.1 q) (N, .inr (.inr (.inr (.inr (fun j => rO k (g c0 0 0 j))))))).setSlot _ _) = some (vp_cell (k.2.2.1 q) (N, .inr (.inr (.inr (.inr (fun j => rO k (upd (g c0 0 0) x.toNatClampNeg (nI (d + 1)) j)))))))
  rw [vp_cell_q, vp_cell_q, arrV_store]
  congr 2
  funext z
  unfold upd updV
  split
  · unfold rO
    rw [nI_clamp hdm, if_neg (by omega)]
    rfl
  · rfl
/-- Object's own constructor -/
theorem rd_obj (X : Cd k p s m args meth c cc nL own) {l0 : List (Nat × Value)} (hls : lv_has ls nL l0) {idx a : Nat} (hl : Cond.methodLink own idx Lib.objectInit ∈ Gt) (hf : Cond.instanceMethod Lib.objectInit ∈ Gt ∧ Cond.code Lib.objectInit ⟨#[0xb1]⟩ 1 none ∈ Gt) (hR : 1 ≤ R.frames) (hlo : (rest.map fun v => v.category).sum + 12 ≤ R.locals) (hd : decode cc pc = .ok (.invokespecial idx, 3))
    (kk : W p l e R s m args below meth c H locs cells slots Q (F0 m (pc + 3) ls rest)) : W p l e R s m args below meth c H locs cells slots Q (F0 m pc ls (.ref a :: rest)) :=
  W.objInit X.x X.b X.o (X.t _ hl) (X.t _ hf.1) (X.t _ hf.2) rfl (hls.1.trans X.1.2.2.1.symm) rfl hd hR (by show 2 * 0 + _ + 12 ≤ _; omega) kk
theorem rd_back {rm : Room} {mc ms n1 : Nat} {g1 : Mm} {a0 : Array Value} {st0 : List Value} (h : Hd (YK kd en nc) k n s g H locs) (hcs : cells' = cells + mc) (hss : slots' = slots + ms)
    (hr : va_Run p l e R s m args below meth c H locs cells slots mc ms (F0 m pc ls st0) rest (PostD (YK kd en nc) k n1 g1 a0) (AU k))
    (kk : ∀ (H : Heap) (locs : List Loc), Hd (YK kd en nc) k n1 s g1 H locs → W p l e R s m args below meth c H locs cells' slots' Q (F0 m (pc + 3) ls rest)) : W p l e R s m args below meth c H locs cells slots Q (F0 m pc ls st0) := by
  subst hcs; subst hss
  intro T hT X
  obtain ⟨v, st₀, t, T', L, h0, X', hL, e1, e2, ⟨hv, hw, ⟨hz, hk⟩, hsz⟩, stp⟩ := hr T hT X
  cases hv
  rw [h0] at hz hk
  obtain ⟨t2, a1, b1⟩ := kk T'.heap (locs ++ L) ⟨by rw [e1]; exact hw, ⟨Nat.le_trans h.2.1.1 (by rw [e1]; exact hz), fun q q1 q2 => by rw [e1, hk q (Nat.lt_of_lt_of_le q1 h.2.1.1) q2]; exact h.2.1.2.1 q q1 q2, fun q hq => by
      rcases List.mem_append.mp hq with z | z
      · exact h.2.1.2.2 q z
      · exact hL q z⟩, by rw [e1]; exact hsz⟩ T' rfl X'
  exact ⟨t2, stp t2 a1, b1⟩
/-- what the tables say of a constructor -/
def Miv (y : MethodName) (bytes : ByteArray) (maxL n : Nat) : Prop :=
  Cond.instanceMethod y ∈ Gt ∧ Cond.initialized y.cls ∈ Gt ∧ Cond.code y bytes maxL none ∈ Gt ∧ (y.cls ≠ "java/lang/invoke/MethodHandle" ∧ y.cls ≠ "java/lang/invoke/VarHandle" ∧ (parseMethodDescriptor y.desc).map (fun d => d.parameters.length) = some n) ∧ y.name = "<init>"
theorem rd_calli (X : Cd k p s m args meth c cc nL own) (h : Hd (YK kd en nc) k n s g H locs) {y : MethodName} {bytes : ByteArray} {maxL na idx mc ms n1 : Nat} {rm : Room} {b : Nat} {As st0 : List Value} {g1 : Mm} (hM : MtD l y bytes maxL rm mc ms (YK kd en nc) k n (.ref b :: As) g n1 g1) (hf : Miv y bytes maxL na)
    (hl : Cond.methodLink own idx y ∈ Gt) (hc0 : rm.cells = mc ∧ rm.slots = ms) (hR : rm.frames + 1 ≤ R.frames ∧ 8 + (maxL + 11) + rm.locals ≤ R.locals) (hn : As.length = na) {l0 : List (Nat × Value)} (hls : lv_has ls nL l0) (hst : st0 = As.reverse ++ .ref b :: rest) (hcat : (rest.map fun v => v.category).sum ≤ 8) (hcs : cells' = cells + mc) (hss : slots' = slots + ms) (hcR : cells' ≤ R.cells ∧ slots' ≤ R.slots) (hd : decode cc pc = .ok (.invokespecial idx, 3))
    (kk : ∀ (H : Heap) (locs : List Loc), Hd (YK kd en nc) k n1 s g1 H locs → W p l e R s m args below meth c H locs cells' slots' Q (F0 m (pc + 3) ls rest)) : W p l e R s m args below meth c H locs cells slots Q (F0 m pc ls st0) := by
  obtain ⟨f1, f3, f4, f5, f6⟩ := hf
  have cb := callB_of (R := R) (own := own) (index := idx) (rm := rm) (mc := mc) (ms := ms) na X.t (gt_in f4) rfl hc0.1 hc0.2 (X.t _ f3) (X.t _ hl) f5 hR
  refine rd_back (rm := rm) h hcs hss (a0 := (Value.ref b :: As).toArray) (va_runI X.1 hM ⟨cb, f6, X.t _ f1⟩ ⟨PreD.blind, fun U hU hW => ⟨rfl, by rw [hU]; exact h.1, KD.moved hW.alike X.2.1, by rw [hU]; exact (X.2.2.1.warm hW).kept (fun a q1 q2 => h.2.1.2.1 a q1 q2), by rw [hU]; exact h.2.2⟩⟩ rfl hn hls.1 hst (lv_room hcat) hd (by subst hcs; subst hss; exact hcR)) kk
/-- a call that makes nothing and writes in a part of the world only -/
theorem rd_callv (X : Cd k p s m args meth c cc nL own) (h : Hd (YK kd en nc) k n s g H locs) {Y1 : Ly} {S1 : Nat → Prop} {ga gb : Mm} (hw1 : Wd Y1 S1 k ga H) (hsub : ∀ q, AS Y1 S1 k q → AU k q) {y : MethodName} {bytes : ByteArray} {maxL na idx : Nat} {ry : Option FieldType} {rm : Room} {b : Nat} {As st0 : List Value} {rv : Option Value} (hM : Mt l y bytes maxL ry rm Y1 S1 k (.ref b :: As) ga rv gb) (hf : Mv y bytes maxL ry na)
    (hl : Cond.methodLink own idx y ∈ Gt) (hc0 : rm.cells = 0 ∧ rm.slots = 0) (hR : rm.frames + 1 ≤ R.frames ∧ 8 + (maxL + 11) + rm.locals ≤ R.locals) (hrc : ∃ cell : Cell, H[b]? = some cell ∧ cell.vm.isStatics = false ∧ s.vm.findClass y.cls = some cell.cls) (hn : As.length = na) {l0 : List (Nat × Value)} (hls : lv_has ls nL l0) (hst : st0 = As.reverse ++ .ref b :: rest) (hcat : (rest.map fun v => v.category).sum ≤ 8) (hcs : cells ≤ R.cells ∧ slots ≤ R.slots) (hd : decode cc pc = .ok (.invokevirtual idx, 3))
    (kk : ∀ (H1 : Heap) (locs : List Loc), Wd Y1 S1 k gb H1 → (∀ q, q < H.size → ¬ AS Y1 S1 k q → H1[q]? = H[q]?) → va_S (AU k) s.heap H1 locs → H1.size = k.1 + n → W p l e R s m args below meth c H1 locs cells slots Q (F0 m (pc + 3) ls (rv.toList ++ rest))) : W p l e R s m args below meth c H locs cells slots Q (F0 m pc ls st0) := by
  obtain ⟨f1, f2, f3, f4, f5⟩ := hf
  have cb := callB_of (R := R) (own := own) (index := idx) (rm := rm) (mc := 0) (ms := 0) na X.t (gt_in f4) rfl hc0.1 hc0.2 (X.t _ f3) (X.t _ hl) f5 hR
  have hr := va_runV (p := p) (l := l) (e := e) (below := below) (meth := meth) (locs := locs) (g := F0 m pc ls st0) (rest := rest) X.1 hM ⟨cb, X.t _ f1, X.t _ f2⟩ ⟨PreB.blind, hrc, fun U hU hW => ⟨rfl, by rw [hU]; exact hw1, va_K.moved hW.alike X.K, by rw [hU]; exact ((X.2.2.1.warm hW).kept (fun a q1 q2 => h.2.1.2.1 a q1 q2)).narrow hsub⟩⟩ rfl hn hls.1 hst (lv_room hcat) hd hcs
  intro T hT XX
  obtain ⟨v, st₀, t, T', L, h0, X', hL, e1, e2, ⟨hv, hw, ⟨hz, hk⟩, hsz⟩, stp⟩ := hr T hT XX
  cases hv
  rw [h0] at hz hk hsz
  obtain ⟨t2, a1, b1⟩ := kk T'.heap (locs ++ L) (by rw [e1]; exact hw) (fun q q1 q2 => by rw [e1]; exact hk q q1 q2) ⟨Nat.le_trans h.2.1.1 (by rw [e1]; exact hz), fun q q1 q2 => by rw [e1, hk q (Nat.lt_of_lt_of_le q1 h.2.1.1) (fun z => q2 (hsub q z))]; exact h.2.1.2.1 q q1 q2, fun q hq => by
      rcases List.mem_append.mp hq with z | z
      · exact h.2.1.2.2 q z
      · exact hsub _ (hL q z)⟩ (by rw [e1, hsz]; exact h.2.2) T' rfl X'
  exact ⟨t2, stp t2 a1, b1⟩
/-- a call that only reads what is outside the world: a constant string's members -/
theorem rd_callJ (X : Cd k p s m args meth c cc nL own) (h : Hd (YK kd en nc) k n s g H locs) {y : MethodName} {bytes : ByteArray} {maxL na idx q : Nat} {ry : Option FieldType} {rm : Room} {As st0 : List Value} {x : Int32} (hq : q < 3) (hM : Mt l y bytes maxL ry rm (YK kd en nc) (fun _ => False) k (.ref (k.2.2.2.2.1 q) :: As) g (some (.int x)) g) (hf : Mv y bytes maxL ry na) (hcl : y.cls = "java/lang/String")
    (hl : Cond.methodLink own idx y ∈ Gt) (hc0 : rm.cells = 0 ∧ rm.slots = 0) (hR : rm.frames + 1 ≤ R.frames ∧ 8 + (maxL + 11) + rm.locals ≤ R.locals) (hn : As.length = na) {l0 : List (Nat × Value)} (hls : lv_has ls nL l0) (hst : st0 = As.reverse ++ .ref (k.2.2.2.2.1 q) :: rest) (hcat : (rest.map fun v => v.category).sum ≤ 8) (hcs : cells ≤ R.cells ∧ slots ≤ R.slots) (hd : decode cc pc = .ok (.invokevirtual idx, 3))
    (kk : ∀ (H : Heap) (locs : List Loc), Hd (YK kd en nc) k n s g H locs → W p l e R s m args below meth c H locs cells slots Q (F0 m (pc + 3) ls (.int x :: rest))) : W p l e R s m args below meth c H locs cells slots Q (F0 m pc ls st0) := by
  refine rd_callv X h (S1 := fun _ => False) (fun t i v z => z.elim) (fun q z => by obtain ⟨t, i, v, z, -⟩ := z; exact z.elim) hM hf hl hc0 hR (by rw [hcl]; exact vk_recv X.2.2.1.2.1 hq h.2.1) hn hls hst hcat hcs hd fun H1 locs1 q1 q2 q3 q4 => ?_
  refine kk H1 locs1 ⟨fun t i v z1 z2 z3 => (h.1 t i v z1 z2 z3).kept (q2 _ (by show k.1 + t < H.size; rw [h.2.2]; have : t < n := z1; omega) (fun z => by obtain ⟨t, i, v, z, -⟩ := z; exact z.elim)), q3, q4⟩
theorem rd_lds (X : Cd k p s m args meth c cc nL own) (q : Nat) {idx : Nat} {tx : String} (hr : kS[q]? = some (own, idx, tx)) (hd : decode cc pc = .ok (.ldc idx, 2))
    (kk : W p l e R s m args below meth c H locs cells slots Q (F0 m (pc + 2) ls (.ref (k.2.2.2.2.1 q) :: rest))) : W p l e R s m args below meth c H locs cells slots Q (F0 m pc ls rest) :=
  va_ldcS X.x X.b X.o (X.2.2.1.2.2.1 q _ hr) hd kk
theorem rd_ldc (X : Cd k p s m args meth c cc nL own) {idx : Nat} {x : Int32} (hl : Cond.constant own idx x ∈ Gt) (hd : decode cc pc = .ok (.ldc idx, 2)) (kk : W p l e R s m args below meth c H locs cells slots Q (F0 m (pc + 2) ls (.int x :: rest))) : W p l e R s m args below meth c H locs cells slots Q (F0 m pc ls rest) :=
  lv_ldc X.x X.b X.o (X.t _ hl) hd kk
theorem rd_ret (X : Cd k p s m args meth c cc nL own) {Y : Ly} (h : Hd Y k n s g H locs) {mc ms : Nat} (hc : cells ≤ mc) (hs : slots ≤ ms) (hd : decode cc pc = .ok (.return_, 1)) : W p l e R s m args below meth c H locs cells slots (FinD Y k args s below mc ms n g) (F0 m pc ls []) := by
  refine W.widen hc hs ?_
  exact W.vret X.x X.b X.2.2.2.1 (fun t ht _ => ⟨rfl, by rw [ht]; exact h.1, h.2.1.F ht, by rw [ht]; exact h.2.2⟩) (fun q hq => h.2.1.2.2 q hq) hd X.2.2.2.2.1
end DRows
theorem rD_set (k : En) {d : Nat} (h : d + 1 < 2 ^ 31) : rD k (nI (d + 1)) = .ref (k.1 + d) := by
  unfold rD
  rw [nI_clamp h, if_neg (by omega)]
  rfl
theorem rD_get (k : En) {x : Int32} {d : Nat} (h : x.toNatClampNeg = d + 1) : rD k x = .ref (k.1 + d) := by
  unfold rD
  rw [h, if_neg (by omega)]
  rfl
def wGn {β : Type} (x : Int32) (f : Nat → Option β) : Option β := if 1 ≤ x.toNatClampNeg then f (x.toNatClampNeg - 1) else none
theorem wGn_s {β : Type} {x : Int32} {f : Nat → Option β} {r : β} (h : wGn x f = some r) : ∃ n, x.toNatClampNeg = n + 1 ∧ f n = some r := by
  unfold wGn at h
  by_cases q : 1 ≤ x.toNatClampNeg
  · rw [if_pos q] at h; exact ⟨_, by omega, h⟩
  · rw [if_neg q] at h; cases h
abbrev RmI (f mc ms lo : Nat) : Room := { frames := f, cells := mc, slots := ms, locals := lo }
def klC : List Nat := [0, 1, 2, 3, 4, 5, 6, 7, 8, 5, 6, 7, 8, 5, 6, 7, 8, 5, 6, 7, 8, 5, 6, 7, 8, 5, 6, 7, 8, 9, 10, 11, 12, 13, 14, 15, 16, 17, 18, 19, 20, 21, 19, 20, 21, 19, 20, 21, 19, 20, 21, 19, 20, 21, 19, 20, 21, 19, 20, 21, 19, 20, 21, 19, 20, 21, 19, 20, 21, 19, 20, 21, 19, 20, 21, 22, 22, 22, 22, 22, 22, 22, 22, 22, 22, 22, 22, 22, 22, 22, 22, 9, 10, 11, 12, 13, 14, 15, 16, 17, 18, 19, 20, 21, 19, 20, 21, 19, 20, 21, 19, 20, 21, 19, 20, 21, 19, 20, 21, 19, 20, 21, 19, 20, 21, 19, 20, 21, 19, 20, 21, 19, 20, 21, 19, 20, 21, 22, 22, 22, 22, 22, 22, 22, 22, 22, 22, 22, 22, 22, 22, 22, 22, 23, 24, 25, 26, 27, 28, 29, 30, 29, 30, 29, 30, 29, 30]
def kdC (c : Nat) : Nat := klC.getD c 99
def zlC : List Nat := [6, 5, 6, 7, 160, 4, 160, 3, 160, 4, 160, 3, 160, 4, 160, 3, 160, 4, 160, 3, 160, 4, 160, 3, 160, 4, 160, 3, 160, 14, 9, 5, 6, 6, 2, 2, 12, 16, 8, 15, 8, 9, 15, 8, 9, 15, 8, 9, 15, 8, 9, 15, 8, 9, 15, 8, 9, 15, 8, 9, 15, 8, 9, 15, 8, 9, 15, 8, 9, 15, 8, 9, 15, 8, 9, 6, 6, 6, 6, 6, 6, 6, 6, 6, 6, 6, 6, 6, 6, 6, 6, 14, 9, 5, 6, 6, 2, 2, 12, 16, 8, 15, 8, 9, 15, 8, 9, 15, 8, 9, 15, 8, 9, 15, 8, 9, 15, 8, 9, 15, 8, 9, 15, 8, 9, 15, 8, 9, 15, 8, 9, 15, 8, 9, 15, 8, 9, 6, 6, 6, 6, 6, 6, 6, 6, 6, 6, 6, 6, 6, 6, 6, 6, 4, 4, 40, 40, 40, 4, 3, 40, 3, 40, 3, 40, 3, 40]
/-- fields and elements of the first n cells -/
def slC (n : Nat) : Nat := (zlC.take n).sum
def edC : En → Nat → (Nat → Int32) → va_E := fun k t r => match t with
  | 0 => .inr (9, [rD k (r 0), rD k (r 1), rD k (r 2), rD k (r 3), rD k (r 4), rD k (r 5)])
  | 1 => .inr (7, [.int (r 0), .int (r 1), .int (r 2), rD k (r 3), rD k (r 4)])
  | 2 => .inl (k.2.2.1 1, 6, .inr (.inr (.inr (.inr (fun j => rO k (r j))))))
  | 3 => .inr (4, [rD k (r 0), .int (r 1), .int (r 2), .int (r 3), .int (r 4), .int (r 5), rqC k (r 6)])
  | 4 => .inl (k.2.2.1 0, 160, .inl r)
  | 5 => .inr (5, [rD k (r 0), rD k (r 1), rD k (r 2), .int (r 3)])
  | 6 => .inl (k.2.2.1 0, 160, .inl r)
  | 7 => .inl (k.2.2.1 0, 3, .inl r)
  | 8 => .inl (k.2.2.1 0, 160, .inl r)
  | 9 => .inr (3, [.int (r 0), .int (r 1), .int (r 2), .int (r 3), rqC k (r 4), rD k (r 5), rD k (r 6), rD k (r 7), rD k (r 8), rD k (r 9), rD k (r 10), rD k (r 11), rD k (r 12), rD k (r 13)])
  | 10 => .inl (k.2.2.1 0, 9, .inl r)
  | 11 => .inl (k.2.2.1 0, 5, .inl r)
  | 12 => .inl (k.2.2.1 0, 6, .inl r)
  | 13 => .inl (k.2.2.1 0, 6, .inl r)
  | 14 => .inl (k.2.2.1 0, 2, .inl r)
  | 15 => .inl (k.2.2.1 0, 2, .inl r)
  | 16 => .inl (k.2.2.1 2, 12, .inr (.inr (.inr (.inr (fun j => rO k (r j))))))
  | 17 => .inl (k.2.2.1 3, 16, .inr (.inr (.inr (.inr (fun j => rO k (r j))))))
  | 18 => .inl (k.2.2.1 0, 8, .inl r)
  | 19 => .inr (8, [.int (r 0), .int (r 1), .int (r 2), .int (r 3), .int (r 4), .int (r 5), .int (r 6), .int (r 7), .int (r 8), .int (r 9), .int (r 10), .int (r 11), .int (r 12), rD k (r 13), rD k (r 14)])
  | 20 => .inl (k.2.2.1 0, 8, .inl r)
  | 21 => .inl (k.2.2.1 0, 9, .inl r)
  | 22 => .inr (1, [.int (r 0), .int (r 1), .int (r 2), .int (r 3), .int (r 4), .int (r 5)])
  | 23 => .inr (2, [.int (r 0), .int (r 1), .int (r 2), .int (r 3)])
  | 24 => .inr (0, [.int (r 0), rD k (r 1), rD k (r 2), rD k (r 3)])
  | 25 => .inl (k.2.2.1 0, 40, .inl r)
  | 26 => .inl (k.2.2.1 0, 40, .inl r)
  | 27 => .inl (k.2.2.1 0, 40, .inl r)
  | 28 => .inl (k.2.2.1 4, 4, .inr (.inr (.inr (.inr (fun j => rO k (r j))))))
  | 29 => .inr (6, [.int (r 0), .int (r 1), rD k (r 2)])
  | 30 => .inl (k.2.2.1 0, 40, .inl r)
  | _ => .inr (99, [])
abbrev DC : Ly := YK kdC edC 167
def klR : List Nat := [0, 1, 2, 3, 4, 5, 6, 7, 8, 9, 10, 11, 12, 13, 14, 15, 16, 17, 18, 19, 20, 21, 22]
def kdR (c : Nat) : Nat := klR.getD c 99
def zlR : List Nat := [37, 510, 40, 40, 40, 12, 160, 1200, 24, 11, 4, 4, 160, 48, 6, 6, 8, 8, 14, 200, 200, 12, 510]
/-- fields and elements of the first n cells -/
def slR (n : Nat) : Nat := (zlR.take n).sum
def edR : En → Nat → (Nat → Int32) → va_E := fun k t r => match t with
  | 0 => .inr (10, [rD k (r 0), .int (r 1), .int (r 2), .int (r 3), .int (r 4), rD k (r 5), rD k (r 6), rD k (r 7), .int (r 8), rD k (r 9), rD k (r 10), .int (r 11), .int (r 12), .int (r 13), rD k (r 14), rD k (r 15), rD k (r 16), rD k (r 17), rD k (r 18), rD k (r 19), rD k (r 20), rD k (r 21), rD k (r 22), rD k (r 23), rD k (r 24), .int (r 25), .int (r 26), .int (r 27), .int (r 28), rD k (r 29), rD k (r 30), .int (r 31), .int (r 32), .int (r 33), rD k (r 34), rD k (r 35), rD k (r 36)])
  | 1 => .inl (k.2.2.1 0, 510, .inl r)
  | 2 => .inl (k.2.2.1 0, 40, .inl r)
  | 3 => .inl (k.2.2.1 0, 40, .inl r)
  | 4 => .inl (k.2.2.1 0, 40, .inl r)
  | 5 => .inl (k.2.2.1 0, 12, .inl r)
  | 6 => .inl (k.2.2.1 0, 160, .inl r)
  | 7 => .inl (k.2.2.1 0, 1200, .inl r)
  | 8 => .inl (k.2.2.1 0, 24, .inl r)
  | 9 => .inl (k.2.2.1 0, 11, .inl r)
  | 10 => .inl (k.2.2.1 0, 4, .inl r)
  | 11 => .inl (k.2.2.1 0, 4, .inl r)
  | 12 => .inl (k.2.2.1 0, 160, .inl r)
  | 13 => .inl (k.2.2.1 0, 48, .inl r)
  | 14 => .inl (k.2.2.1 0, 6, .inl r)
  | 15 => .inl (k.2.2.1 0, 6, .inl r)
  | 16 => .inl (k.2.2.1 0, 8, .inl r)
  | 17 => .inl (k.2.2.1 0, 8, .inl r)
  | 18 => .inl (k.2.2.1 0, 14, .inl r)
  | 19 => .inl (k.2.2.1 0, 200, .inl r)
  | 20 => .inl (k.2.2.1 0, 200, .inl r)
  | 21 => .inl (k.2.2.1 0, 12, .inl r)
  | 22 => .inl (k.2.2.1 0, 510, .inl r)
  | _ => .inr (99, [])
abbrev DR : Ly := YK kdR edR 23
def toS (g : Mm) : Mm := fun t i v j => g (adC t i v) 0 0 j
/-- the references that never change, of a cell -/
def ckc (g : Mm) (t i v : Nat) : Bool := match t with
  | 0 => (g (adC 0 i v) 0 0 0 == nI (adC 9 0 0 + 1)) && (g (adC 0 i v) 0 0 1 == nI (adC 9 1 0 + 1)) && (g (adC 0 i v) 0 0 2 == nI (adC 1 0 0 + 1)) && (g (adC 0 i v) 0 0 3 == nI (adC 23 0 0 + 1)) && (g (adC 0 i v) 0 0 4 == nI (adC 24 0 0 + 1)) && (g (adC 0 i v) 0 0 5 == nI (adC 28 0 0 + 1))
  | 1 => (g (adC 1 i v) 0 0 3 == nI (adC 2 0 0 + 1)) && (g (adC 1 i v) 0 0 4 == nI (adC 3 0 0 + 1))
  | 2 => (List.range 6).all (fun j => g (adC 2 i v) 0 0 j == nI (adC 5 j 0 + 1))
  | 3 => (g (adC 3 i v) 0 0 0 == nI (adC 4 0 0 + 1))
  | 5 => (g (adC 5 i v) 0 0 0 == nI (adC 6 i 0 + 1)) && (g (adC 5 i v) 0 0 1 == nI (adC 7 i 0 + 1)) && (g (adC 5 i v) 0 0 2 == nI (adC 8 i 0 + 1))
  | 9 => (g (adC 9 i v) 0 0 5 == nI (adC 10 i 0 + 1)) && (g (adC 9 i v) 0 0 6 == nI (adC 11 i 0 + 1)) && (g (adC 9 i v) 0 0 7 == nI (adC 12 i 0 + 1)) && (g (adC 9 i v) 0 0 8 == nI (adC 13 i 0 + 1)) && (g (adC 9 i v) 0 0 9 == nI (adC 14 i 0 + 1)) && (g (adC 9 i v) 0 0 10 == nI (adC 15 i 0 + 1)) && (g (adC 9 i v) 0 0 11 == nI (adC 16 i 0 + 1)) && (g (adC 9 i v) 0 0 12 == nI (adC 17 i 0 + 1)) && (g (adC 9 i v) 0 0 13 == nI (adC 18 i 0 + 1))
  | 16 => (List.range 12).all (fun j => g (adC 16 i v) 0 0 j == nI (adC 19 i j + 1))
  | 17 => (List.range 16).all (fun j => g (adC 17 i v) 0 0 j == nI (adC 22 i j + 1))
  | 19 => (g (adC 19 i v) 0 0 13 == nI (adC 20 i v + 1)) && (g (adC 19 i v) 0 0 14 == nI (adC 21 i v + 1))
  | 24 => (g (adC 24 i v) 0 0 1 == nI (adC 25 0 0 + 1)) && (g (adC 24 i v) 0 0 2 == nI (adC 26 0 0 + 1)) && (g (adC 24 i v) 0 0 3 == nI (adC 27 0 0 + 1))
  | 28 => (List.range 4).all (fun j => g (adC 28 i v) 0 0 j == nI (adC 29 j 0 + 1))
  | 29 => (g (adC 29 i v) 0 0 2 == nI (adC 30 i 0 + 1))
  | _ => true
def ckT (g : Mm) : Bool := (ceC.filter (fun q => decide (1 ≤ q.1) && decide (q.1 ≤ 8))).all (fun q => ckc g q.1 q.2.1 q.2.2)
def ckA (g : Mm) : Bool := ceC.all (fun q => ckc g q.1 q.2.1 q.2.2)
theorem kd_all : ceC.all (fun q => decide (kdC (adC q.1 q.2.1 q.2.2) = q.1 ∧ adC q.1 q.2.1 q.2.2 < 167)) = true := by decide +kernel
theorem kd_ad {t i v : Nat} (hi : i < (bdC t).1) (hv : v < (bdC t).2) : kdC (adC t i v) = t ∧ adC t i v < 167 := by
  have h := List.all_eq_true.mp kd_all _ (inC hi hv)
  simpa using h
theorem arrV_congr {cA : ClassId} {n : Nat} {f f' : Nat → Value} (h : ∀ j, j < n → f j = f' j) : arrV cA n f = arrV cA n f' := by
  unfold arrV
  congr 2
  funext j
  exact h _ j.isLt
theorem vr_congr {cA : ClassId} {n : Nat} {f f' : Nat → Option Nat} (h : ∀ j, j < n → f j = f' j) : vp_cell cA (n, .inr (.inr (.inr (.inr f)))) = vp_cell cA (n, .inr (.inr (.inr (.inr f')))) := by
  rw [vp_cell_q, vp_cell_q]
  exact arrV_congr fun j hj => by rw [h j hj]
theorem rO_set (k : En) {d : Nat} (h : d + 1 < 2 ^ 31) : rO k (nI (d + 1)) = some (k.1 + d) := by
  unfold rO
  rw [nI_clamp h, if_neg (by omega)]
  rfl
/-- the slots that hold such references -/
def crf (t j : Nat) : Bool := match t with
  | 0 => j == 0 || j == 1 || j == 2 || j == 3 || j == 4 || j == 5
  | 1 => j == 3 || j == 4
  | 2 => true
  | 3 => j == 0
  | 5 => j == 0 || j == 1 || j == 2
  | 9 => j == 5 || j == 6 || j == 7 || j == 8 || j == 9 || j == 10 || j == 11 || j == 12 || j == 13
  | 16 => true
  | 17 => true
  | 19 => j == 13 || j == 14
  | 24 => j == 1 || j == 2 || j == 3
  | 28 => true
  | 29 => j == 2
  | _ => false
theorem ck_congr {g g2 : Mm} {t i v : Nat} (h : ∀ j, crf t j = true → g (adC t i v) 0 0 j = g2 (adC t i v) 0 0 j) : ckc g t i v = ckc g2 t i v := by
  match t, h with
  | 0, h =>
    show ((g (adC 0 i v) 0 0 0 == nI (adC 9 0 0 + 1)) && (g (adC 0 i v) 0 0 1 == nI (adC 9 1 0 + 1)) && (g (adC 0 i v) 0 0 2 == nI (adC 1 0 0 + 1)) && (g (adC 0 i v) 0 0 3 == nI (adC 23 0 0 + 1)) && (g (adC 0 i v) 0 0 4 == nI (adC 24 0 0 + 1)) && (g (adC 0 i v) 0 0 5 == nI (adC 28 0 0 + 1))) = ((g2 (adC 0 i v) 0 0 0 == nI (adC 9 0 0 + 1)) && (g2 (adC 0 i v) 0 0 1 == nI (adC 9 1 0 + 1)) && (g2 (adC 0 i v) 0 0 2 == nI (adC 1 0 0 + 1)) && (g2 (adC 0 i v) 0 0 3 == nI (adC 23 0 0 + 1)) && (g2 (adC 0 i v) 0 0 4 == nI (adC 24 0 0 + 1)) && (g2 (adC 0 i v) 0 0 5 == nI (adC 28 0 0 + 1)))
    rw [h 0 rfl, h 1 rfl, h 2 rfl, h 3 rfl, h 4 rfl, h 5 rfl]
  | 1, h =>
    show ((g (adC 1 i v) 0 0 3 == nI (adC 2 0 0 + 1)) && (g (adC 1 i v) 0 0 4 == nI (adC 3 0 0 + 1))) = ((g2 (adC 1 i v) 0 0 3 == nI (adC 2 0 0 + 1)) && (g2 (adC 1 i v) 0 0 4 == nI (adC 3 0 0 + 1)))
    rw [h 3 rfl, h 4 rfl]
  | 2, h =>
    show (List.range 6).all (fun j => g (adC 2 i v) 0 0 j == nI (adC 5 j 0 + 1)) = (List.range 6).all (fun j => g2 (adC 2 i v) 0 0 j == nI (adC 5 j 0 + 1))
    have e : ∀ j, g (adC 2 i v) 0 0 j = g2 (adC 2 i v) 0 0 j := fun j => h j rfl
    simp only [e]
  | 3, h =>
    show ((g (adC 3 i v) 0 0 0 == nI (adC 4 0 0 + 1))) = ((g2 (adC 3 i v) 0 0 0 == nI (adC 4 0 0 + 1)))
    rw [h 0 rfl]
  | 4, h => rfl
  | 5, h =>
    show ((g (adC 5 i v) 0 0 0 == nI (adC 6 i 0 + 1)) && (g (adC 5 i v) 0 0 1 == nI (adC 7 i 0 + 1)) && (g (adC 5 i v) 0 0 2 == nI (adC 8 i 0 + 1))) = ((g2 (adC 5 i v) 0 0 0 == nI (adC 6 i 0 + 1)) && (g2 (adC 5 i v) 0 0 1 == nI (adC 7 i 0 + 1)) && (g2 (adC 5 i v) 0 0 2 == nI (adC 8 i 0 + 1)))
    rw [h 0 rfl, h 1 rfl, h 2 rfl]
  | 6, h => rfl
  | 7, h => rfl
  | 8, h => rfl
  | 9, h =>
    show ((g (adC 9 i v) 0 0 5 == nI (adC 10 i 0 + 1)) && (g (adC 9 i v) 0 0 6 == nI (adC 11 i 0 + 1)) && (g (adC 9 i v) 0 0 7 == nI (adC 12 i 0 + 1)) && (g (adC 9 i v) 0 0 8 == nI (adC 13 i 0 + 1)) && (g (adC 9 i v) 0 0 9 == nI (adC 14 i 0 + 1)) && (g (adC 9 i v) 0 0 10 == nI (adC 15 i 0 + 1)) && (g (adC 9 i v) 0 0 11 == nI (adC 16 i 0 + 1)) && (g (adC 9 i v) 0 0 12 == nI (adC 17 i 0 + 1)) && (g (adC 9 i v) 0 0 13 == nI (adC 18 i 0 + 1))) = ((g2 (adC 9 i v) 0 0 5 == nI (adC 10 i 0 + 1)) && (g2 (adC 9 i v) 0 0 6 == nI (adC 11 i 0 + 1)) && (g2 (adC 9 i v) 0 0 7 == nI (adC 12 i 0 + 1)) && (g2 (adC 9 i v) 0 0 8 == nI (adC 13 i 0 + 1)) && (g2 (adC 9 i v) 0 0 9 == nI (adC 14 i 0 + 1)) && (g2 (adC 9 i v) 0 0 10 == nI (adC 15 i 0 + 1)) && (g2 (adC 9 i v) 0 0 11 == nI (adC 16 i 0 + 1)) && (g2 (adC 9 i v) 0 0 12 == nI (adC 17 i 0 + 1)) && (g2 (adC 9 i v) 0 0 13 == nI (adC 18 i 0 + 1)))
    rw [h 5 rfl, h 6 rfl, h 7 rfl, h 8 rfl, h 9 rfl, h 10 rfl, h 11 rfl, h 12 rfl, h 13 rfl]
  | 10, h => rfl
  | 11, h => rfl
  | 12, h => rfl
  | 13, h => rfl
  | 14, h => rfl
  | 15, h => rfl
  | 16, h =>
    show (List.range 12).all (fun j => g (adC 16 i v) 0 0 j == nI (adC 19 i j + 1)) = (List.range 12).all (fun j => g2 (adC 16 i v) 0 0 j == nI (adC 19 i j + 1))
    have e : ∀ j, g (adC 16 i v) 0 0 j = g2 (adC 16 i v) 0 0 j := fun j => h j rfl
    simp only [e]
  | 17, h =>
    show (List.range 16).all (fun j => g (adC 17 i v) 0 0 j == nI (adC 22 i j + 1)) = (List.range 16).all (fun j => g2 (adC 17 i v) 0 0 j == nI (adC 22 i j + 1))
    have e : ∀ j, g (adC 17 i v) 0 0 j = g2 (adC 17 i v) 0 0 j := fun j => h j rfl
    simp only [e]
  | 18, h => rfl
  | 19, h =>
    show ((g (adC 19 i v) 0 0 13 == nI (adC 20 i v + 1)) && (g (adC 19 i v) 0 0 14 == nI (adC 21 i v + 1))) = ((g2 (adC 19 i v) 0 0 13 == nI (adC 20 i v + 1)) && (g2 (adC 19 i v) 0 0 14 == nI (adC 21 i v + 1)))
    rw [h 13 rfl, h 14 rfl]
  | 20, h => rfl
  | 21, h => rfl
  | 22, h => rfl
  | 23, h => rfl
  | 24, h =>
    show ((g (adC 24 i v) 0 0 1 == nI (adC 25 0 0 + 1)) && (g (adC 24 i v) 0 0 2 == nI (adC 26 0 0 + 1)) && (g (adC 24 i v) 0 0 3 == nI (adC 27 0 0 + 1))) = ((g2 (adC 24 i v) 0 0 1 == nI (adC 25 0 0 + 1)) && (g2 (adC 24 i v) 0 0 2 == nI (adC 26 0 0 + 1)) && (g2 (adC 24 i v) 0 0 3 == nI (adC 27 0 0 + 1)))
    rw [h 1 rfl, h 2 rfl, h 3 rfl]
  | 25, h => rfl
  | 26, h => rfl
  | 27, h => rfl
  | 28, h =>
    show (List.range 4).all (fun j => g (adC 28 i v) 0 0 j == nI (adC 29 j 0 + 1)) = (List.range 4).all (fun j => g2 (adC 28 i v) 0 0 j == nI (adC 29 j 0 + 1))
    have e : ∀ j, g (adC 28 i v) 0 0 j = g2 (adC 28 i v) 0 0 j := fun j => h j rfl
    simp only [e]
  | 29, h =>
    show ((g (adC 29 i v) 0 0 2 == nI (adC 30 i 0 + 1))) = ((g2 (adC 29 i v) 0 0 2 == nI (adC 30 i 0 + 1)))
    rw [h 2 rfl]
  | 30, h => rfl
  | n + 31, h => rfl
/-- a cell whose references are right holds the same in both readings: r its numbers while it is made, r2 as it stays -/
theorem cv_at {k : En} {H : Heap} {a t i v : Nat} {r r2 : Nat → Int32} (hi : i < (bdC t).1) (hv : v < (bdC t).2) (hk : ckc (fun _ _ _ j => r j) t i v = true) (hr : ∀ j, (crf t j = false) → r j = r2 j) : va_at k.2.1 classes (a, edC k t r) H ↔ va_at k.2.1 classes (a, enC k t i v r2) H := by
  match t, hi, hv, hk, hr with
  | 0, hi, hv, hk, hr =>
    have hk : ((r 0 == nI (adC 9 0 0 + 1)) && (r 1 == nI (adC 9 1 0 + 1)) && (r 2 == nI (adC 1 0 0 + 1)) && (r 3 == nI (adC 23 0 0 + 1)) && (r 4 == nI (adC 24 0 0 + 1)) && (r 5 == nI (adC 28 0 0 + 1))) = true := hk
    simp only [Bool.and_eq_true, beq_iff_eq] at hk
    obtain ⟨⟨⟨⟨⟨k0, k1⟩, k2⟩, k3⟩, k4⟩, k5⟩ := hk
    have e : edC k 0 r = enC k 0 i v r2 := by
      show (Sum.inr (9, [rD k (r 0), rD k (r 1), rD k (r 2), rD k (r 3), rD k (r 4), rD k (r 5)]) : va_E) = Sum.inr (9, [.ref (k.1 + adC 9 0 0), .ref (k.1 + adC 9 1 0), .ref (k.1 + adC 1 0 0), .ref (k.1 + adC 23 0 0), .ref (k.1 + adC 24 0 0), .ref (k.1 + adC 28 0 0)])
      rw [k0, rD_set k (by show 29 + 62 * 0 + 1 < 2 ^ 31; omega), k1, rD_set k (by show 29 + 62 * 1 + 1 < 2 ^ 31; omega), k2, rD_set k (by show 1 + 1 < 2 ^ 31; omega), k3, rD_set k (by show 153 + 1 < 2 ^ 31; omega), k4, rD_set k (by show 154 + 1 < 2 ^ 31; omega), k5, rD_set k (by show 158 + 1 < 2 ^ 31; omega)]
    rw [e]
  | 1, hi, hv, hk, hr =>
    have hk : ((r 3 == nI (adC 2 0 0 + 1)) && (r 4 == nI (adC 3 0 0 + 1))) = true := hk
    simp only [Bool.and_eq_true, beq_iff_eq] at hk
    obtain ⟨k3, k4⟩ := hk
    have e : edC k 1 r = enC k 1 i v r2 := by
      show (Sum.inr (7, [.int (r 0), .int (r 1), .int (r 2), rD k (r 3), rD k (r 4)]) : va_E) = Sum.inr (7, [.int (r2 0), .int (r2 1), .int (r2 2), .ref (k.1 + adC 2 0 0), .ref (k.1 + adC 3 0 0)])
      rw [hr 0 rfl, hr 1 rfl, hr 2 rfl, k3, rD_set k (by show 2 + 1 < 2 ^ 31; omega), k4, rD_set k (by show 3 + 1 < 2 ^ 31; omega)]
    rw [e]
  | 2, hi, hv, hk, hr =>
    have h0 : ∀ j, j < 6 → r j = nI (adC 5 j 0 + 1) := fun j hj => by
      have h1 := List.all_eq_true.mp hk j (List.mem_range.mpr hj)
      exact eq_of_beq h1
    show (H[a]? = some (vp_cell _ _)) ↔ (H[a]? = some (vp_cell _ _))
    rw [vr_congr (n := 6) (f := fun j => rO k (r j)) (f' := fun j => some (k.1 + adC 5 j 0)) (fun j hj => by rw [h0 j hj, rO_set k (by show 5 + 4 * j + 1 < 2 ^ 31; omega)])]
  | 3, hi, hv, hk, hr =>
    have hk : ((r 0 == nI (adC 4 0 0 + 1))) = true := hk
    simp only [Bool.and_eq_true, beq_iff_eq] at hk
    have k0 := hk
    have e : edC k 3 r = enC k 3 i v r2 := by
      show (Sum.inr (4, [rD k (r 0), .int (r 1), .int (r 2), .int (r 3), .int (r 4), .int (r 5), rqC k (r 6)]) : va_E) = Sum.inr (4, [.ref (k.1 + adC 4 0 0), .int (r2 1), .int (r2 2), .int (r2 3), .int (r2 4), .int (r2 5), rqC k (r2 6)])
      rw [hr 1 rfl, hr 2 rfl, hr 3 rfl, hr 4 rfl, hr 5 rfl, hr 6 rfl, k0, rD_set k (by show 4 + 1 < 2 ^ 31; omega)]
    rw [e]
  | 4, hi, hv, hk, hr =>
    have e : r = r2 := funext fun j => hr j rfl
    subst e; exact Iff.rfl
  | 5, hi, hv, hk, hr =>
    have hk : ((r 0 == nI (adC 6 i 0 + 1)) && (r 1 == nI (adC 7 i 0 + 1)) && (r 2 == nI (adC 8 i 0 + 1))) = true := hk
    simp only [Bool.and_eq_true, beq_iff_eq] at hk
    obtain ⟨⟨k0, k1⟩, k2⟩ := hk
    have hi : i < 6 := hi
    have e : edC k 5 r = enC k 5 i v r2 := by
      show (Sum.inr (5, [rD k (r 0), rD k (r 1), rD k (r 2), .int (r 3)]) : va_E) = Sum.inr (5, [.ref (k.1 + adC 6 i 0), .ref (k.1 + adC 7 i 0), .ref (k.1 + adC 8 i 0), .int (r2 3)])
      rw [hr 3 rfl, k0, rD_set k (by show 6 + 4 * i + 1 < 2 ^ 31; omega), k1, rD_set k (by show 7 + 4 * i + 1 < 2 ^ 31; omega), k2, rD_set k (by show 8 + 4 * i + 1 < 2 ^ 31; omega)]
    rw [e]
  | 6, hi, hv, hk, hr =>
    have e : r = r2 := funext fun j => hr j rfl
    subst e; exact Iff.rfl
  | 7, hi, hv, hk, hr =>
    have e : r = r2 := funext fun j => hr j rfl
    subst e; exact Iff.rfl
  | 8, hi, hv, hk, hr =>
    have e : r = r2 := funext fun j => hr j rfl
    subst e; exact Iff.rfl
  | 9, hi, hv, hk, hr =>
    have hk : ((r 5 == nI (adC 10 i 0 + 1)) && (r 6 == nI (adC 11 i 0 + 1)) && (r 7 == nI (adC 12 i 0 + 1)) && (r 8 == nI (adC 13 i 0 + 1)) && (r 9 == nI (adC 14 i 0 + 1)) && (r 10 == nI (adC 15 i 0 + 1)) && (r 11 == nI (adC 16 i 0 + 1)) && (r 12 == nI (adC 17 i 0 + 1)) && (r 13 == nI (adC 18 i 0 + 1))) = true := hk
    simp only [Bool.and_eq_true, beq_iff_eq] at hk
    obtain ⟨⟨⟨⟨⟨⟨⟨⟨k5, k6⟩, k7⟩, k8⟩, k9⟩, k10⟩, k11⟩, k12⟩, k13⟩ := hk
    have hi : i < 2 := hi
    have e : edC k 9 r = enC k 9 i v r2 := by
      show (Sum.inr (3, [.int (r 0), .int (r 1), .int (r 2), .int (r 3), rqC k (r 4), rD k (r 5), rD k (r 6), rD k (r 7), rD k (r 8), rD k (r 9), rD k (r 10), rD k (r 11), rD k (r 12), rD k (r 13)]) : va_E) = Sum.inr (3, [.int (r2 0), .int (r2 1), .int (r2 2), .int (r2 3), rqC k (r2 4), .ref (k.1 + adC 10 i 0), .ref (k.1 + adC 11 i 0), .ref (k.1 + adC 12 i 0), .ref (k.1 + adC 13 i 0), .ref (k.1 + adC 14 i 0), .ref (k.1 + adC 15 i 0), .ref (k.1 + adC 16 i 0), .ref (k.1 + adC 17 i 0), .ref (k.1 + adC 18 i 0)])
      rw [hr 0 rfl, hr 1 rfl, hr 2 rfl, hr 3 rfl, hr 4 rfl, k5, rD_set k (by show 30 + 62 * i + 1 < 2 ^ 31; omega), k6, rD_set k (by show 31 + 62 * i + 1 < 2 ^ 31; omega), k7, rD_set k (by show 32 + 62 * i + 1 < 2 ^ 31; omega), k8, rD_set k (by show 33 + 62 * i + 1 < 2 ^ 31; omega), k9, rD_set k (by show 34 + 62 * i + 1 < 2 ^ 31; omega), k10, rD_set k (by show 35 + 62 * i + 1 < 2 ^ 31; omega), k11, rD_set k (by show 36 + 62 * i + 1 < 2 ^ 31; omega), k12, rD_set k (by show 37 + 62 * i + 1 < 2 ^ 31; omega), k13, rD_set k (by show 38 + 62 * i + 1 < 2 ^ 31; omega)]
    rw [e]
  | 10, hi, hv, hk, hr =>
    have e : r = r2 := funext fun j => hr j rfl
    subst e; exact Iff.rfl
  | 11, hi, hv, hk, hr =>
    have e : r = r2 := funext fun j => hr j rfl
    subst e; exact Iff.rfl
  | 12, hi, hv, hk, hr =>
    have e : r = r2 := funext fun j => hr j rfl
    subst e; exact Iff.rfl
  | 13, hi, hv, hk, hr =>
    have e : r = r2 := funext fun j => hr j rfl
    subst e; exact Iff.rfl
  | 14, hi, hv, hk, hr =>
    have e : r = r2 := funext fun j => hr j rfl
    subst e; exact Iff.rfl
  | 15, hi, hv, hk, hr =>
    have e : r = r2 := funext fun j => hr j rfl
    subst e; exact Iff.rfl
  | 16, hi, hv, hk, hr =>
    have h0 : ∀ j, j < 12 → r j = nI (adC 19 i j + 1) := fun j hj => by
      have h1 := List.all_eq_true.mp hk j (List.mem_range.mpr hj)
      exact eq_of_beq h1
    show (H[a]? = some (vp_cell _ _)) ↔ (H[a]? = some (vp_cell _ _))
    rw [vr_congr (n := 12) (f := fun j => rO k (r j)) (f' := fun j => some (k.1 + adC 19 i j)) (fun j hj => by rw [h0 j hj, rO_set k (by have hi : i < 2 := hi; show 39 + 62 * i + 3 * j + 1 < 2 ^ 31; omega)])]
  | 17, hi, hv, hk, hr =>
    have h0 : ∀ j, j < 16 → r j = nI (adC 22 i j + 1) := fun j hj => by
      have h1 := List.all_eq_true.mp hk j (List.mem_range.mpr hj)
      exact eq_of_beq h1
    show (H[a]? = some (vp_cell _ _)) ↔ (H[a]? = some (vp_cell _ _))
    rw [vr_congr (n := 16) (f := fun j => rO k (r j)) (f' := fun j => some (k.1 + adC 22 i j)) (fun j hj => by rw [h0 j hj, rO_set k (by have hi : i < 2 := hi; show 75 + 62 * i + j + 1 < 2 ^ 31; omega)])]
  | 18, hi, hv, hk, hr =>
    have e : r = r2 := funext fun j => hr j rfl
    subst e; exact Iff.rfl
  | 19, hi, hv, hk, hr =>
    have hk : ((r 13 == nI (adC 20 i v + 1)) && (r 14 == nI (adC 21 i v + 1))) = true := hk
    simp only [Bool.and_eq_true, beq_iff_eq] at hk
    obtain ⟨k13, k14⟩ := hk
    have hi : i < 2 := hi
    have hv : v < 12 := hv
    have e : edC k 19 r = enC k 19 i v r2 := by
      show (Sum.inr (8, [.int (r 0), .int (r 1), .int (r 2), .int (r 3), .int (r 4), .int (r 5), .int (r 6), .int (r 7), .int (r 8), .int (r 9), .int (r 10), .int (r 11), .int (r 12), rD k (r 13), rD k (r 14)]) : va_E) = Sum.inr (8, [.int (r2 0), .int (r2 1), .int (r2 2), .int (r2 3), .int (r2 4), .int (r2 5), .int (r2 6), .int (r2 7), .int (r2 8), .int (r2 9), .int (r2 10), .int (r2 11), .int (r2 12), .ref (k.1 + adC 20 i v), .ref (k.1 + adC 21 i v)])
      rw [hr 0 rfl, hr 1 rfl, hr 2 rfl, hr 3 rfl, hr 4 rfl, hr 5 rfl, hr 6 rfl, hr 7 rfl, hr 8 rfl, hr 9 rfl, hr 10 rfl, hr 11 rfl, hr 12 rfl, k13, rD_set k (by show 40 + 62 * i + 3 * v + 1 < 2 ^ 31; omega), k14, rD_set k (by show 41 + 62 * i + 3 * v + 1 < 2 ^ 31; omega)]
    rw [e]
  | 20, hi, hv, hk, hr =>
    have e : r = r2 := funext fun j => hr j rfl
    subst e; exact Iff.rfl
  | 21, hi, hv, hk, hr =>
    have e : r = r2 := funext fun j => hr j rfl
    subst e; exact Iff.rfl
  | 22, hi, hv, hk, hr =>
    have hi : i < 2 := hi
    have hv : v < 16 := hv
    have e : edC k 22 r = enC k 22 i v r2 := by
      show (Sum.inr (1, [.int (r 0), .int (r 1), .int (r 2), .int (r 3), .int (r 4), .int (r 5)]) : va_E) = Sum.inr (1, [.int (r2 0), .int (r2 1), .int (r2 2), .int (r2 3), .int (r2 4), .int (r2 5)])
      rw [hr 0 rfl, hr 1 rfl, hr 2 rfl, hr 3 rfl, hr 4 rfl, hr 5 rfl]
    rw [e]
  | 23, hi, hv, hk, hr =>
    have e : edC k 23 r = enC k 23 i v r2 := by
      show (Sum.inr (2, [.int (r 0), .int (r 1), .int (r 2), .int (r 3)]) : va_E) = Sum.inr (2, [.int (r2 0), .int (r2 1), .int (r2 2), .int (r2 3)])
      rw [hr 0 rfl, hr 1 rfl, hr 2 rfl, hr 3 rfl]
    rw [e]
  | 24, hi, hv, hk, hr =>
    have hk : ((r 1 == nI (adC 25 0 0 + 1)) && (r 2 == nI (adC 26 0 0 + 1)) && (r 3 == nI (adC 27 0 0 + 1))) = true := hk
    simp only [Bool.and_eq_true, beq_iff_eq] at hk
    obtain ⟨⟨k1, k2⟩, k3⟩ := hk
    have e : edC k 24 r = enC k 24 i v r2 := by
      show (Sum.inr (0, [.int (r 0), rD k (r 1), rD k (r 2), rD k (r 3)]) : va_E) = Sum.inr (0, [.int (r2 0), .ref (k.1 + adC 25 0 0), .ref (k.1 + adC 26 0 0), .ref (k.1 + adC 27 0 0)])
      rw [hr 0 rfl, k1, rD_set k (by show 155 + 1 < 2 ^ 31; omega), k2, rD_set k (by show 156 + 1 < 2 ^ 31; omega), k3, rD_set k (by show 157 + 1 < 2 ^ 31; omega)]
    rw [e]
  | 25, hi, hv, hk, hr =>
    have e : r = r2 := funext fun j => hr j rfl
    subst e; exact Iff.rfl
  | 26, hi, hv, hk, hr =>
    have e : r = r2 := funext fun j => hr j rfl
    subst e; exact Iff.rfl
  | 27, hi, hv, hk, hr =>
    have e : r = r2 := funext fun j => hr j rfl
    subst e; exact Iff.rfl
  | 28, hi, hv, hk, hr =>
    have h0 : ∀ j, j < 4 → r j = nI (adC 29 j 0 + 1) := fun j hj => by
      have h1 := List.all_eq_true.mp hk j (List.mem_range.mpr hj)
      exact eq_of_beq h1
    show (H[a]? = some (vp_cell _ _)) ↔ (H[a]? = some (vp_cell _ _))
    rw [vr_congr (n := 4) (f := fun j => rO k (r j)) (f' := fun j => some (k.1 + adC 29 j 0)) (fun j hj => by rw [h0 j hj, rO_set k (by show 159 + 2 * j + 1 < 2 ^ 31; omega)])]
  | 29, hi, hv, hk, hr =>
    have hk : ((r 2 == nI (adC 30 i 0 + 1))) = true := hk
    simp only [Bool.and_eq_true, beq_iff_eq] at hk
    have k2 := hk
    have hi : i < 4 := hi
    have e : edC k 29 r = enC k 29 i v r2 := by
      show (Sum.inr (6, [.int (r 0), .int (r 1), rD k (r 2)]) : va_E) = Sum.inr (6, [.int (r2 0), .int (r2 1), .ref (k.1 + adC 30 i 0)])
      rw [hr 0 rfl, hr 1 rfl, k2, rD_set k (by show 160 + 2 * i + 1 < 2 ^ 31; omega)]
    rw [e]
  | 30, hi, hv, hk, hr =>
    have e : r = r2 := funext fun j => hr j rfl
    subst e; exact Iff.rfl
  | n + 31, hi, hv, hk, hr => exact absurd hi (Nat.not_lt_zero _)
theorem ck_self {g : Mm} {t i v : Nat} (h : ckc g t i v = true) : ckc (fun _ _ _ j => g (adC t i v) 0 0 j) t i v = true := (ck_congr (g := g) (g2 := fun _ _ _ j => g (adC t i v) 0 0 j) (fun _ _ => rfl)).symm.trans h
abbrev ST (t : Nat) : Prop := 1 ≤ t ∧ t ≤ 8
theorem adT {t i v : Nat} (hs : ST t) (hi : i < (bdC t).1) : 1 ≤ adC t i v ∧ adC t i v < 29 := by
  obtain ⟨h1, h2⟩ := hs
  match t, h1, h2, hi with
  | 1, _, _, _ => exact ⟨Nat.le_refl 1, by show 1 < 29; omega⟩
  | 2, _, _, _ => exact ⟨by show 1 ≤ 2; omega, by show 2 < 29; omega⟩
  | 3, _, _, _ => exact ⟨by show 1 ≤ 3; omega, by show 3 < 29; omega⟩
  | 4, _, _, _ => exact ⟨by show 1 ≤ 4; omega, by show 4 < 29; omega⟩
  | 5, _, _, hi => have hi : i < 6 := hi; exact ⟨by show 1 ≤ 5 + 4 * i; omega, by show 5 + 4 * i < 29; omega⟩
  | 6, _, _, hi => have hi : i < 6 := hi; exact ⟨by show 1 ≤ 6 + 4 * i; omega, by show 6 + 4 * i < 29; omega⟩
  | 7, _, _, hi => have hi : i < 6 := hi; exact ⟨by show 1 ≤ 7 + 4 * i; omega, by show 7 + 4 * i < 29; omega⟩
  | 8, _, _, hi => have hi : i < 6 := hi; exact ⟨by show 1 ≤ 8 + 4 * i; omega, by show 8 + 4 * i < 29; omega⟩
  | t + 9, h1, h2, _ => omega
/-- the texts' part, as it stays -/
theorem cv_T {k : En} {n : Nat} {g : Mm} {H : Heap} (h : Wd DC (fun c => c < n) k g H) (hn : 29 ≤ n) (hk : ckT g = true) : Wd YC ST k (toS g) H := by
  intro t i v hs hi hv
  have hc := List.all_eq_true.mp hk (t, i, v) (List.mem_filter.mpr ⟨inC hi hv, by simp [hs.1, hs.2]⟩)
  obtain ⟨e1, e2⟩ := kd_ad hi hv
  have hlt := (adT hs hi (v := v)).2
  have h0 := h (adC t i v) 0 0 (by show _ < n; omega) (yk1 e2) (yk2 e2)
  have h0 : va_at k.2.1 classes (k.1 + adC t i v, edC k (kdC (adC t i v)) (g (adC t i v) 0 0)) H := h0
  rw [e1] at h0
  exact (cv_at hi hv (ck_self hc) (fun j _ => rfl)).mp h0
theorem cv_A {k : En} {g : Mm} {H : Heap} (h : Wd DC (fun c => c < 167) k g H) (hk : ckA g = true) : Wd YC (fun _ => True) k (toS g) H := by
  intro t i v _ hi hv
  have hc := List.all_eq_true.mp hk (t, i, v) (inC hi hv)
  obtain ⟨e1, e2⟩ := kd_ad hi hv
  have h0 := h (adC t i v) 0 0 e2 (yk1 e2) (yk2 e2)
  have h0 : va_at k.2.1 classes (k.1 + adC t i v, edC k (kdC (adC t i v)) (g (adC t i v) 0 0)) H := h0
  rw [e1] at h0
  exact (cv_at hi hv (ck_self hc) (fun j _ => rfl)).mp h0
/-- which text cell a number is -/
def tvT (c : Nat) : Nat × Nat := if c < 5 then (c, 0) else (5 + (c - 5) % 4, (c - 5) / 4)
theorem tvT_all : ∀ c, c < 29 → 1 ≤ c → adC (tvT c).1 (tvT c).2 0 = c ∧ kdC c = (tvT c).1 ∧ 1 ≤ (tvT c).1 ∧ (tvT c).1 ≤ 8 ∧ (tvT c).2 < (bdC (tvT c).1).1 ∧ 0 < (bdC (tvT c).1).2 := by decide +kernel
/-- back: the texts' numbers as they are now, the references as they were -/
def bkT (g gs : Mm) : Mm := fun c i v j => if 1 ≤ c ∧ c < 29 then (if crf (tvT c).1 j then g c i v j else gs (tvT c).1 (tvT c).2 0 j) else g c i v j
theorem cv_back {k : En} {n : Nat} {g gs : Mm} {H H1 : Heap} (hz : H.size = k.1 + n) (h : Wd DC (fun c => c < n) k g H) (hk : ckT g = true) (h1 : Wd YC ST k gs H1) (ho : ∀ q, q < H.size → ¬ AS YC ST k q → H1[q]? = H[q]?) : Wd DC (fun c => c < n) k (bkT g gs) H1 := by
  intro c i v hs hi hv
  have hs : c < n := hs
  have ei : i = 0 ∧ v = 0 := by
    have h1 : i < (if c < 167 then ((1, 1) : Nat × Nat) else (0, 0)).1 := hi
    have h2 : v < (if c < 167 then ((1, 1) : Nat × Nat) else (0, 0)).2 := hv
    split at h1
    · rename_i q; rw [if_pos q] at h2; exact ⟨by simpa using h1, by simpa using h2⟩
    · simp at h1
  obtain ⟨rfl, rfl⟩ := ei
  by_cases hc : 1 ≤ c ∧ c < 29
  · obtain ⟨e1, e2, e3, e4, e5, e6⟩ := tvT_all c hc.2 hc.1
    have hck := List.all_eq_true.mp hk ((tvT c).1, (tvT c).2, 0) (List.mem_filter.mpr ⟨inC e5 e6, by simp [e3, e4]⟩)
    have h2 := h1 (tvT c).1 (tvT c).2 0 ⟨e3, e4⟩ e5 e6
    have h2 : va_at k.2.1 classes (k.1 + adC (tvT c).1 (tvT c).2 0, enC k (tvT c).1 (tvT c).2 0 (gs (tvT c).1 (tvT c).2 0)) H1 := h2
    rw [e1] at h2
    show va_at k.2.1 classes (k.1 + c, edC k (kdC c) (bkT g gs c 0 0)) H1
    rw [e2]
    refine (cv_at e5 e6 ?_ (fun j hj => ?_)).mpr h2
    · have e7 : ckc (fun _ _ _ j => bkT g gs c 0 0 j) (tvT c).1 (tvT c).2 0 = ckc (fun _ _ _ j => g (adC (tvT c).1 (tvT c).2 0) 0 0 j) (tvT c).1 (tvT c).2 0 := by
        refine ck_congr fun j hj => ?_
        show bkT g gs c 0 0 j = g (adC (tvT c).1 (tvT c).2 0) 0 0 j
        unfold bkT
        rw [if_pos hc, if_pos hj, e1]
      rw [e7]
      exact ck_self hck
    · unfold bkT
      rw [if_pos hc, hj]
      rfl
  · have e0 : bkT g gs c 0 0 = g c 0 0 := by
      funext j
      unfold bkT
      rw [if_neg hc]
    rw [e0]
    refine (h c 0 0 hs hi hv).kept (ho _ (by show k.1 + c < H.size; rw [hz]; omega) ?_)
    rintro ⟨t, i, v, q1, q2, q3, q4⟩
    have q4 : k.1 + c = k.1 + adC t i v := q4
    have := adT q1 q2 (v := v)
    exact hc (by omega)
section TRows
variable {p : Program} {l : Launch} {e : Env} {R : Room} {s : State} {m : MethodId} {args : Array Value} {below : List Frame} {meth : Method} {c : Code} {H : Heap} {locs : List Loc} {cells slots : Nat} {Q : State → Prop}
variable {k : En} {g : Mm} {cc : ByteArray} {nL pc n : Nat} {own : String} {ls : Array Slot} {rest : List Value}
theorem sub_T (k : En) : ∀ q, AS YC ST k q → AU k q := fun q ⟨t, i, v, _, _, _, e⟩ => by rw [e]; exact Nat.le_add_right _ _
theorem recv_T (X : Cd k p s m args meth c cc nL own) (h : Wd YC ST k g H) : ∃ cell : Cell, H[k.1 + adC 1 0 0]? = some cell ∧ cell.vm.isStatics = false ∧ s.vm.findClass RX8 = some cell.cls :=
  va_recv X.K (wd_one (Y := YC) (t := 1) (i := 0) (v := 0) h (show ST 1 by decide) Nat.one_pos Nat.one_pos rfl) (ci := 7) (q := (RX8, TX8, 5)) rfl (q0 := 0) rfl
theorem rd_take (X : Cd k p s m args meth c cc nL own) (h : Hd DC k n s g H locs) {d : Nat} (hq : d = 1 ∧ 29 ≤ n ∧ ckT g = true) {gs g1 : Mm} {y : Int32} (hf : fX8_take (toS g) = some (gs, y)) (hg : g1 = bkT g gs) {idx : Nat} (hl : Cond.methodLink own idx yX8_take ∈ Gt) (hR : 117 + 1 ≤ R.frames ∧ 8 + (2 + 11) + 4405 ≤ R.locals) {l0 : List (Nat × Value)} (hls : lv_has ls nL l0) (hcat : (rest.map fun v => v.category).sum ≤ 8) (hcs : cells ≤ R.cells ∧ slots ≤ R.slots) (hd : decode cc pc = .ok (.invokevirtual idx, 3))
    (kk : ∀ (H : Heap) (locs : List Loc), Hd DC k n s g1 H locs → W p l e R s m args below meth c H locs cells slots Q (F0 m (pc + 3) ls (.int y :: rest))) : W p l e R s m args below meth c H locs cells slots Q (F0 m pc ls (.ref (k.1 + d) :: rest)) := by
  obtain ⟨rfl, h29, hk⟩ := hq
  subst hg
  have hw := cv_T h.1 h29 hk
  exact rd_callv X h (Y1 := YC) (S1 := ST) hw (sub_T k) (As := []) (kX8_take l (fun t q1 q2 => ⟨q1, q2⟩) hf) mv_X8_take hl ⟨rfl, rfl⟩ hR (recv_T X hw) rfl hls rfl hcat hcs hd fun H1 locs1 q1 q2 q3 q4 => kk H1 locs1 ⟨cv_back h.2.2 h.1 hk q1 q2, q3, q4⟩
theorem rd_rule (X : Cd k p s m args meth c cc nL own) (h : Hd DC k n s g H locs) {d : Nat} (hq : d = 1 ∧ 29 ≤ n ∧ ckT g = true) {y : Nat} (hf : fX8_rule (toS g) = some y) {idx : Nat} (hl : Cond.methodLink own idx yX8_rule ∈ Gt) (hR : 0 + 1 ≤ R.frames ∧ 8 + (1 + 11) + 0 ≤ R.locals) {l0 : List (Nat × Value)} (hls : lv_has ls nL l0) (hcat : (rest.map fun v => v.category).sum ≤ 8) (hcs : cells ≤ R.cells ∧ slots ≤ R.slots) (hd : decode cc pc = .ok (.invokevirtual idx, 3))
    (kk : ∀ (H : Heap) (locs : List Loc), Hd DC k n s g H locs → W p l e R s m args below meth c H locs cells slots Q (F0 m (pc + 3) ls (.ref (k.1 + adC 5 y 0) :: rest))) : W p l e R s m args below meth c H locs cells slots Q (F0 m pc ls (.ref (k.1 + d) :: rest)) := by
  obtain ⟨rfl, h29, hk⟩ := hq
  have hw := cv_T h.1 h29 hk
  exact rd_callv X h (Y1 := YC) (S1 := ST) hw (sub_T k) (As := []) (kX8_rule l (fun t q1 q2 => ⟨q1, q2⟩) hf) mv_X8_rule hl ⟨rfl, rfl⟩ hR (recv_T X hw) rfl hls rfl hcat hcs hd fun H1 locs1 q1 q2 q3 q4 => kk H1 locs1 ⟨fun c i v z1 z2 z3 => by
    have h0 := cv_back h.2.2 h.1 hk q1 q2 c i v z1 z2 z3
    have e0 : bkT g (toS g) c i v = g c i v := by
      have ei : i = 0 ∧ v = 0 := by
        have h1 : i < (if c < 167 then ((1, 1) : Nat × Nat) else (0, 0)).1 := z2
        have h2 : v < (if c < 167 then ((1, 1) : Nat × Nat) else (0, 0)).2 := z3
        split at h1
        · rename_i q; rw [if_pos q] at h2; exact ⟨by simpa using h1, by simpa using h2⟩
        · simp at h1
      obtain ⟨rfl, rfl⟩ := ei
      funext j
      unfold bkT
      split
      · rename_i hc
        split
        · rfl
        · show g (adC _ _ 0) 0 0 j = _
          rw [(tvT_all c hc.2 hc.1).1]
      · rfl
    rw [e0] at h0
    exact h0, q3, q4⟩
end TRows

