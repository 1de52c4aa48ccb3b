-- ===== the tables' words that a method may need, all in one list =====
def Gt : List Cond := lw_tbl.filter goodWord
theorem gmr {w : Cond} (h : w ∈ tables_1) (hg : goodWord w = true) : w ∈ Gt := List.mem_filter.mpr ⟨List.mem_append_right _ h, hg⟩
theorem gs {w : Cond} (i : Nat) (h : (k2_sels lw_privs)[i]? = some w) (hg : goodWord w = true) : w ∈ Gt := List.mem_filter.mpr ⟨List.mem_append_left _ (List.mem_of_getElem? h), hg⟩
theorem gr0 {w : Cond} (i : Nat) (h : tables_1_1[i]? = some w) (hg : goodWord w = true) : w ∈ Gt := gmr (List.mem_append_left _ (List.mem_of_getElem? h)) hg
theorem gr1 {w : Cond} (i : Nat) (h : tables_1_2[i]? = some w) (hg : goodWord w = true) : w ∈ Gt := gmr (List.mem_append_right _ (List.mem_append_left _ (List.mem_of_getElem? h))) hg
theorem gr2 {w : Cond} (i : Nat) (h : tables_1_3[i]? = some w) (hg : goodWord w = true) : w ∈ Gt := gmr (List.mem_append_right _ (List.mem_append_right _ (List.mem_append_left _ (List.mem_of_getElem? h)))) hg
theorem gr3 {w : Cond} (i : Nat) (h : tables_1_4[i]? = some w) (hg : goodWord w = true) : w ∈ Gt := gmr (List.mem_append_right _ (List.mem_append_right _ (List.mem_append_right _ (List.mem_append_left _ (List.mem_of_getElem? h))))) hg
theorem gr4 {w : Cond} (i : Nat) (h : tables_1_5[i]? = some w) (hg : goodWord w = true) : w ∈ Gt := gmr (List.mem_append_right _ (List.mem_append_right _ (List.mem_append_right _ (List.mem_append_right _ (List.mem_append_left _ (List.mem_of_getElem? h)))))) hg
theorem gr5 {w : Cond} (i : Nat) (h : tables_1_6[i]? = some w) (hg : goodWord w = true) : w ∈ Gt := gmr (List.mem_append_right _ (List.mem_append_right _ (List.mem_append_right _ (List.mem_append_right _ (List.mem_append_right _ (List.mem_append_left _ (List.mem_of_getElem? h))))))) hg
theorem gr6 {w : Cond} (i : Nat) (h : tables_1_7[i]? = some w) (hg : goodWord w = true) : w ∈ Gt := gmr (List.mem_append_right _ (List.mem_append_right _ (List.mem_append_right _ (List.mem_append_right _ (List.mem_append_right _ (List.mem_append_right _ (List.mem_of_getElem? h))))))) hg
theorem u_in {C : String} {T : u_T} {N : Nat} (h : ∀ j, j < N → u_lay C T j ∈ Gt) : ∀ w ∈ u_ws C T N, w ∈ Gt := fun w hw => by
  obtain ⟨j, hj, rfl⟩ := List.mem_map.mp hw
  exact h j (List.mem_range.mp hj)
theorem gt_good {w : Cond} (h : w ∈ Gt) : goodWord w = true := (List.mem_filter.mp h).2
theorem gt_tbl {w : Cond} (h : w ∈ Gt) : w ∈ lw_tbl := (List.mem_filter.mp h).1
-- ===== memory: numbers by cell (kind, two indices) and slot =====
abbrev Mm : Type := Nat → Nat → Nat → Nat → Int32
def st (g : Mm) (t i v j : Nat) (x : Int32) : Mm := fun t' i' v' j' => if t' = t ∧ i' = i ∧ v' = v ∧ j' = j then x else g t' i' v' j'
/-- where the world lies: its first address, the classes' numbers, the array classes, the static arrays, the strings and their bytes -/
abbrev En : Type := Nat × va_G × (Nat → ClassId) × (Nat → Nat) × (Nat → Nat) × (Nat → Nat)
/-- a layout: address of a cell behind the first one; how many there are of a kind; what a cell holds -/
abbrev Ly : Type := (Nat → Nat → Nat → Nat) × (Nat → Nat × Nat) × (En → Nat → Nat → Nat → (Nat → Int32) → va_E)
def Okl (Y : Ly) : Prop := ∀ t i v t' i' v', i < (Y.2.1 t).1 → v < (Y.2.1 t).2 → i' < (Y.2.1 t').1 → v' < (Y.2.1 t').2 → Y.1 t i v = Y.1 t' i' v' → t = t' ∧ i = i' ∧ v = v'
def Wd (Y : Ly) (S : Nat → Prop) (k : En) (g : Mm) (H : Heap) : Prop := ∀ t i v, S t → i < (Y.2.1 t).1 → v < (Y.2.1 t).2 → va_at k.2.1 classes (k.1 + Y.1 t i v, Y.2.2 k t i v (g t i v)) H
def AS (Y : Ly) (S : Nat → Prop) (k : En) (q : Nat) : Prop := ∃ t i v, S t ∧ i < (Y.2.1 t).1 ∧ v < (Y.2.1 t).2 ∧ q = k.1 + Y.1 t i v
theorem st_self (g : Mm) (t i v j : Nat) (x : Int32) : st g t i v j x t i v = upd (g t i v) j x := by
  funext j'
  simp [st, upd]
theorem st_off {g : Mm} {t i v j t' i' v' : Nat} {x : Int32} (h : ¬ (t' = t ∧ i' = i ∧ v' = v)) : st g t i v j x t' i' v' = g t' i' v' := by
  funext j'
  unfold st
  rw [if_neg]
  exact fun q => h ⟨q.1, q.2.1, q.2.2.1⟩
theorem wd_put {Y : Ly} {S : Nat → Prop} {k : En} {g : Mm} {H H' : Heap} {t i v j : Nat} {x : Int32} (hY : Okl Y) (h : Wd Y S k g H) (hi : i < (Y.2.1 t).1) (hv : v < (Y.2.1 t).2)
    (hat : va_at k.2.1 classes (k.1 + Y.1 t i v, Y.2.2 k t i v (upd (g t i v) j x)) H') (hq : ∀ q, q ≠ k.1 + Y.1 t i v → H'[q]? = H[q]?) : Wd Y S k (st g t i v j x) H' := by
  intro t' i' v' hs hi' hv'
  by_cases e : t' = t ∧ i' = i ∧ v' = v
  · obtain ⟨rfl, rfl, rfl⟩ := e
    rw [st_self]
    exact hat
  · rw [st_off e]
    refine (h t' i' v' hs hi' hv').kept (hq _ fun q => e ?_)
    exact hY t' i' v' t i v hi' hv' hi hv (Nat.add_left_cancel q)
theorem wd_one {Y : Ly} {S : Nat → Prop} {k : En} {g : Mm} {H : Heap} {t i v : Nat} (h : Wd Y S k g H) (hs : S t) (hi : i < (Y.2.1 t).1) (hv : v < (Y.2.1 t).2) {en : va_E} (he : Y.2.2 k t i v (g t i v) = en) : va_P k.2.1 classes [(k.1 + Y.1 t i v, en)] H := by
  intro n q hn
  cases n with
  | zero => cases hn; rw [← he]; exact h t i v hs hi hv
  | succ n => simp at hn
theorem vd_one {A : Nat → Prop} {a : Nat} {en : va_E} (h : A a) : va_D A [(a, en)] := by
  refine ⟨fun i j p q hi hj _ => ?_, fun n q hn => ?_⟩
  · cases i with
    | zero => cases j with
      | zero => rfl
      | succ j => simp at hj
    | succ i => simp at hi
  · cases n with
    | zero => cases hn; exact h
    | succ n => simp at hn
-- ===== the class's static arrays and its strings =====
def sT : List (String × String × List Int32) := [
  ("WingPort$Port", "LEAST_SET", [0, 0, 0, 0, 0, 0, 0, 0, 1]),
  ("WingPort$Port", "MOST_SET", [9, 9, 9, 9, 9, 1, 1, 9, 2]),
  ("WingPort$Planes", "ABOVE", [-1, 0, 0, 1, 2, 3]),
  ("WingPort$Planes", "SIZES", [1, 2, 1, 3, 1, 3]),
  ("WingPort$Planes", "ROLLS", [2, 2, 2, 3, 2, 3]),
  ("WingPort$Planes", "LASTS", [2, 6, 4, 5, 4, 8, 6, 3, 2, 10, 4, 8, 4, 12, 6, 3, 2, 6, 2, 5, 0, 8, 6, 3, 2, 20, 4, 8, 4, 24, 12, 3, 2, 3, 2, 5, 0, 4, 6, 3, 2, 20, 0, 8, 0, 34, 12, 3]),
  ("WingPort$Planes", "BEHIND", [0, 1, 2, 2, 4, 24, 32, 96]),
  ("WingPort$Planes", "TRUCK", [0, -1, -1, 1, 2, -1, 4, 3])]
/-- what a static array (by its place in sT) holds -/
def sV (q : Nat) (j : Nat) : Int32 := (((sT.map (fun r => r.2.2))[q]?).getD []).getD j 0
def kS : List (String × Nat × String) := [("WingPort$Texts", 25, "prio in * 100 + wait ; sep 2 + fog * 4 ; hold 0 ;"), ("WingPort$Reader", 96, "();+-*<="), ("WingPort$Reader", 108, "prio sep  hold or   and  not  in   late kind wait prev fog  bags crew ")]
def kB : List (List Int32) := kS.map (fun r => r.2.2.toList.map (fun ch => Int32.ofNat ch.toNat))
def kL : List Nat := kB.map (fun r => r.length)
def SE (A : Nat → Prop) (k : En) (s : State) (H : Heap) : Prop :=
  (∀ (q : Nat) (r : String × String × List Int32), sT[q]? = some r → va_Z r.1 r.2.1 "[I" (.ref (k.2.2.2.1 q)) A s H ∧ va_T .int (k.2.2.2.1 q) r.2.2.length (fun j => .int (r.2.2.getD j 0)) A s H) ∧
  vk_S 3 kL kB k.2.2.2.2.1 k.2.2.2.2.2 A s H ∧ (∀ (q : Nat) (r : String × Nat × String), kS[q]? = some r → vk_R r.1 r.2.1 r.2.2 (k.2.2.2.2.1 q) s) ∧
  va_Z "java/lang/String" "COMPACT_STRINGS" "Z" (.int 1) A s H ∧ va_Zq "jdk/internal/util/Preconditions" "SIOOBE_FORMATTER" "Ljava/util/function/BiFunction;" A s H
theorem SE.kept {A : Nat → Prop} {k : En} {s : State} {H H1 : Heap} (h : SE A k s H) (hq : ∀ a : Nat, a < H.size → ¬ A a → H1[a]? = H[a]?) : SE A k s H1 := by
  obtain ⟨h1, h2, h3, h4, h5⟩ := h
  exact ⟨fun q r hr => ⟨(h1 q r hr).1.kept hq, (h1 q r hr).2.kept hq⟩, h2.kept hq, h3, h4.kept hq, h5.kept hq⟩
theorem SE.narrow {A B : Nat → Prop} {k : En} {s : State} {H : Heap} (h : SE A k s H) (hAB : ∀ q, B q → A q) : SE B k s H := by
  obtain ⟨h1, h2, h3, h4, h5⟩ := h
  exact ⟨fun q r hr => ⟨(h1 q r hr).1.narrow hAB, (h1 q r hr).2.narrow hAB⟩, h2.narrow hAB, h3, h4.narrow hAB, h5.narrow hAB⟩
theorem SE.warm {A : Nat → Prop} {k : En} {s U : State} {H : Heap} (h : SE A k s H) (hW : s.WarmedH U.vm) : SE A k U H := by
  obtain ⟨h1, h2, h3, h4, h5⟩ := h
  exact ⟨fun q r hr => ⟨va_Z.moved hW.alike (h1 q r hr).1, va_T.moved hW.alike (h1 q r hr).2⟩, vk_S.moved hW.alike h2, fun q r hr => vk_R.warm hW (h3 q r hr), va_Z.moved hW.alike h4, va_Zq.moved hW.alike h5⟩
theorem SE.blind {A : Nat → Prop} {k : En} {U : State} {H : Heap} (h : SE A k U H) (gf : JFrame) (mk : MethodId) (a : Array Value) : SE A k (U.calling gf mk a) H := by
  obtain ⟨h1, h2, h3, h4, h5⟩ := h
  exact ⟨fun q r hr => ⟨va_Z.moved (u := U) (U := U.calling gf mk a) (Vm.Alike.refl U.vm) (h1 q r hr).1, va_T.moved (u := U) (U := U.calling gf mk a) (Vm.Alike.refl U.vm) (h1 q r hr).2⟩, vk_S.moved (u := U) (U := U.calling gf mk a) (Vm.Alike.refl U.vm) h2, fun q r hr => vk_R.same (u := U) (U := U.calling gf mk a) rfl (h3 q r hr), va_Z.moved (u := U) (U := U.calling gf mk a) (Vm.Alike.refl U.vm) h4, va_Zq.moved (u := U) (U := U.calling gf mk a) (Vm.Alike.refl U.vm) h5⟩
-- ===== a method's contract over such a world =====
def tysOf (k : En) : List (ClassId × FieldType) := [(k.2.2.1 0, .int), (k.2.2.1 1, .object "WingPort$Rule"), (k.2.2.1 2, .object "WingPort$Visit"), (k.2.2.1 3, .object "WingPort$Feed"), (k.2.2.1 4, .object "WingPort$Sheet")]
abbrev RmN (f lo : Nat) : Room := { frames := f, cells := 0, slots := 0, locals := lo }
def PreB (Y : Ly) (S : Nat → Prop) (k : En) (g : Mm) (U : State) : Prop := Wd Y S k g U.heap ∧ va_K k.2.1 classes (tysOf k) U ∧ SE (AS Y S k) k U U.heap
def PostB (Y : Ly) (S : Nat → Prop) (k : En) (rv : Option Value) (g : Mm) : Array Value → State → Outcome → State → Prop := fun _ st0 oc t => oc = .returned rv ∧ Wd Y S k g t.heap ∧ va_F (AS Y S k) st0 t ∧ t.heap.size = st0.heap.size
def Mt (l : Launch) (y : MethodName) (cc : ByteArray) (nL : Nat) (ret : Option FieldType) (rm : Room) (Y : Ly) (S : Nat → Prop) (k : En) (As : List Value) (g : Mm) (rv : Option Value) (g' : Mm) : Prop :=
  Met l y (.code y cc nL ret :: Gt) rm (va_Pc As (PreB Y S k g)) (PostB Y S k rv g') 0 0 (AS Y S k)
/-- what holds all along a method's body -/
def Cx (Y : Ly) (S : Nat → Prop) (k : En) (p : Program) (s : State) (m : MethodId) (args : Array Value) (meth : Method) (c : Code) (cc : ByteArray) (nL : Nat) (ret : Option FieldType) (own : String) : Prop :=
  CallFix p m c cc nL s args Gt own ∧ va_K k.2.1 classes (tysOf k) s ∧ SE (AS Y S k) k s s.heap ∧ meth.sig.returnType = ret ∧ meth.locks = false
/-- the heap now: the world holds g, and since the start nothing else has changed -/
def Hx (Y : Ly) (S : Nat → Prop) (k : En) (s : State) (g : Mm) (H : Heap) (locs : List Loc) : Prop := Wd Y S k g H ∧ va_S (AS Y S k) s.heap H locs ∧ H.size = s.heap.size
abbrev Fin (Y : Ly) (S : Nat → Prop) (k : En) (args : Array Value) (s : State) (below : List Frame) (rv : Option Value) (g : Mm) : State → Prop := MQ below (PostB Y S k rv g) args s 0 0 (AS Y S k)
theorem PreB.blind {Y : Ly} {S : Nat → Prop} {k : En} {g : Mm} {As : List Value} : FrameBlind (va_Pc As (PreB Y S k g)) := fun a U gf mk q => by
  obtain ⟨rfl, h1, h2, h3⟩ := q
  exact ⟨rfl, h1, va_K.moved (u := U) (U := U.calling gf mk _) (Vm.Alike.refl U.vm) h2, h3.blind gf mk _⟩
theorem Mt.of {l : Launch} {y : MethodName} {cc : ByteArray} {nL : Nat} {ret : Option FieldType} {rm : Room} {Y : Ly} {S : Nat → Prop} {k : En} {As : List Value} {g : Mm} {rv : Option Value} {g' : Mm} (hy : plainName y.cls = true) (hn : (lg_sl As).length ≤ nL)
    (body : ∀ (p : Program) (e : Env) (s : State) (m : MethodId) (args : Array Value) (below : List Frame) (meth : Method) (c : Code) (ls : Array Slot), Cx Y S k p s m args meth c cc nL ret y.cls → (y.name = "<init>" → meth.name = "<init>") → Hx Y S k s g s.heap [] → lv_has ls nL (lv_args 0 As) →
      W p l e rm s m args below meth c s.heap [] 0 0 (Fin Y S k args s below rv g') (F0 m 0 ls [])) : Mt l y cc nL ret rm Y S k As g rv g' := by
  refine Met.ofW (cc := cc) (maxL := nL) (ret := ret) hy rfl ?_
  intro p e s m args below meth c s₁ B hml hv
  obtain ⟨rfl, hW, hK, hE⟩ := hv
  have hts := atoms_spec (ws := .code y cc nL ret :: Gt) B.pre
  have hl := lv_entry As (n := nL) hn
  rw [lg_entry_eq]
  exact body p e s m _ below meth c _ ⟨⟨B.exec, B.bytes, hml, findClass_of_methodNamed B.named, fun w hw => hts w (List.mem_cons_of_mem _ hw)⟩, hK, hE, B.returns, B.notSynchronized⟩ (fun hin => by rw [(name_of_methodNamed B.named B.method).1, hin]) ⟨hW, va_S.rf, rfl⟩ hl
-- ===== what the library's members answer on ints and on the constant strings =====
def kN (q : Nat) : Nat := kL.getD q 0
def kC (q j : Nat) : Int32 := (kB.getD q []).getD j 0
def kX (q : Nat) (x : Int32) : Int32 := match (kB.getD q []).findIdx? (fun b => b == x) with
  | some i => nI i
  | none => -1
def bitU (x y : Int32) : Int32 := (x.toUInt32 >>> (y.toUInt32 &&& Int32.toUInt32 31)).toInt32
def bitA (x : Int32) : Int32 := x - (bitU x 1 &&& 1431655765)
def bitB (x : Int32) : Int32 := (x &&& 858993459) + (bitU x 2 &&& 858993459)
def bitD (x : Int32) : Int32 := (x + bitU x 4) &&& 252645135
def bitE (x : Int32) : Int32 := x + bitU x 8
def bitF (x : Int32) : Int32 := x + bitU x 16
def bitC (x : Int32) : Int32 := bitF (bitE (bitD (bitB (bitA x)))) &&& 63
-- ===== rows over such a world =====
section WRows
variable {p : Program} {l : Launch} {e : Env} {R : Room} {s : State} {m : MethodId} {args : Array Value} {below : List Frame} {meth : Method} {c : Code} {H : Heap} {locs : List Loc} {cells slots : Nat} {Q : State → Prop}
variable {Y : Ly} {S : Nat → Prop} {k : En} {g : Mm} {cc : ByteArray} {nL pc : Nat} {ret : Option FieldType} {own : String} {ls : Array Slot} {rest : List Value}
theorem Cx.x (X : Cx Y S k p s m args meth c cc nL ret own) : p.tables.exec = Jvm.exec := X.1.1
theorem Cx.b (X : Cx Y S k p s m args meth c cc nL ret own) : c.code = cc := X.1.2.1
theorem Cx.o (X : Cx Y S k p s m args meth c cc nL ret own) : s.vm.findClass own = some m.cls := X.1.2.2.2.1
theorem Cx.t (X : Cx Y S k p s m args meth c cc nL ret own) : ∀ w ∈ Gt, w.before args s = true := X.1.2.2.2.2
theorem Cx.K (X : Cx Y S k p s m args meth c cc nL ret own) : va_K k.2.1 classes (tysOf k) s := X.2.1
theorem Cx.L (X : Cx Y S k p s m args meth c cc nL ret own) {l0 : List (Nat × Value)} (hl : lv_has ls nL l0) : c.maxLocals = ls.size := X.1.2.2.1.trans hl.1.symm
/-- a field is read -/
theorem ro_get (X : Cx Y S k p s m args meth c cc nL ret own) (h : Hx Y S k s g H locs) {t i v ci j idx N : Nat} {C : String} {T : u_T} (hs : S t) (hi : i < (Y.2.1 t).1) (hv : v < (Y.2.1 t).2) {fs : List Value} (he : Y.2.2 k t i v (g t i v) = .inr (ci, fs)) (hc : classes[ci]? = some (C, T, N)) (hj : j < N) (hin : ∀ w ∈ u_ws C T N, w ∈ Gt)
    (hl : Cond.fieldLink own idx (T j).1 (T j).2.1 (T j).2.2.1 ∈ Gt) {val : Value} (hval : fs[j]? = some val) (hd : decode cc pc = .ok (.getfield idx, 3))
    (kk : W p l e R s m args below meth c H locs cells slots Q (F0 m (pc + 3) ls (val :: rest))) : W p l e R s m args below meth c H locs cells slots Q (F0 m pc ls (.ref (k.1 + Y.1 t i v) :: rest)) :=
  va_get X.x X.b X.t hin X.o X.K (wd_one h.1 hs hi hv he) 0 rfl hc j hj (X.t _ hl) (fun _ q => q) hval hd kk
/-- a field is written -/
theorem ro_put (hY : Okl Y) (X : Cx Y S k p s m args meth c cc nL ret own) (h : Hx Y S k s g H locs) {t i v ci j idx N : Nat} {C : String} {T : u_T} {ty0 : Nat → FieldType} (hs : S t) (hi : i < (Y.2.1 t).1) (hv : v < (Y.2.1 t).2) {fs : List Value} (he : Y.2.2 k t i v (g t i v) = .inr (ci, fs)) (hc : classes[ci]? = some (C, T, N)) (hj : j < N) (hin : ∀ w ∈ u_ws C T N, w ∈ Gt)
    (hty : ∀ k, k < N → parseFieldDescriptor (T k).2.2.1 = some (ty0 k)) (hnm : ∀ a, a < N → ∀ b, b < N → a ≠ b → (T a).2.1 ≠ (T b).2.1) (hfin : (T j).2.2.2 = false) {val : Value} (hn : narrow (ty0 j) val = val) (hfit : fits (ty0 j) val = true) (hlen : j < fs.length)
    (hl : Cond.fieldLink own idx (T j).1 (T j).2.1 (T j).2.2.1 ∈ Gt) {x : Int32} {g' : Mm} (hg : g' = st g t i v j x) (hset : Y.2.2 k t i v (upd (g t i v) j x) = .inr (ci, fs.set j val)) (hd : decode cc pc = .ok (.putfield idx, 3))
    (kk : ∀ (H : Heap) (locs : List Loc), Hx Y S k s g' H locs → W p l e R s m args below meth c H locs cells slots Q (F0 m (pc + 3) ls rest)) : W p l e R s m args below meth c H locs cells slots Q (F0 m pc ls (val :: .ref (k.1 + Y.1 t i v) :: rest)) := by
  obtain ⟨r, h1, cell, q1, q2, q3, q4⟩ := (wd_one h.1 hs hi hv he) 0 _ rfl
  have hr : r = (C, T, N) := Option.some.inj (h1.symm.trans hc)
  subst hr
  have hap := va_apart (own := own) X.t hin ty0 hty hnm X.K hc
  obtain ⟨hS, hfc, kC, hkC, hkind⟩ := X.K.1 ci _ hc
  obtain ⟨cf, kf, fi, f, hi2, hsl⟩ := hS j hj
  have hlay := X.t _ (hin _ (u_in_lay hj))
  unfold u_lay at hlay
  rw [if_neg (by rw [hfin]; decide)] at hlay
  have hst := (u_facts hfc hkC (u_lays X.t hin hj) hi2).1
  have h6 := u_store hfc hkC hkind hlay hi2 (hty j hj) hn hfit
  refine W.putK X.x X.b (f := f) ⟨X.o, X.t _ hl, ⟨_, _, _, hi2⟩, hst⟩ (by rw [q2]; exact h6) q1 q3 (by rw [hsl]; exact k2_hasslot (q4 j hj)) rfl rfl hd fun H' e1 e2 e3 => ?_
  rw [hsl] at e1 ⊢
  subst hg
  refine kk H' _ ⟨wd_put hY h.1 hi hv ?_ e3, h.2.1.put e2 e3 ⟨t, i, v, hs, hi, hv, rfl⟩, e2.trans h.2.2⟩
  rw [hset]
  exact ⟨_, hc, t_OB.to (V := updV (vp_V fs) j val) ⟨_, e1, q2, q3, t_set q4 hap hj val⟩ (fun j0 _ => vp_updV_set hlen val j0)⟩
/-- an int out of an array -/
theorem ro_ald (X : Cx Y S k p s m args meth c cc nL ret own) (h : Hx Y S k s g H locs) {t i v n : Nat} (hs : S t) (hi : i < (Y.2.1 t).1) (hv : v < (Y.2.1 t).2) (he : ∀ r, Y.2.2 k t i v r = .inl (k.2.2.1 0, n, .inl r)) {x : Int32} (hin : vp_in x n) (hd : decode cc pc = .ok (.iaload, 1))
    (kk : W p l e R s m args below meth c H locs cells slots Q (F0 m (pc + 1) ls (.int (g t i v x.toNatClampNeg) :: rest))) : W p l e R s m args below meth c H locs cells slots Q (F0 m pc ls (.int x :: .ref (k.1 + Y.1 t i v) :: rest)) :=
  va_iald X.x X.b X.K (wd_one h.1 hs hi hv (he _)) 0 0 rfl rfl hin hd kk
/-- an int into an array -/
theorem ro_ast (hY : Okl Y) (X : Cx Y S k p s m args meth c cc nL ret own) (h : Hx Y S k s g H locs) {t i v n : Nat} (hs : S t) (hi : i < (Y.2.1 t).1) (hv : v < (Y.2.1 t).2) (he : ∀ r, Y.2.2 k t i v r = .inl (k.2.2.1 0, n, .inl r)) {x z : Int32} {g' : Mm} (hg : g' = st g t i v x.toNatClampNeg z) (hin : vp_in x n) (hd : decode cc pc = .ok (.iastore, 1))
    (kk : ∀ (H : Heap) (locs : List Loc), Hx Y S k s g' H locs → W p l e R s m args below meth c H locs cells slots Q (F0 m (pc + 1) ls rest)) : W p l e R s m args below meth c H locs cells slots Q (F0 m pc ls (.int z :: .int x :: .ref (k.1 + Y.1 t i v) :: rest)) := by
  have hP := wd_one h.1 hs hi hv (he _) 0 _ rfl
  refine W.iast X.x X.b hP ((X.K.2 0 _ rfl).1 n (fun j => .int (g t i v j))) (fun q => by cases q) (by show ¬ (x < 0 ∨ (arrV _ _ _).slots.size ≤ _); rw [arrV_size]; exact hin) rfl rfl hd fun H1 e z0 oq => ?_
  subst hg
  refine kk H1 _ ⟨wd_put hY h.1 hi hv ?_ oq, h.2.1.put z0 oq ⟨t, i, v, hs, hi, hv, rfl⟩, z0.trans h.2.2⟩
  rw [he]
  show H1[_]? = some (vp_cell _ _)
  rw [e]
  show some ((vp_cell (k.2.2.1 0) (n, .inl (g t i v))).setSlot _ _) = some (vp_cell (k.2.2.1 0) (n, .inl (upd (g t i v) x.toNatClampNeg z)))
  rw [vp_cell_i, vp_cell_i, arrV_store]
  congr 2
  funext q
  unfold upd updV
  split <;> rfl
/-- a reference out of an array of them -/
theorem ro_aald (X : Cx Y S k p s m args meth c cc nL ret own) (h : Hx Y S k s g H locs) {t i v n q : Nat} {C : String} {f : Nat → Nat} (hs : S t) (hi : i < (Y.2.1 t).1) (hv : v < (Y.2.1 t).2) (he : ∀ r, Y.2.2 k t i v r = .inl (k.2.2.1 q, n, .inr (.inr (.inr (.inr (fun j => some (f j))))))) (ht : (tysOf k)[q]? = some (k.2.2.1 q, .object C)) {x : Int32} (hin : vp_in x n) (hd : decode cc pc = .ok (.aaload, 1))
    (kk : W p l e R s m args below meth c H locs cells slots Q (F0 m (pc + 1) ls (.ref (f x.toNatClampNeg) :: rest))) : W p l e R s m args below meth c H locs cells slots Q (F0 m pc ls (.int x :: .ref (k.1 + Y.1 t i v) :: rest)) :=
  va_aldq X.x X.b X.K (wd_one h.1 hs hi hv (he _)) 0 q rfl ht hin hd kk
theorem ro_len (X : Cx Y S k p s m args meth c cc nL ret own) (h : Hx Y S k s g H locs) {t i v n : Nat} (hs : S t) (hi : i < (Y.2.1 t).1) (hv : v < (Y.2.1 t).2) (he : ∀ r, Y.2.2 k t i v r = .inl (k.2.2.1 0, n, .inl r)) {x : Int32} (hx : Int32.ofNat n = x) (hd : decode cc pc = .ok (.arraylength, 1))
    (kk : W p l e R s m args below meth c H locs cells slots Q (F0 m (pc + 1) ls (.int x :: rest))) : W p l e R s m args below meth c H locs cells slots Q (F0 m pc ls (.ref (k.1 + Y.1 t i v) :: rest)) :=
  va_alen X.x X.b X.K (wd_one h.1 hs hi hv (he _)) 0 0 rfl rfl hx hd kk
/-- the receiver of a call -/
theorem ro_recv (X : Cx Y S k p s m args meth c cc nL ret own) (h : Hx Y S k s g H locs) {t i v ci : Nat} {r : vw_C} (hs : S t) (hi : i < (Y.2.1 t).1) (hv : v < (Y.2.1 t).2) {fs : List Value} (he : Y.2.2 k t i v (g t i v) = .inr (ci, fs)) (hc : classes[ci]? = some r) : ∃ cell : Cell, H[k.1 + Y.1 t i v]? = some cell ∧ cell.vm.isStatics = false ∧ s.vm.findClass r.1 = some cell.cls :=
  va_recv X.K (wd_one h.1 hs hi hv he) hc (q0 := 0) rfl
/-- a static array's reference, and what it holds -/
theorem ro_gets (X : Cx Y S k p s m args meth c cc nL ret own) (h : Hx Y S k s g H locs) (q : Nat) {r : String × String × List Int32} (hr : sT[q]? = some r) {idx : Nat} (hl : Cond.fieldLink own idx r.1 r.2.1 "[I" ∈ Gt) (hd : decode cc pc = .ok (.getstatic idx, 3))
    (kk : W p l e R s m args below meth c H locs cells slots Q (F0 m (pc + 3) ls (.ref (k.2.2.2.1 q) :: rest))) : W p l e R s m args below meth c H locs cells slots Q (F0 m pc ls rest) :=
  va_gets X.x X.b (X.2.2.1.1 q r hr).1 h.2.1 X.o (X.t _ hl) (fun _ z => z) hd kk
theorem ro_tld (X : Cx Y S k p s m args meth c cc nL ret own) (h : Hx Y S k s g H locs) (q : Nat) {r : String × String × List Int32} (hr : sT[q]? = some r) {n : Nat} (hn : r.2.2.length = n) {x : Int32} (hin : vp_in x n) (hd : decode cc pc = .ok (.iaload, 1))
    (kk : W p l e R s m args below meth c H locs cells slots Q (F0 m (pc + 1) ls (.int (sV q x.toNatClampNeg) :: rest))) : W p l e R s m args below meth c H locs cells slots Q (F0 m pc ls (.int x :: .ref (k.2.2.2.1 q) :: rest)) := by
  obtain ⟨cell, h1, h2, h3, h4, h5, h6, h7⟩ := (X.2.2.1.1 q r hr).2
  have hlt : x.toNatClampNeg < n := Nat.not_le.mp fun z => hin (Or.inr z)
  have e1 : sV q x.toNatClampNeg = r.2.2.getD x.toNatClampNeg 0 := by
    unfold sV
    rw [List.getElem?_map, hr]
    rfl
  rw [e1] at kk
  refine W.iald X.x X.b (by rw [h.2.1.2.1 _ (Array.getElem?_eq_some_iff.mp h1).1 h7]; exact h1) h2 h3 (fun z => hin ?_) (h6 x.toNatClampNeg (by rw [hn]; exact hlt)) rfl rfl hd kk
  rcases z with z | z
  · exact Or.inl z
  · exact Or.inr (by rw [hn] at h4; omega)
/-- a constant -/
theorem ro_ldc (X : Cx Y S k p s m args meth c cc nL ret own) {idx : Nat} {x : Int32} (hl : Cond.constant own idx x ∈ Gt) (hd : decode cc pc = .ok (.ldc idx, 2)) (kk : W p l e R s m args below meth c H locs cells slots Q (F0 m (pc + 2) ls (.int x :: rest))) : W p l e R s m args below meth c H locs cells slots Q (F0 m pc ls rest) :=
  lv_ldc X.x X.b X.o (X.t _ hl) hd kk
theorem ro_ldc2 (X : Cx Y S k p s m args meth c cc nL ret own) {idx : Nat} {x : Int64} (hl : Cond.constantLong own idx x ∈ Gt) (hd : decode cc pc = .ok (.ldc2_w idx, 3)) (kk : W p l e R s m args below meth c H locs cells slots Q (F0 m (pc + 3) ls (.long x :: rest))) : W p l e R s m args below meth c H locs cells slots Q (F0 m pc ls rest) :=
  lv_ldc2 X.x X.b X.o (X.t _ hl) hd kk
-- ===== ends =====
theorem ro_fin {rv : Option Value} (h : Hx Y S k s g H locs) : ∀ t : State, t.heap = H → s.WarmedH t.vm → PostB Y S k rv g args s (.returned rv) t := fun t ht _ => ⟨rfl, by rw [ht]; exact h.1, h.2.1.F ht, by rw [ht]; exact h.2.2⟩
theorem ro_iret (X : Cx Y S k p s m args meth c cc nL (some .int) own) (h : Hx Y S k s g H locs) {x : Int32} (hd : decode cc pc = .ok (.ireturn, 1)) : W p l e R s m args below meth c H locs 0 0 (Fin Y S k args s below (some (.int x)) g) (F0 m pc ls [.int x]) :=
  W.iret X.x X.b X.2.2.2.1 (ro_fin h) (fun q hq => h.2.1.2.2 q hq) hd X.2.2.2.2
theorem ro_zret (X : Cx Y S k p s m args meth c cc nL (some .boolean) own) (h : Hx Y S k s g H locs) {x : Int32} (hz : x = 0 ∨ x = 1) (hd : decode cc pc = .ok (.ireturn, 1)) : W p l e R s m args below meth c H locs 0 0 (Fin Y S k args s below (some (.int x)) g) (F0 m pc ls [.int x]) :=
  W.zret X.x X.b X.2.2.2.1 (by rcases hz with rfl | rfl <;> rfl) (ro_fin h) (fun q hq => h.2.1.2.2 q hq) hd X.2.2.2.2
theorem ro_lret (X : Cx Y S k p s m args meth c cc nL (some .long) own) (h : Hx Y S k s g H locs) {x : Int64} (hd : decode cc pc = .ok (.lreturn, 1)) : W p l e R s m args below meth c H locs 0 0 (Fin Y S k args s below (some (.long x)) g) (F0 m pc ls [.long x]) :=
  W.lret X.x X.b X.2.2.2.1 (ro_fin h) (fun q hq => h.2.1.2.2 q hq) hd X.2.2.2.2
theorem ro_vret (X : Cx Y S k p s m args meth c cc nL none own) (h : Hx Y S k s g H locs) (hd : decode cc pc = .ok (.return_, 1)) : W p l e R s m args below meth c H locs 0 0 (Fin Y S k args s below none g) (F0 m pc ls []) :=
  W.vret X.x X.b X.2.2.2.1 (ro_fin h) (fun q hq => h.2.1.2.2 q hq) hd X.2.2.2.2
theorem ro_aret {C : String} (X : Cx Y S k p s m args meth c cc nL (some (.object C)) own) (h : Hx Y S k s g H locs) {x : Nat} (hd : decode cc pc = .ok (.areturn, 1)) : W p l e R s m args below meth c H locs 0 0 (Fin Y S k args s below (some (.ref x)) g) (F0 m pc ls [.ref x]) :=
  W.aret X.x X.b X.2.2.2.1 (Or.inl ⟨_, rfl⟩) (Or.inr ⟨_, rfl⟩) (ro_fin h) (fun q hq => h.2.1.2.2 q hq) hd X.2.2.2.2
-- ===== calls =====
/-- what the tables say of a method that is called on an object -/
def Mv (y : MethodName) (bytes : ByteArray) (maxL : Nat) (ret : Option FieldType) (n : Nat) : Prop :=
  Cond.instanceMethod y ∈ Gt ∧ Cond.selects y.cls y y ∈ Gt ∧ Cond.initialized y.cls ∈ Gt ∧ Cond.code y bytes maxL ret ∈ Gt ∧ (y.cls ≠ "java/lang/invoke/MethodHandle" ∧ y.cls ≠ "java/lang/invoke/VarHandle" ∧ (parseMethodDescriptor y.desc).map (fun d => d.parameters.length) = some n)
def Msv (y : MethodName) (bytes : ByteArray) (maxL : Nat) (ret : Option FieldType) (n : Nat) : Prop :=
  Cond.static y ∈ Gt ∧ Cond.initialized y.cls ∈ Gt ∧ Cond.code y bytes maxL ret ∈ Gt ∧ (y.cls ≠ "java/lang/invoke/MethodHandle" ∧ y.cls ≠ "java/lang/invoke/VarHandle" ∧ (parseMethodDescriptor y.desc).map (fun d => d.parameters.length) = some n)
theorem gt_in {y : MethodName} {bytes : ByteArray} {maxL : Nat} {ret : Option FieldType} (h : Cond.code y bytes maxL ret ∈ Gt) : GoodIn Gt (.code y bytes maxL ret :: Gt) := fun w hw => by
  rcases List.mem_cons.mp hw with rfl | hw
  · exact ⟨h, good_of_word (gt_good h)⟩
  · exact ⟨hw, good_of_word (gt_good hw)⟩
theorem ro_back {rv : Option Value} {g1 : Mm} {a0 : Array Value} {st0 : List Value} (h : Hx Y S k s g H locs)
    (hr : va_Run p l e R s m args below meth c H locs cells slots 0 0 (F0 m pc ls st0) rest (PostB Y S k rv g1 a0) (AS Y S k))
    (kk : ∀ (H : Heap) (locs : List Loc), Hx Y S k s g1 H locs → W p l e R s m args below meth c H locs cells slots Q (F0 m (pc + 3) ls (rv.toList ++ rest))) : W p l e R s m args below meth c H locs cells slots Q (F0 m pc ls st0) := by
  intro T hT X
  obtain ⟨v, st₀, t, T', L, h0, X', hL, e1, e2, ⟨hv, hw, ⟨hz, hk⟩, hsz⟩, stp⟩ := hr T hT X
  cases hv
  rw [h0] at hz hk hsz
  obtain ⟨t2, a1, b1⟩ := kk T'.heap (locs ++ L) ⟨by rw [e1]; exact hw, ⟨Nat.le_trans h.2.1.1 (by rw [e1]; exact hz), fun q q1 q2 => by rw [e1, hk q (Nat.lt_of_lt_of_le q1 h.2.1.1) q2]; exact h.2.1.2.1 q q1 q2, fun q hq => by
      rcases List.mem_append.mp hq with z | z
      · exact h.2.1.2.2 q z
      · exact hL q z⟩, by rw [e1, hsz]; exact h.2.2⟩ T' rfl X'
  exact ⟨t2, stp t2 a1, b1⟩
theorem ro_callv (X : Cx Y S k p s m args meth c cc nL ret own) (h : Hx Y S k s g H locs) {y : MethodName} {bytes : ByteArray} {maxL n idx : Nat} {ry : Option FieldType} {rm : Room} {b : Nat} {As st0 : List Value} {rv : Option Value} {g1 : Mm} (hM : Mt l y bytes maxL ry rm Y S k (.ref b :: As) g rv g1) (hf : Mv y bytes maxL ry n)
    (hl : Cond.methodLink own idx y ∈ Gt) (hc0 : rm.cells = 0 ∧ rm.slots = 0) (hR : rm.frames + 1 ≤ R.frames ∧ 8 + (maxL + 11) + rm.locals ≤ R.locals) (hrc : ∃ cell : Cell, H[b]? = some cell ∧ cell.vm.isStatics = false ∧ s.vm.findClass y.cls = some cell.cls) (hn : As.length = n) {l0 : List (Nat × Value)} (hls : lv_has ls nL l0) (hst : st0 = As.reverse ++ .ref b :: rest) (hcat : (rest.map fun v => v.category).sum ≤ 8) (hcs : cells ≤ R.cells ∧ slots ≤ R.slots) (hd : decode cc pc = .ok (.invokevirtual idx, 3))
    (kk : ∀ (H : Heap) (locs : List Loc), Hx Y S k s g1 H locs → W p l e R s m args below meth c H locs cells slots Q (F0 m (pc + 3) ls (rv.toList ++ rest))) : W p l e R s m args below meth c H locs cells slots Q (F0 m pc ls st0) := by
  obtain ⟨f1, f2, f3, f4, f5⟩ := hf
  have cb := callB_of (R := R) (own := own) (index := idx) (rm := rm) (mc := 0) (ms := 0) n X.t (gt_in f4) rfl hc0.1 hc0.2 (X.t _ f3) (X.t _ hl) f5 hR
  refine ro_back h (a0 := (Value.ref b :: As).toArray) (va_runV X.1 hM ⟨cb, X.t _ f1, X.t _ f2⟩ ⟨PreB.blind, hrc, fun U hU hW => ⟨rfl, by rw [hU]; exact h.1, va_K.moved hW.alike X.K, by rw [hU]; exact (X.2.2.1.warm hW).kept (fun a q1 q2 => h.2.1.2.1 a q1 q2)⟩⟩ rfl hn hls.1 hst (lv_room hcat) hd hcs) kk
theorem ro_calls (X : Cx Y S k p s m args meth c cc nL ret own) (h : Hx Y S k s g H locs) {y : MethodName} {bytes : ByteArray} {maxL n idx : Nat} {ry : Option FieldType} {rm : Room} {As st0 : List Value} {rv : Option Value} {g1 : Mm} (hM : Mt l y bytes maxL ry rm Y S k As g rv g1) (hf : Msv y bytes maxL ry n)
    (hl : Cond.methodLink own idx y ∈ Gt) (hc0 : rm.cells = 0 ∧ rm.slots = 0) (hR : rm.frames + 1 ≤ R.frames ∧ 8 + (maxL + 11) + rm.locals ≤ R.locals) (hn : As.length = n) {l0 : List (Nat × Value)} (hls : lv_has ls nL l0) (hst : st0 = As.reverse ++ rest) (hcat : (rest.map fun v => v.category).sum ≤ 8) (hcs : cells ≤ R.cells ∧ slots ≤ R.slots) (hd : decode cc pc = .ok (.invokestatic idx, 3))
    (kk : ∀ (H : Heap) (locs : List Loc), Hx Y S k s g1 H locs → W p l e R s m args below meth c H locs cells slots Q (F0 m (pc + 3) ls (rv.toList ++ rest))) : W p l e R s m args below meth c H locs cells slots Q (F0 m pc ls st0) := by
  obtain ⟨f1, f3, f4, f5⟩ := hf
  have cb := callB_of (R := R) (own := own) (index := idx) (rm := rm) (mc := 0) (ms := 0) n X.t (gt_in f4) rfl hc0.1 hc0.2 (X.t _ f3) (X.t _ hl) f5 hR
  refine ro_back h (a0 := As.toArray) (va_runS X.1 hM ⟨cb, X.t _ f1⟩ ⟨PreB.blind, fun U hU hW => ⟨rfl, by rw [hU]; exact h.1, va_K.moved hW.alike X.K, by rw [hU]; exact (X.2.2.1.warm hW).kept (fun a q1 q2 => h.2.1.2.1 a q1 q2)⟩⟩ rfl hn hls.1 hst (lv_room hcat) hd hcs) kk
/-- Math.max -/
theorem ro_max (X : Cx Y S k p s m args meth c cc nL ret own) {l0 : List (Nat × Value)} (hls : lv_has ls nL l0) {idx : Nat} (hl : Cond.methodLink own idx Lib.Math.max.name ∈ Gt) (hf : Cond.static Lib.Math.max.name ∈ Gt ∧ Cond.initialized "java/lang/Math" ∈ Gt ∧ Cond.code Lib.Math.max.name Lib.Math.max.code 2 (some .int) ∈ Gt)
    (hR : 1 ≤ R.frames) (hlo : (rest.map fun v => v.category).sum + 13 ≤ R.locals) (hcs : cells ≤ R.cells ∧ slots ≤ R.slots) {x z : Int32} (hd : decode cc pc = .ok (.invokestatic idx, 3))
    (kk : W p l e R s m args below meth c H locs cells slots Q (F0 m (pc + 3) ls (.int (if x < z then z else x) :: rest))) : W p l e R s m args below meth c H locs cells slots Q (F0 m pc ls (.int z :: .int x :: rest)) :=
  va_mmax X.x X.b (X.L hls) X.o (X.t _ hl) (X.t _ hf.1) (X.t _ hf.2.1) (X.t _ hf.2.2) hR hlo hcs.1 hcs.2 hd kk
end WRows
-- ===== what a method computes: options, with these for its steps =====
def wLe {α β : Type} (x : α) (f : α → Option β) : Option β := f x
theorem wLe_s {α β : Type} {x : α} {f : α → Option β} {r : β} (h : wLe x f = some r) : ∃ y, y = x ∧ f y = some r := ⟨x, rfl, h⟩
def wGi {β : Type} (x : Int32) (n : Nat) (f : Option β) : Option β := if x < 0 ∨ n ≤ x.toNatClampNeg then none else f
theorem wGi_s {β : Type} {x : Int32} {n : Nat} {f : Option β} {r : β} (h : wGi x n f = some r) : vp_in x n ∧ f = some r := by
  unfold wGi at h
  by_cases c : x < 0 ∨ n ≤ x.toNatClampNeg
  · rw [if_pos c] at h; cases h
  · rw [if_neg c] at h; exact ⟨c, h⟩
theorem vin_lt {x : Int32} {n : Nat} (h : vp_in x n) : x.toNatClampNeg < n := Nat.not_le.mp fun q => h (Or.inr q)
def wGd {β : Type} (c : Prop) [Decidable c] (f : Option β) : Option β := if c then f else none
theorem wGd_s {β : Type} {c : Prop} [Decidable c] {f : Option β} {r : β} (h : wGd c f = some r) : c ∧ f = some r := by
  unfold wGd at h
  by_cases q : c
  · rw [if_pos q] at h; exact ⟨q, h⟩
  · rw [if_neg q] at h; cases h
/-- the value of a boolean -/
def wGb {β : Type} (x : Int32) (f : Option β) : Option β := if x = 0 ∨ x = 1 then f else none
theorem wGb_s {β : Type} {x : Int32} {f : Option β} {r : β} (h : wGb x f = some r) : (x = 0 ∨ x = 1) ∧ f = some r := by
  unfold wGb at h
  by_cases q : x = 0 ∨ x = 1
  · rw [if_pos q] at h; exact ⟨q, h⟩
  · rw [if_neg q] at h; cases h
def wBd {α β : Type} (o : Option α) (f : α → Option β) : Option β := match o with
  | none => none
  | some a => f a
theorem wBd_s {α β : Type} {o : Option α} {f : α → Option β} {r : β} (h : wBd o f = some r) : ∃ a, o = some a ∧ f a = some r := by
  cases o with
  | none => cases h
  | some a => exact ⟨a, rfl, h⟩
def wB2 {α β γ : Type} (o : Option (α × γ)) (f : α → γ → Option β) : Option β := match o with
  | none => none
  | some a => f a.1 a.2
theorem wB2_s {α β γ : Type} {o : Option (α × γ)} {f : α → γ → Option β} {r : β} (h : wB2 o f = some r) : ∃ a b, o = some (a, b) ∧ f a b = some r := by
  cases o with
  | none => cases h
  | some a => exact ⟨a.1, a.2, rfl, h⟩
theorem wT {β : Type} {c : Prop} [Decidable c] {A B : Option β} {r : β} (q : c) (h : (if c then A else B) = some r) : A = some r := by rwa [if_pos q] at h
theorem wF {β : Type} {c : Prop} [Decidable c] {A B : Option β} {r : β} (q : ¬ c) (h : (if c then A else B) = some r) : B = some r := by rwa [if_neg q] at h
/-- a reference that is a number (0: null, n + 1: the n-th) -/
def wGr {β : Type} (x : Int32) (f : Nat → Option β) : Option β := if 1 ≤ x.toNatClampNeg ∧ x.toNatClampNeg ≤ 6 then f (x.toNatClampNeg - 1) else none
theorem wGr_s {β : Type} {x : Int32} {f : Nat → Option β} {r : β} (h : wGr x f = some r) : ∃ n, n < 6 ∧ x.toNatClampNeg = n + 1 ∧ f n = some r := by
  unfold wGr at h
  by_cases q : 1 ≤ x.toNatClampNeg ∧ x.toNatClampNeg ≤ 6
  · rw [if_pos q] at h; exact ⟨_, by omega, by omega, h⟩
  · rw [if_neg q] at h; cases h
/-- a loop: again, or out -/
def wLp {σ τ : Type} (f : σ → Option (σ ⊕ τ)) : Nat → σ → Option τ
  | 0, _ => none
  | n + 1, s => match f s with
    | none => none
    | some (.inl s') => wLp f n s'
    | some (.inr t) => some t
def wLk {σ τ : Type} (f : σ → Option (σ ⊕ τ)) (n : Nat) : σ ⊕ τ → Option τ
  | .inl s' => wLp f n s'
  | .inr t => some t
theorem wLp_0 {σ τ : Type} {f : σ → Option (σ ⊕ τ)} {s : σ} {t : τ} (h : wLp f 0 s = some t) : False := by
  unfold wLp at h; cases h
theorem wLp_s {σ τ : Type} {f : σ → Option (σ ⊕ τ)} {n : Nat} {s : σ} {t : τ} (h : wLp f (n + 1) s = some t) : ∃ r, f s = some r ∧ wLk f n r = some t := by
  unfold wLp at h
  split at h
  · cases h
  · rename_i s' e; exact ⟨_, e, h⟩
  · rename_i t' e; exact ⟨_, e, h⟩
section WRows2
variable {p : Program} {l : Launch} {e : Env} {R : Room} {s : State} {m : MethodId} {args : Array Value} {below : List Frame} {meth : Method} {c : Code} {H : Heap} {locs : List Loc} {cells slots : Nat} {Q : State → Prop}
variable {Y : Ly} {S : Nat → Prop} {k : En} {g : Mm} {cc : ByteArray} {nL pc : Nat} {ret : Option FieldType} {own : String} {ls : Array Slot} {rest : List Value}
theorem lv_nmi {x y : Int32} (h : y = x) (kk : W p l e R s m args below meth c H locs cells slots Q (F0 m pc ls (.int y :: rest))) : W p l e R s m args below meth c H locs cells slots Q (F0 m pc ls (.int x :: rest)) := h ▸ kk
theorem lv_nml {x y : Int64} (h : y = x) (kk : W p l e R s m args below meth c H locs cells slots Q (F0 m pc ls (.long y :: rest))) : W p l e R s m args below meth c H locs cells slots Q (F0 m pc ls (.long x :: rest)) := h ▸ kk
section calls
variable {y : MethodName} {bytes : ByteArray} {maxL n idx : Nat} {ry : Option FieldType} {rm : Room} {b : Nat} {As st0 : List Value} {g1 : Mm} {l0 : List (Nat × Value)}
theorem ro_callvV (X : Cx Y S k p s m args meth c cc nL ret own) (h : Hx Y S k s g H locs) (hM : Mt l y bytes maxL ry rm Y S k (.ref b :: As) g none g1) (hf : Mv y bytes maxL ry n)
    (hl : Cond.methodLink own idx y ∈ Gt) (hc0 : rm.cells = 0 ∧ rm.slots = 0) (hR : rm.frames + 1 ≤ R.frames ∧ 8 + (maxL + 11) + rm.locals ≤ R.locals) (hrc : ∃ cell : Cell, H[b]? = some cell ∧ cell.vm.isStatics = false ∧ s.vm.findClass y.cls = some cell.cls) (hn : As.length = n) (hls : lv_has ls nL l0) (hst : st0 = As.reverse ++ .ref b :: rest) (hcat : (rest.map fun v => v.category).sum ≤ 8) (hcs : cells ≤ R.cells ∧ slots ≤ R.slots) (hd : decode cc pc = .ok (.invokevirtual idx, 3))
    (kk : ∀ (H : Heap) (locs : List Loc), Hx Y S k s g1 H locs → W p l e R s m args below meth c H locs cells slots Q (F0 m (pc + 3) ls rest)) : W p l e R s m args below meth c H locs cells slots Q (F0 m pc ls st0) :=
  ro_callv X h hM hf hl hc0 hR hrc hn hls hst hcat hcs hd kk
theorem ro_callvI {x : Int32} (X : Cx Y S k p s m args meth c cc nL ret own) (h : Hx Y S k s g H locs) (hM : Mt l y bytes maxL ry rm Y S k (.ref b :: As) g (some (.int x)) g1) (hf : Mv y bytes maxL ry n)
    (hl : Cond.methodLink own idx y ∈ Gt) (hc0 : rm.cells = 0 ∧ rm.slots = 0) (hR : rm.frames + 1 ≤ R.frames ∧ 8 + (maxL + 11) + rm.locals ≤ R.locals) (hrc : ∃ cell : Cell, H[b]? = some cell ∧ cell.vm.isStatics = false ∧ s.vm.findClass y.cls = some cell.cls) (hn : As.length = n) (hls : lv_has ls nL l0) (hst : st0 = As.reverse ++ .ref b :: rest) (hcat : (rest.map fun v => v.category).sum ≤ 8) (hcs : cells ≤ R.cells ∧ slots ≤ R.slots) (hd : decode cc pc = .ok (.invokevirtual idx, 3))
    (kk : ∀ (H : Heap) (locs : List Loc), Hx Y S k s g1 H locs → W p l e R s m args below meth c H locs cells slots Q (F0 m (pc + 3) ls (.int x :: rest))) : W p l e R s m args below meth c H locs cells slots Q (F0 m pc ls st0) :=
  ro_callv X h hM hf hl hc0 hR hrc hn hls hst hcat hcs hd kk
theorem ro_callvJ {x : Int64} (X : Cx Y S k p s m args meth c cc nL ret own) (h : Hx Y S k s g H locs) (hM : Mt l y bytes maxL ry rm Y S k (.ref b :: As) g (some (.long x)) g1) (hf : Mv y bytes maxL ry n)
    (hl : Cond.methodLink own idx y ∈ Gt) (hc0 : rm.cells = 0 ∧ rm.slots = 0) (hR : rm.frames + 1 ≤ R.frames ∧ 8 + (maxL + 11) + rm.locals ≤ R.locals) (hrc : ∃ cell : Cell, H[b]? = some cell ∧ cell.vm.isStatics = false ∧ s.vm.findClass y.cls = some cell.cls) (hn : As.length = n) (hls : lv_has ls nL l0) (hst : st0 = As.reverse ++ .ref b :: rest) (hcat : (rest.map fun v => v.category).sum ≤ 8) (hcs : cells ≤ R.cells ∧ slots ≤ R.slots) (hd : decode cc pc = .ok (.invokevirtual idx, 3))
    (kk : ∀ (H : Heap) (locs : List Loc), Hx Y S k s g1 H locs → W p l e R s m args below meth c H locs cells slots Q (F0 m (pc + 3) ls (.long x :: rest))) : W p l e R s m args below meth c H locs cells slots Q (F0 m pc ls st0) :=
  ro_callv X h hM hf hl hc0 hR hrc hn hls hst hcat hcs hd kk
theorem ro_callvA {x : Nat} (X : Cx Y S k p s m args meth c cc nL ret own) (h : Hx Y S k s g H locs) (hM : Mt l y bytes maxL ry rm Y S k (.ref b :: As) g (some (.ref x)) g1) (hf : Mv y bytes maxL ry n)
    (hl : Cond.methodLink own idx y ∈ Gt) (hc0 : rm.cells = 0 ∧ rm.slots = 0) (hR : rm.frames + 1 ≤ R.frames ∧ 8 + (maxL + 11) + rm.locals ≤ R.locals) (hrc : ∃ cell : Cell, H[b]? = some cell ∧ cell.vm.isStatics = false ∧ s.vm.findClass y.cls = some cell.cls) (hn : As.length = n) (hls : lv_has ls nL l0) (hst : st0 = As.reverse ++ .ref b :: rest) (hcat : (rest.map fun v => v.category).sum ≤ 8) (hcs : cells ≤ R.cells ∧ slots ≤ R.slots) (hd : decode cc pc = .ok (.invokevirtual idx, 3))
    (kk : ∀ (H : Heap) (locs : List Loc), Hx Y S k s g1 H locs → W p l e R s m args below meth c H locs cells slots Q (F0 m (pc + 3) ls (.ref x :: rest))) : W p l e R s m args below meth c H locs cells slots Q (F0 m pc ls st0) :=
  ro_callv X h hM hf hl hc0 hR hrc hn hls hst hcat hcs hd kk
theorem ro_callsI {x : Int32} (X : Cx Y S k p s m args meth c cc nL ret own) (h : Hx Y S k s g H locs) (hM : Mt l y bytes maxL ry rm Y S k As g (some (.int x)) g1) (hf : Msv y bytes maxL ry n)
    (hl : Cond.methodLink own idx y ∈ Gt) (hc0 : rm.cells = 0 ∧ rm.slots = 0) (hR : rm.frames + 1 ≤ R.frames ∧ 8 + (maxL + 11) + rm.locals ≤ R.locals) (hn : As.length = n) (hls : lv_has ls nL l0) (hst : st0 = As.reverse ++ rest) (hcat : (rest.map fun v => v.category).sum ≤ 8) (hcs : cells ≤ R.cells ∧ slots ≤ R.slots) (hd : decode cc pc = .ok (.invokestatic idx, 3))
    (kk : ∀ (H : Heap) (locs : List Loc), Hx Y S k s g1 H locs → W p l e R s m args below meth c H locs cells slots Q (F0 m (pc + 3) ls (.int x :: rest))) : W p l e R s m args below meth c H locs cells slots Q (F0 m pc ls st0) :=
  ro_calls X h hM hf hl hc0 hR hn hls hst hcat hcs hd kk
theorem ro_callsV (X : Cx Y S k p s m args meth c cc nL ret own) (h : Hx Y S k s g H locs) (hM : Mt l y bytes maxL ry rm Y S k As g none g1) (hf : Msv y bytes maxL ry n)
    (hl : Cond.methodLink own idx y ∈ Gt) (hc0 : rm.cells = 0 ∧ rm.slots = 0) (hR : rm.frames + 1 ≤ R.frames ∧ 8 + (maxL + 11) + rm.locals ≤ R.locals) (hn : As.length = n) (hls : lv_has ls nL l0) (hst : st0 = As.reverse ++ rest) (hcat : (rest.map fun v => v.category).sum ≤ 8) (hcs : cells ≤ R.cells ∧ slots ≤ R.slots) (hd : decode cc pc = .ok (.invokestatic idx, 3))
    (kk : ∀ (H : Heap) (locs : List Loc), Hx Y S k s g1 H locs → W p l e R s m args below meth c H locs cells slots Q (F0 m (pc + 3) ls rest)) : W p l e R s m args below meth c H locs cells slots Q (F0 m pc ls st0) :=
  ro_calls X h hM hf hl hc0 hR hn hls hst hcat hcs hd kk
end calls
end WRows2
/-- a result that comes from inside a loop -/
def wEx {σ τ : Type} (o : Option τ) : Option (σ ⊕ τ) := match o with
  | none => none
  | some t => some (.inr t)
theorem wEx_s {σ τ : Type} {o : Option τ} {r : σ ⊕ τ} (h : wEx o = some r) : ∃ t, o = some t ∧ r = .inr t := by
  cases o with
  | none => cases h
  | some t => exact ⟨t, rfl, (Option.some.inj h).symm⟩
set_option maxRecDepth 10000 in
theorem mx_f : Cond.static Lib.Math.max.name ∈ Gt ∧ Cond.initialized "java/lang/Math" ∈ Gt ∧ Cond.code Lib.Math.max.name Lib.Math.max.code 2 (some .int) ∈ Gt := ⟨gr0 190 rfl rfl, gr0 9 rfl rfl, gr0 191 rfl rfl⟩
set_option maxRecDepth 10000 in
theorem cp_f : Cond.native arraycopyName ∈ Gt ∧ Cond.static arraycopyName ∈ Gt ∧ Cond.initialized "java/lang/System" ∈ Gt := ⟨gr3 136 rfl rfl, gr3 135 rfl rfl, gr0 19 rfl rfl⟩
/-- System.arraycopy between int arrays of the world -/
abbrev wCk (sp dp n : Int32) (n0 n1 : Nat) : Prop := ¬ sp < 0 ∧ ¬ dp < 0 ∧ ¬ n < 0 ∧ sp.toNatClampNeg + n.toNatClampNeg ≤ n0 ∧ dp.toNatClampNeg + n.toNatClampNeg ≤ n1
def wCp (g : Mm) (t i v t1 i1 v1 : Nat) (sp dp n : Int32) : Mm := fun t' i' v' j' => if t' = t1 ∧ i' = i1 ∧ v' = v1 then va_cpy (g t i v) (g t1 i1 v1) sp.toNatClampNeg dp.toNatClampNeg n.toNatClampNeg j' else g t' i' v' j'
theorem wd_row {Y : Ly} {S : Nat → Prop} {k : En} {g g' : Mm} {H H' : Heap} {t i v : Nat} (hY : Okl Y) (h : Wd Y S k g H) (hi : i < (Y.2.1 t).1) (hv : v < (Y.2.1 t).2) (ho : ∀ t' i' v', ¬ (t' = t ∧ i' = i ∧ v' = v) → g' t' i' v' = g t' i' v')
    (hat : va_at k.2.1 classes (k.1 + Y.1 t i v, Y.2.2 k t i v (g' t i v)) H') (hq : ∀ q, q ≠ k.1 + Y.1 t i v → H'[q]? = H[q]?) : Wd Y S k g' H' := by
  intro t' i' v' hs hi' hv'
  by_cases e : t' = t ∧ i' = i ∧ v' = v
  · obtain ⟨rfl, rfl, rfl⟩ := e
    exact hat
  · rw [ho _ _ _ e]
    refine (h t' i' v' hs hi' hv').kept (hq _ fun q => e ?_)
    exact hY t' i' v' t i v hi' hv' hi hv (Nat.add_left_cancel q)
section WRows3
variable {p : Program} {l : Launch} {e : Env} {R : Room} {s : State} {m : MethodId} {args : Array Value} {below : List Frame} {meth : Method} {c : Code} {H : Heap} {locs : List Loc} {cells slots : Nat} {Q : State → Prop}
variable {Y : Ly} {S : Nat → Prop} {k : En} {g : Mm} {cc : ByteArray} {nL pc : Nat} {ret : Option FieldType} {own : String} {ls : Array Slot} {rest : List Value}
theorem ro_copyH (hx : p.tables.exec = Jvm.exec) (hb : c.code = cc) (hml : c.maxLocals = ls.size) {idx : Nat} (hown : s.vm.findClass own = some m.cls) (hlink : (Cond.methodLink own idx arraycopyName).before args s = true) (hnat : (Cond.native arraycopyName).before args s = true) (hstat : (Cond.static arraycopyName).before args s = true) (hini : (Cond.initialized "java/lang/System").before args s = true)
    {cA : ClassId} {A : Nat → Prop} {H0 : Heap} {n0 n1 a0 a1 : Nat} {f0 f1 : Nat → Int32} (k0 : s.isArrayOf (arrV cA n0 (fun j => .int (f0 j))) .int) (k1 : s.isArrayOf (arrV cA n1 (fun j => .int (f1 j))) .int) (hc0 : H[a0]? = some (vp_cell cA (n0, .inl f0))) (hc1 : H[a1]? = some (vp_cell cA (n1, .inl f1))) (hS : va_S A H0 H locs) (hA : A a1)
    {sp dp n : Int32} (h1 : ¬ sp < 0) (h2 : ¬ dp < 0) (h3 : ¬ n < 0) (h4 : sp.toNatClampNeg + n.toNatClampNeg ≤ n0) (h5 : dp.toNatClampNeg + n.toNatClampNeg ≤ n1)
    (hframes : 1 ≤ R.frames) (hlocals : (rest.map fun v => v.category).sum + (nativeFrameWords "java/lang/System" "arraycopy" 5 + 11) ≤ R.locals) (hd : decode cc pc = .ok (.invokestatic idx, 3))
    (kk : ∀ (H1 : Heap) (locs1 : List Loc), H1[a1]? = some (vp_cell cA (n1, .inl (va_cpy f0 f1 sp.toNatClampNeg dp.toNatClampNeg n.toNatClampNeg))) → (∀ q : Nat, q ≠ a1 → H1[q]? = H[q]?) → va_S A H0 H1 locs1 → H1.size = H.size → W p l e R s m args below meth c H1 locs1 cells slots Q (F0 m (pc + 3) ls rest)) : W p l e R s m args below meth c H locs cells slots Q (F0 m pc ls (.int n :: .int dp :: .ref a1 :: .int sp :: .ref a0 :: rest)) := by
  have pos : ∀ z : Int32, ¬ z < 0 → z.toInt = (z.toNatClampNeg : Int) := fun z hz => by
    have h0 : (0 : Int) ≤ z.toInt := by simpa using Int32.le_iff_toInt_le.mp (Int32.not_lt.mp hz)
    have h1 : z.toNatClampNeg = z.toInt.toNat := rfl
    omega
  intro T hT X
  obtain ⟨-, ka, qa, ma, ea⟩ := k0
  obtain ⟨-, kb, qb, mb, eb⟩ := k1
  have s0 : (vp_cell cA (n0, .inl f0)).slots.size = n0 := arrV_size _ _ _
  have s1 : (vp_cell cA (n1, .inl f1)).slots.size = n1 := arrV_size _ _ _
  obtain ⟨vm', X', step⟩ := X.arraycopy hx hown hlink hnat hstat hini (src := a0) (dst := a1) (cs := vp_cell cA (n0, .inl f0)) (cd := vp_cell cA (n1, .inl f1)) (srcPos := sp) (destPos := dp) (n := n) (by rw [hT]; exact hc0) (by rw [hT]; exact hc1)
    (fun _ z => by cases z) (fun _ z => by cases z) (fun z => by cases z) (fun z => by cases z) qa qb ea eb rfl h1 h2 h3
    (by rw [pos sp h1, pos n h3, s0]; omega) (by rw [pos dp h2, pos n h3, s1]; omega)
    (fun vm₁ _ i hi => by
      have q : (vp_cell cA (n0, .inl f0)).slots.getD (sp.toNatClampNeg + i) .null = .int (f0 (sp.toNatClampNeg + i)) := by
        show (arrV cA n0 (fun j => .int (f0 j))).slots.getD _ _ = _
        rw [Array.getD_eq_getD_getElem?, arrV_read _ _ (by omega)]
        rfl
      exact ⟨by rw [q]; rfl, by rw [q]; exact trivial⟩)
    (g := F0 m pc ls (.int n :: .int dp :: .ref a1 :: .int sp :: .ref a0 :: rest)) rfl (by rw [hml]) (rest := rest) rfl (by rw [hb]; exact hd) hframes (by show 2 * 0 + _ + _ ≤ _; omega)
  have e1 : copied (vp_cell cA (n0, .inl f0)) (vp_cell cA (n1, .inl f1)) sp dp n = vp_cell cA (n1, .inl (va_cpy f0 f1 sp.toNatClampNeg dp.toNatClampNeg n.toNatClampNeg)) := va_copied (fun z => .int z) cA cA f0 f1 h4
  rw [e1] at X' step
  have hlt : a1 < H.size := (Array.getElem?_eq_some_iff.mp hc1).1
  have oq : ∀ q : Nat, q ≠ a1 → (H.setIfInBounds a1 (vp_cell cA (n1, .inl (va_cpy f0 f1 sp.toNatClampNeg dp.toNatClampNeg n.toNatClampNeg))))[q]? = H[q]? := fun q hq => by simp [Array.getElem?_setIfInBounds, Ne.symm hq]
  obtain ⟨t, a, b⟩ := kk (H.setIfInBounds a1 (vp_cell cA (n1, .inl (va_cpy f0 f1 sp.toNatClampNeg dp.toNatClampNeg n.toNatClampNeg)))) _ (by simp [Array.getElem?_setIfInBounds, hlt]) oq ⟨by simp; exact hS.1, fun q g1 g2 => (oq q (fun z => g2 (z ▸ hA))).trans (hS.2.1 q g1 g2), fun q hq => by
      rcases List.mem_append.mp hq with z | z
      · exact hS.2.2 q z
      · obtain ⟨z, -, hz⟩ := List.mem_map.mp z
        rw [← hz]
        exact hA⟩ (by simp) _ (by rw [← hT]; rfl) X'
  exact ⟨t, step t a, b⟩
theorem ro_copy (hY : Okl Y) (X : Cx Y S k p s m args meth c cc nL ret own) (h : Hx Y S k s g H locs) {l0 : List (Nat × Value)} (hls : lv_has ls nL l0) {t i v n0 t1 i1 v1 n1 : Nat} (hs : S t) (hi : i < (Y.2.1 t).1) (hv : v < (Y.2.1 t).2) (he : ∀ r, Y.2.2 k t i v r = .inl (k.2.2.1 0, n0, .inl r))
    (hs1 : S t1) (hi1 : i1 < (Y.2.1 t1).1) (hv1 : v1 < (Y.2.1 t1).2) (he1 : ∀ r, Y.2.2 k t1 i1 v1 r = .inl (k.2.2.1 0, n1, .inl r)) {idx : Nat} (hl : Cond.methodLink own idx arraycopyName ∈ Gt) (hf : Cond.native arraycopyName ∈ Gt ∧ Cond.static arraycopyName ∈ Gt ∧ Cond.initialized "java/lang/System" ∈ Gt)
    {sp dp n : Int32} (hc : wCk sp dp n n0 n1) {g' : Mm} (hg : g' = wCp g t i v t1 i1 v1 sp dp n) (hframes : 1 ≤ R.frames) (hlocals : (rest.map fun v => v.category).sum + (nativeFrameWords "java/lang/System" "arraycopy" 5 + 11) ≤ R.locals) (hd : decode cc pc = .ok (.invokestatic idx, 3))
    (kk : ∀ (H : Heap) (locs : List Loc), Hx Y S k s g' H locs → W p l e R s m args below meth c H locs cells slots Q (F0 m (pc + 3) ls rest)) : W p l e R s m args below meth c H locs cells slots Q (F0 m pc ls (.int n :: .int dp :: .ref (k.1 + Y.1 t1 i1 v1) :: .int sp :: .ref (k.1 + Y.1 t i v) :: rest)) := by
  subst hg
  have hA1 : AS Y S k (k.1 + Y.1 t1 i1 v1) := ⟨t1, i1, v1, hs1, hi1, hv1, rfl⟩
  have hA0 : AS Y S k (k.1 + Y.1 t i v) := ⟨t, i, v, hs, hi, hv, rfl⟩
  obtain ⟨c1, c2, c3, c4, c5⟩ := hc
  have key : ∀ (H1 : Heap) (locs1 : List Loc), H1[k.1 + Y.1 t1 i1 v1]? = some (vp_cell (k.2.2.1 0) (n1, .inl (va_cpy (g t i v) (g t1 i1 v1) sp.toNatClampNeg dp.toNatClampNeg n.toNatClampNeg))) → (∀ q : Nat, q ≠ k.1 + Y.1 t1 i1 v1 → H1[q]? = H[q]?) → va_S (AS Y S k) s.heap H1 locs1 → H1.size = H.size → Hx Y S k s (wCp g t i v t1 i1 v1 sp dp n) H1 locs1 := by
    intro H1 locs1 q1 q2 q3 q4
    refine ⟨wd_row hY h.1 hi1 hv1 (fun t' i' v' z => by funext j; unfold wCp; rw [if_neg z]) ?_ q2, q3, q4.trans h.2.2⟩
    rw [he1]
    have e1 : wCp g t i v t1 i1 v1 sp dp n t1 i1 v1 = va_cpy (g t i v) (g t1 i1 v1) sp.toNatClampNeg dp.toNatClampNeg n.toNatClampNeg := by
      funext j; unfold wCp; rw [if_pos ⟨rfl, rfl, rfl⟩]
    rw [e1]
    exact q1
  exact ro_copyH X.x X.b (X.L hls) X.o (X.t _ hl) (X.t _ hf.1) (X.t _ hf.2.1) (X.t _ hf.2.2) ((X.K.2 0 _ rfl).1 n0 (fun j => .int (g t i v j))) ((X.K.2 0 _ rfl).1 n1 (fun j => .int (g t1 i1 v1 j))) (wd_one h.1 hs hi hv (he _) 0 _ rfl) (wd_one h.1 hs1 hi1 hv1 (he1 _) 0 _ rfl) h.2.1 hA1 c1 c2 c3 c4 c5 hframes hlocals hd (fun H1 locs1 q1 q2 q3 q4 => kk H1 locs1 (key H1 locs1 q1 q2 q3 q4))
end WRows3
-- ===== constant strings and the library's members =====
set_option maxRecDepth 10000 in
theorem mn_f : Cond.static Lib.Math.min.name ∈ Gt ∧ Cond.initialized "java/lang/Math" ∈ Gt ∧ Cond.code Lib.Math.min.name Lib.Math.min.code 2 (some .int) ∈ Gt := ⟨gr0 193 rfl rfl, gr0 9 rfl rfl, gr0 194 rfl rfl⟩
section WRows4
variable {p : Program} {l : Launch} {e : Env} {R : Room} {s : State} {m : MethodId} {args : Array Value} {below : List Frame} {meth : Method} {c : Code} {H : Heap} {locs : List Loc} {cells slots : Nat} {Q : State → Prop}
variable {Y : Ly} {S : Nat → Prop} {k : En} {g : Mm} {cc : ByteArray} {nL pc : Nat} {ret : Option FieldType} {own : String} {ls : Array Slot} {rest : List Value}
theorem ro_min (X : Cx Y S k p s m args meth c cc nL ret own) {l0 : List (Nat × Value)} (hls : lv_has ls nL l0) {idx : Nat} (hl : Cond.methodLink own idx Lib.Math.min.name ∈ Gt) (hf : Cond.static Lib.Math.min.name ∈ Gt ∧ Cond.initialized "java/lang/Math" ∈ Gt ∧ Cond.code Lib.Math.min.name Lib.Math.min.code 2 (some .int) ∈ Gt)
    (hR : 1 ≤ R.frames) (hlo : (rest.map fun v => v.category).sum + 13 ≤ R.locals) (hcs : cells ≤ R.cells ∧ slots ≤ R.slots) {x z : Int32} (hd : decode cc pc = .ok (.invokestatic idx, 3))
    (kk : W p l e R s m args below meth c H locs cells slots Q (F0 m (pc + 3) ls (.int (if z < x then z else x) :: rest))) : W p l e R s m args below meth c H locs cells slots Q (F0 m pc ls (.int z :: .int x :: rest)) :=
  va_mmin X.x X.b (X.L hls) X.o (X.t _ hl) (X.t _ hf.1) (X.t _ hf.2.1) (X.t _ hf.2.2) hR hlo hcs.1 hcs.2 hd kk
theorem r_str (X : Cx Y S k p s m args meth c cc nL ret own) (h : Hx Y S k s g H locs) {q : Nat} (hq : q < 3) : ∃ cell : Cell, H[k.2.2.2.2.1 q]? = some cell ∧ cell.vm.isStatics = false ∧ s.vm.findClass "java/lang/String" = some cell.cls := vk_recv X.2.2.1.2.1 hq h.2.1
theorem ro_lds (X : Cx Y S k p s m args meth c cc nL ret own) (h : Hx Y S k s g H locs) (q : Nat) {idx : Nat} {tx : String} (hr : kS[q]? = some (own, idx, tx)) (hd : decode cc pc = .ok (.ldc idx, 2))
    (kk : W p l e R s m args below meth c H locs cells slots Q (F0 m (pc + 2) ls (.ref (k.2.2.2.2.1 q) :: rest))) : W p l e R s m args below meth c H locs cells slots Q (F0 m pc ls rest) :=
  va_ldcS X.x X.b X.o (X.2.2.1.2.2.1 q _ hr) hd kk
theorem ro_sval (X : Cx Y S k p s m args meth c cc nL ret own) (h : Hx Y S k s g H locs) {q : Nat} (hq : q < 3) {idx : Nat} (hl : Cond.fieldLink own idx "java/lang/String" "value" "[B" ∈ Gt) (hd : decode cc pc = .ok (.getfield idx, 3))
    (kk : W p l e R s m args below meth c H locs cells slots Q (F0 m (pc + 3) ls (.ref (k.2.2.2.2.2 q) :: rest))) : W p l e R s m args below meth c H locs cells slots Q (F0 m pc ls (.ref (k.2.2.2.2.1 q) :: rest)) :=
  vk_getf X.x X.b (X.2.2.1.2.1.1 q hq).2.2.1 h.2.1 X.o (X.t _ hl) (fun _ z => z) hd kk
theorem ro_scod (X : Cx Y S k p s m args meth c cc nL ret own) (h : Hx Y S k s g H locs) {q : Nat} (hq : q < 3) {idx : Nat} (hl : Cond.fieldLink own idx "java/lang/String" "coder" "B" ∈ Gt) (hd : decode cc pc = .ok (.getfield idx, 3))
    (kk : W p l e R s m args below meth c H locs cells slots Q (F0 m (pc + 3) ls (.int 0 :: rest))) : W p l e R s m args below meth c H locs cells slots Q (F0 m pc ls (.ref (k.2.2.2.2.1 q) :: rest)) :=
  vk_getf X.x X.b (X.2.2.1.2.1.1 q hq).2.1 h.2.1 X.o (X.t _ hl) (fun _ z => z) hd kk
theorem ro_bald (X : Cx Y S k p s m args meth c cc nL ret own) (h : Hx Y S k s g H locs) {q : Nat} (hq : q < 3) {x : Int32} (hin : vp_in x (kN q)) (hd : decode cc pc = .ok (.baload, 1))
    (kk : W p l e R s m args below meth c H locs cells slots Q (F0 m (pc + 1) ls (.int (kC q x.toNatClampNeg) :: rest))) : W p l e R s m args below meth c H locs cells slots Q (F0 m pc ls (.int x :: .ref (k.2.2.2.2.2 q) :: rest)) :=
  va_tb X.x X.b (X.2.2.1.2.1.1 q hq).2.2.2 h.2.1 hin rfl hd kk
theorem ro_blen (X : Cx Y S k p s m args meth c cc nL ret own) (h : Hx Y S k s g H locs) {q : Nat} (hq : q < 3) (hd : decode cc pc = .ok (.arraylength, 1))
    (kk : W p l e R s m args below meth c H locs cells slots Q (F0 m (pc + 1) ls (.int (nI (kN q)) :: rest))) : W p l e R s m args below meth c H locs cells slots Q (F0 m pc ls (.ref (k.2.2.2.2.2 q) :: rest)) :=
  va_tlen X.x X.b (X.2.2.1.2.1.1 q hq).2.2.2 h.2.1 rfl hd kk
theorem ro_csf (X : Cx Y S k p s m args meth c cc nL ret own) (h : Hx Y S k s g H locs) {idx : Nat} (hl : Cond.fieldLink own idx "java/lang/String" "COMPACT_STRINGS" "Z" ∈ Gt) (hd : decode cc pc = .ok (.getstatic idx, 3))
    (kk : W p l e R s m args below meth c H locs cells slots Q (F0 m (pc + 3) ls (.int 1 :: rest))) : W p l e R s m args below meth c H locs cells slots Q (F0 m pc ls rest) :=
  va_gets X.x X.b X.2.2.1.2.2.2.1 h.2.1 X.o (X.t _ hl) (fun _ z => z) hd kk
theorem ro_ldcw (X : Cx Y S k p s m args meth c cc nL ret own) {idx : Nat} {x : Int32} (hl : Cond.constant own idx x ∈ Gt) (hd : decode cc pc = .ok (.ldc_w idx, 3)) (kk : W p l e R s m args below meth c H locs cells slots Q (F0 m (pc + 3) ls (.int x :: rest))) : W p l e R s m args below meth c H locs cells slots Q (F0 m pc ls rest) :=
  lv_ldcw X.x X.b X.o (X.t _ hl) hd kk
theorem ro_bret (X : Cx Y S k p s m args meth c cc nL (some .byte) own) (h : Hx Y S k s g H locs) {x : Int32} (hz : vp_nar .byte x = x) (hd : decode cc pc = .ok (.ireturn, 1)) : W p l e R s m args below meth c H locs 0 0 (Fin Y S k args s below (some (.int x)) g) (F0 m pc ls [.int x]) :=
  W.zret X.x X.b X.2.2.2.1 (by show Value.int (vp_nar .byte x) = _; rw [hz]) (ro_fin h) (fun q hq => h.2.1.2.2 q hq) hd X.2.2.2.2
theorem ro_cret (X : Cx Y S k p s m args meth c cc nL (some .char) own) (h : Hx Y S k s g H locs) {x : Int32} (hz : vp_nar .char x = x) (hd : decode cc pc = .ok (.ireturn, 1)) : W p l e R s m args below meth c H locs 0 0 (Fin Y S k args s below (some (.int x)) g) (F0 m pc ls [.int x]) :=
  W.zret X.x X.b X.2.2.2.1 (by show Value.int (vp_nar .char x) = _; rw [hz]) (ro_fin h) (fun q hq => h.2.1.2.2 q hq) hd X.2.2.2.2
end WRows4
