-- ===== end of PART A; then your names; then what follows =====
/-! THE CLAIM OUT OF ONE WALK OF THE LAW'S BODY. Your part is whole_start (and what it stands on); all else here is the same for every law, but numbers. -/
def R_law : String := "WingPortLaw"
def lw_P (b : Addr) (xs : List Int32) (args : Array Value) (s : State) : Prop := args = #[.ref b] ∧ s.IntsAt b xs ∧ xs.length ≤ 3072 ∧ (Jvm.Cond.and given_1 narrow_1).before args s = true
def lw_Q (_ : Array Value) (s : State) (o : Outcome) (t : State) : Prop := o = .returned (some (.int 1)) ∧ Framed s o t [] 600000 7302250
def lw_Z (below : List Frame) (a : Array Value) (s : State) : State → Prop := fun t => ∃ o, t.status = .running ∧ Ended t below o ∧ lw_Q a s o t
/-- the law's own end, with 1 on the stack, nothing written that was there before, its room as the claim has it -/
theorem lw_ret {p : Program} {l : Launch} {e : Env} {s : State} {m : MethodId} {below : List Frame} {meth : Method} {c : Code} {b : Nat} (hx : p.tables.exec = Jvm.exec) (hb : c.code = code) (hr : meth.sig.returnType = ret) (hlocks : meth.locks = false) {pc : Nat} {H : Heap} {ls : Array Slot} (hdg : decode code pc = .ok (.ireturn, 1)) : W p l e room_1 s m #[Value.ref b] below meth c H [] 600000 7302250 (lw_Z below #[Value.ref b] s) (F0 m pc ls [.int 1]) := by
  intro T hT X
  obtain ⟨fs, hret, hrun, hended, hW, hframe⟩ := X.leave (v := some (.int 1)) (hlocks := hlocks) (fun h => by rw [hr] at h; cases h)
  have hmeth' : T.vm.method? m = some meth := X.method'
  refine ⟨T.setFrames fs, ?_, .returned (some (.int 1)), hrun, hended, rfl, ⟨_, rfl⟩, hW, hframe⟩
  jvm_step X.here [X.here.top, hx, hb, hdg, hmeth', hr, ret, narrow_b1]
  (try refine ⟨rfl, ?_⟩); (try refine ⟨rfl, ?_⟩)
  first | (intro acts; rw [hret _ acts rfl rfl rfl]) | rw [hret _ _ rfl rfl rfl]
  exact Steps.refl _
/-- what holds at the law's entry: the machine, the code, the tables' words (any of lw_tbl by 'hts w (by decide +kernel)'), the script of L ints xs at the cell b, what the Statement gives of the start (any of its parts by flat_of_before) -/
def lw_At (p : Program) (s : State) (m : MethodId) (meth : Method) (c : Code) (b L : Nat) (xs : Nat → Int32) : Prop :=
  p.tables.exec = Jvm.exec ∧ c.code = code ∧ meth.sig.returnType = ret ∧ c.maxLocals = 4 ∧ s.vm.findClass R_law = some m.cls ∧ (∀ w ∈ lw_tbl, w.before #[Value.ref b] s = true) ∧ va_X b L xs s s.heap ∧ b < s.heap.size ∧ meth.locks = false ∧ (Jvm.Cond.and given_1 narrow_1).before #[Value.ref b] s = true
set_option maxRecDepth 10000 in
theorem lkL_9 : Cond.methodLink "WingPortLaw" 9 yX10_init ∈ Gt := gr0 23 rfl rfl
set_option maxRecDepth 10000 in
theorem lkL_12 : Cond.methodLink "WingPortLaw" 12 yX11_init ∈ Gt := gr4 95 rfl rfl
set_option maxRecDepth 10000 in
theorem lkL_13 : Cond.methodLink "WingPortLaw" 13 yX10_stand ∈ Gt := gr2 74 rfl rfl
set_option maxRecDepth 10000 in
theorem lkL_17 : Cond.methodLink "WingPortLaw" 17 yX11_stand ∈ Gt := gr4 227 rfl rfl
set_option maxRecDepth 10000 in
theorem lkL_18 : Cond.methodLink "WingPortLaw" 18 yX10_set ∈ Gt := gr2 82 rfl rfl
set_option maxRecDepth 10000 in
theorem lkL_22 : Cond.methodLink "WingPortLaw" 22 yX11_set ∈ Gt := gr4 234 rfl rfl
set_option maxRecDepth 10000 in
theorem lkL_23 : Cond.methodLink "WingPortLaw" 23 yX10_visit ∈ Gt := gr2 93 rfl rfl
set_option maxRecDepth 10000 in
theorem lkL_27 : Cond.methodLink "WingPortLaw" 27 yX11_visit ∈ Gt := gr4 238 rfl rfl
set_option maxRecDepth 10000 in
theorem lkL_28 : Cond.methodLink "WingPortLaw" 28 yX10_late ∈ Gt := gr2 112 rfl rfl
set_option maxRecDepth 10000 in
theorem lkL_31 : Cond.methodLink "WingPortLaw" 31 yX11_late ∈ Gt := gr5 2 rfl rfl
set_option maxRecDepth 10000 in
theorem lkL_32 : Cond.methodLink "WingPortLaw" 32 yX10_wish ∈ Gt := gr2 120 rfl rfl
set_option maxRecDepth 10000 in
theorem lkL_35 : Cond.methodLink "WingPortLaw" 35 yX11_wish ∈ Gt := gr5 14 rfl rfl
set_option maxRecDepth 10000 in
theorem lkL_36 : Cond.methodLink "WingPortLaw" 36 yX10_feed ∈ Gt := gr2 141 rfl rfl
set_option maxRecDepth 10000 in
theorem lkL_39 : Cond.methodLink "WingPortLaw" 39 yX11_feed ∈ Gt := gr5 26 rfl rfl
set_option maxRecDepth 10000 in
theorem lkL_40 : Cond.methodLink "WingPortLaw" 40 yX10_run ∈ Gt := gr2 153 rfl rfl
set_option maxRecDepth 10000 in
theorem lkL_43 : Cond.methodLink "WingPortLaw" 43 yX11_run ∈ Gt := gr5 110 rfl rfl
set_option maxRecDepth 10000 in
theorem lkL_44 : Cond.methodLink "WingPortLaw" 44 yX10_visitTold ∈ Gt := gr3 73 rfl rfl
set_option maxRecDepth 10000 in
theorem lkL_47 : Cond.methodLink "WingPortLaw" 47 yX11_visitTold ∈ Gt := gr5 186 rfl rfl
set_option maxRecDepth 10000 in
theorem lkL_48 : Cond.methodLink "WingPortLaw" 48 yX10_cause ∈ Gt := gr3 87 rfl rfl
set_option maxRecDepth 10000 in
theorem lkL_51 : Cond.methodLink "WingPortLaw" 51 yX11_cause ∈ Gt := gr5 194 rfl rfl
set_option maxRecDepth 10000 in
theorem lkL_52 : Cond.methodLink "WingPortLaw" 52 yX10_feedTold ∈ Gt := gr3 91 rfl rfl
set_option maxRecDepth 10000 in
theorem lkL_55 : Cond.methodLink "WingPortLaw" 55 yX11_feedTold ∈ Gt := gr5 198 rfl rfl
set_option maxRecDepth 10000 in
theorem lkL_56 : Cond.methodLink "WingPortLaw" 56 yX10_standTold ∈ Gt := gr3 103 rfl rfl
set_option maxRecDepth 10000 in
theorem lkL_59 : Cond.methodLink "WingPortLaw" 59 yX11_standTold ∈ Gt := gr5 202 rfl rfl
set_option maxRecDepth 10000 in
theorem lkL_60 : Cond.methodLink "WingPortLaw" 60 yX10_runwayTold ∈ Gt := gr3 107 rfl rfl
set_option maxRecDepth 10000 in
theorem lkL_63 : Cond.methodLink "WingPortLaw" 63 yX11_runwayTold ∈ Gt := gr5 206 rfl rfl
set_option maxRecDepth 10000 in
theorem lkL_64 : Cond.methodLink "WingPortLaw" 64 yX10_ticks ∈ Gt := gr3 111 rfl rfl
set_option maxRecDepth 10000 in
theorem lkL_67 : Cond.methodLink "WingPortLaw" 67 yX11_ticks_ ∈ Gt := gr5 210 rfl rfl
set_option maxRecDepth 10000 in
theorem lkL_68 : Cond.methodLink "WingPortLaw" 68 yX10_kindTold ∈ Gt := gr3 116 rfl rfl
set_option maxRecDepth 10000 in
theorem lkL_71 : Cond.methodLink "WingPortLaw" 71 yX11_kindTold ∈ Gt := gr5 214 rfl rfl
set_option maxRecDepth 10000 in
theorem lkL_72 : Cond.methodLink "WingPortLaw" 72 yX10_trucks ∈ Gt := gr3 122 rfl rfl
set_option maxRecDepth 10000 in
theorem lkL_75 : Cond.methodLink "WingPortLaw" 75 yX11_trucks ∈ Gt := gr5 218 rfl rfl
set_option maxRecDepth 10000 in
theorem lkL_76 : Cond.methodLink "WingPortLaw" 76 yX10_beside ∈ Gt := gr3 126 rfl rfl
set_option maxRecDepth 10000 in
theorem lkL_79 : Cond.methodLink "WingPortLaw" 79 yX11_beside ∈ Gt := gr5 222 rfl rfl
set_option maxRecDepth 10000 in
theorem lkL_80 : Cond.methodLink "WingPortLaw" 80 yX10_plan ∈ Gt := gr3 163 rfl rfl
set_option maxRecDepth 10000 in
theorem lkL_83 : Cond.methodLink "WingPortLaw" 83 yX11_plan ∈ Gt := gr6 2 rfl rfl
set_option maxRecDepth 10000 in
theorem lkL_84 : Cond.methodLink "WingPortLaw" 84 yX10_planned ∈ Gt := gr3 194 rfl rfl
set_option maxRecDepth 10000 in
theorem lkL_87 : Cond.methodLink "WingPortLaw" 87 yX11_planned ∈ Gt := gr6 10 rfl rfl
set_option maxRecDepth 10000 in
theorem lkL_88 : Cond.methodLink "WingPortLaw" 88 yX10_settle ∈ Gt := gr3 206 rfl rfl
set_option maxRecDepth 10000 in
theorem lkL_92 : Cond.methodLink "WingPortLaw" 92 yX11_settle ∈ Gt := gr6 14 rfl rfl
set_option maxRecDepth 10000 in
theorem lkL_93 : Cond.methodLink "WingPortLaw" 93 yX10_estimate ∈ Gt := gr3 210 rfl rfl
set_option maxRecDepth 10000 in
theorem lkL_96 : Cond.methodLink "WingPortLaw" 96 yX11_estimate ∈ Gt := gr6 18 rfl rfl
set_option maxRecDepth 10000 in
theorem lkL_97 : Cond.methodLink "WingPortLaw" 97 yX10_expects ∈ Gt := gr3 218 rfl rfl
set_option maxRecDepth 10000 in
theorem lkL_100 : Cond.methodLink "WingPortLaw" 100 yX11_expects ∈ Gt := gr6 22 rfl rfl
set_option maxRecDepth 10000 in
theorem lkL_101 : Cond.methodLink "WingPortLaw" 101 yX10_misses ∈ Gt := gr4 2 rfl rfl
set_option maxRecDepth 10000 in
theorem lkL_104 : Cond.methodLink "WingPortLaw" 104 yX11_misses ∈ Gt := gr6 38 rfl rfl
set_option maxRecDepth 10000 in
theorem lkL_107 : Cond.methodLink "WingPortLaw" 107 yX10_feedTape ∈ Gt := gr4 12 rfl rfl
set_option maxRecDepth 10000 in
theorem lkL_111 : Cond.methodLink "WingPortLaw" 111 yX11_feedTape ∈ Gt := gr5 30 rfl rfl
set_option maxRecDepth 10000 in
theorem lkL_112 : Cond.methodLink "WingPortLaw" 112 yX10_text ∈ Gt := gr4 20 rfl rfl
set_option maxRecDepth 10000 in
theorem lkL_115 : Cond.methodLink "WingPortLaw" 115 yX11_text ∈ Gt := gr5 35 rfl rfl
set_option maxRecDepth 10000 in
theorem lkL_116 : Cond.methodLink "WingPortLaw" 116 yX10_force ∈ Gt := gr4 25 rfl rfl
set_option maxRecDepth 10000 in
theorem lkL_119 : Cond.methodLink "WingPortLaw" 119 yX11_force ∈ Gt := gr5 78 rfl rfl
set_option maxRecDepth 10000 in
theorem lkL_120 : Cond.methodLink "WingPortLaw" 120 yX10_tells ∈ Gt := gr4 29 rfl rfl
set_option maxRecDepth 10000 in
theorem lkL_124 : Cond.methodLink "WingPortLaw" 124 yX11_tells ∈ Gt := gr5 82 rfl rfl
set_option maxRecDepth 10000 in
theorem lkL_125 : Cond.methodLink "WingPortLaw" 125 yX10_count ∈ Gt := gr4 36 rfl rfl
set_option maxRecDepth 10000 in
theorem lkL_128 : Cond.methodLink "WingPortLaw" 128 yX11_count ∈ Gt := gr6 42 rfl rfl
set_option maxRecDepth 10000 in
theorem lkL_129 : Cond.methodLink "WingPortLaw" 129 yX10_sheet ∈ Gt := gr4 41 rfl rfl
set_option maxRecDepth 10000 in
theorem lkL_133 : Cond.methodLink "WingPortLaw" 133 yX11_sheet ∈ Gt := gr6 46 rfl rfl
set_option maxRecDepth 10000 in
theorem lkL_134 : Cond.methodLink "WingPortLaw" 134 yX10_cell ∈ Gt := gr4 49 rfl rfl
set_option maxRecDepth 10000 in
theorem lkL_137 : Cond.methodLink "WingPortLaw" 137 yX11_cell ∈ Gt := gr6 50 rfl rfl
set_option maxRecDepth 10000 in
theorem lkL_138 : Cond.methodLink "WingPortLaw" 138 yX10_copy ∈ Gt := gr4 65 rfl rfl
set_option maxRecDepth 10000 in
theorem lkL_142 : Cond.methodLink "WingPortLaw" 142 yX11_copy ∈ Gt := gr6 54 rfl rfl
set_option maxRecDepth 10000 in
theorem lkL_143 : Cond.methodLink "WingPortLaw" 143 yX10_visits ∈ Gt := gr4 74 rfl rfl
set_option maxRecDepth 10000 in
theorem lkL_146 : Cond.methodLink "WingPortLaw" 146 yX11_visits ∈ Gt := gr6 58 rfl rfl
set_option maxRecDepth 10000 in
theorem lkL_147 : Cond.methodLink "WingPortLaw" 147 yX10_taken ∈ Gt := gr4 84 rfl rfl
set_option maxRecDepth 10000 in
theorem lkL_150 : Cond.methodLink "WingPortLaw" 150 yX11_taken ∈ Gt := gr6 63 rfl rfl
set_option maxRecDepth 10000 in
theorem clL_7 : Cond.classLink "WingPortLaw" 7 "WingPort" ∈ Gt := gr0 21 rfl rfl
set_option maxRecDepth 10000 in
theorem clL_10 : Cond.classLink "WingPortLaw" 10 "WingPortModel" ∈ Gt := gr4 93 rfl rfl
set_option maxRecDepth 10000 in
theorem lcL_105 : Cond.constantLong "WingPortLaw" 105 (4294967295 : Int64) ∈ Gt := gr6 70 rfl rfl
theorem dL_law_0 : decode code 0 = .ok (.new 7, 3) := by decide +kernel
theorem dL_law_3 : decode code 3 = .ok (.dup, 1) := by decide +kernel
theorem dL_law_4 : decode code 4 = .ok (.invokespecial 9, 3) := by decide +kernel
theorem dL_law_7 : decode code 7 = .ok (.astore_n 1, 1) := by decide +kernel
theorem dL_law_8 : decode code 8 = .ok (.new 10, 3) := by decide +kernel
theorem dL_law_11 : decode code 11 = .ok (.dup, 1) := by decide +kernel
theorem dL_law_12 : decode code 12 = .ok (.invokespecial 12, 3) := by decide +kernel
theorem dL_law_15 : decode code 15 = .ok (.astore_n 2, 1) := by decide +kernel
theorem dL_law_16 : decode code 16 = .ok (.iconst 0, 1) := by decide +kernel
theorem dL_law_17 : decode code 17 = .ok (.istore_n 3, 1) := by decide +kernel
theorem dL_law_18 : decode code 18 = .ok (.iload_n 3, 1) := by decide +kernel
theorem dL_law_19 : decode code 19 = .ok (.aload_n 0, 1) := by decide +kernel
theorem dL_law_20 : decode code 20 = .ok (.arraylength, 1) := by decide +kernel
theorem dL_law_21 : decode code 21 = .ok (.bipush 6, 2) := by decide +kernel
theorem dL_law_23 : decode code 23 = .ok (.isub, 1) := by decide +kernel
theorem dL_law_24 : decode code 24 = .ok (.if_icmp .gt 1265, 3) := by decide +kernel
theorem dL_law_27 : decode code 27 = .ok (.aload_n 0, 1) := by decide +kernel
theorem dL_law_28 : decode code 28 = .ok (.iload_n 3, 1) := by decide +kernel
theorem dL_law_29 : decode code 29 = .ok (.iaload, 1) := by decide +kernel
theorem dL_law_30 : decode code 30 = .ok (.bipush 31, 2) := by decide +kernel
theorem dL_law_32 : decode code 32 = .ok (.iand, 1) := by decide +kernel
theorem dL_law_33 : decode code 33 = .ok (.tableswitch 1250 0 31 #[143, 166, 199, 252, 285, 318, 371, 394, 427, 460, 493, 526, 559, 592, 625, 658, 691, 724, 747, 760, 793, 826, 859, 922, 935, 958, 992, 1015, 1058, 1101, 1164, 1217], 143) := by decide +kernel
theorem dL_law_176 : decode code 176 = .ok (.aload_n 1, 1) := by decide +kernel
theorem dL_law_177 : decode code 177 = .ok (.aload_n 0, 1) := by decide +kernel
theorem dL_law_178 : decode code 178 = .ok (.iload_n 3, 1) := by decide +kernel
theorem dL_law_179 : decode code 179 = .ok (.iconst 1, 1) := by decide +kernel
theorem dL_law_180 : decode code 180 = .ok (.iadd, 1) := by decide +kernel
theorem dL_law_181 : decode code 181 = .ok (.iaload, 1) := by decide +kernel
theorem dL_law_182 : decode code 182 = .ok (.invokevirtual 13, 3) := by decide +kernel
theorem dL_law_185 : decode code 185 = .ok (.aload_n 2, 1) := by decide +kernel
theorem dL_law_186 : decode code 186 = .ok (.aload_n 0, 1) := by decide +kernel
theorem dL_law_187 : decode code 187 = .ok (.iload_n 3, 1) := by decide +kernel
theorem dL_law_188 : decode code 188 = .ok (.iconst 1, 1) := by decide +kernel
theorem dL_law_189 : decode code 189 = .ok (.iadd, 1) := by decide +kernel
theorem dL_law_190 : decode code 190 = .ok (.iaload, 1) := by decide +kernel
theorem dL_law_191 : decode code 191 = .ok (.invokevirtual 17, 3) := by decide +kernel
theorem dL_law_194 : decode code 194 = .ok (.if_icmp .eq 1089, 3) := by decide +kernel
theorem dL_law_197 : decode code 197 = .ok (.iconst 0, 1) := by decide +kernel
theorem dL_law_198 : decode code 198 = .ok (.ireturn, 1) := by decide +kernel
theorem dL_law_199 : decode code 199 = .ok (.aload_n 1, 1) := by decide +kernel
theorem dL_law_200 : decode code 200 = .ok (.aload_n 0, 1) := by decide +kernel
theorem dL_law_201 : decode code 201 = .ok (.iload_n 3, 1) := by decide +kernel
theorem dL_law_202 : decode code 202 = .ok (.iconst 1, 1) := by decide +kernel
theorem dL_law_203 : decode code 203 = .ok (.iadd, 1) := by decide +kernel
theorem dL_law_204 : decode code 204 = .ok (.iaload, 1) := by decide +kernel
theorem dL_law_205 : decode code 205 = .ok (.aload_n 0, 1) := by decide +kernel
theorem dL_law_206 : decode code 206 = .ok (.iload_n 3, 1) := by decide +kernel
theorem dL_law_207 : decode code 207 = .ok (.iconst 2, 1) := by decide +kernel
theorem dL_law_208 : decode code 208 = .ok (.iadd, 1) := by decide +kernel
theorem dL_law_209 : decode code 209 = .ok (.iaload, 1) := by decide +kernel
theorem dL_law_210 : decode code 210 = .ok (.invokevirtual 18, 3) := by decide +kernel
theorem dL_law_213 : decode code 213 = .ok (.aload_n 2, 1) := by decide +kernel
theorem dL_law_214 : decode code 214 = .ok (.aload_n 0, 1) := by decide +kernel
theorem dL_law_215 : decode code 215 = .ok (.iload_n 3, 1) := by decide +kernel
theorem dL_law_216 : decode code 216 = .ok (.iconst 1, 1) := by decide +kernel
theorem dL_law_217 : decode code 217 = .ok (.iadd, 1) := by decide +kernel
theorem dL_law_218 : decode code 218 = .ok (.iaload, 1) := by decide +kernel
theorem dL_law_219 : decode code 219 = .ok (.aload_n 0, 1) := by decide +kernel
theorem dL_law_220 : decode code 220 = .ok (.iload_n 3, 1) := by decide +kernel
theorem dL_law_221 : decode code 221 = .ok (.iconst 2, 1) := by decide +kernel
theorem dL_law_222 : decode code 222 = .ok (.iadd, 1) := by decide +kernel
theorem dL_law_223 : decode code 223 = .ok (.iaload, 1) := by decide +kernel
theorem dL_law_224 : decode code 224 = .ok (.invokevirtual 22, 3) := by decide +kernel
theorem dL_law_227 : decode code 227 = .ok (.if_icmp .eq 1056, 3) := by decide +kernel
theorem dL_law_230 : decode code 230 = .ok (.iconst 0, 1) := by decide +kernel
theorem dL_law_231 : decode code 231 = .ok (.ireturn, 1) := by decide +kernel
theorem dL_law_232 : decode code 232 = .ok (.aload_n 1, 1) := by decide +kernel
theorem dL_law_233 : decode code 233 = .ok (.aload_n 0, 1) := by decide +kernel
theorem dL_law_234 : decode code 234 = .ok (.iload_n 3, 1) := by decide +kernel
theorem dL_law_235 : decode code 235 = .ok (.iconst 1, 1) := by decide +kernel
theorem dL_law_236 : decode code 236 = .ok (.iadd, 1) := by decide +kernel
theorem dL_law_237 : decode code 237 = .ok (.iaload, 1) := by decide +kernel
theorem dL_law_238 : decode code 238 = .ok (.aload_n 0, 1) := by decide +kernel
theorem dL_law_239 : decode code 239 = .ok (.iload_n 3, 1) := by decide +kernel
theorem dL_law_240 : decode code 240 = .ok (.iconst 2, 1) := by decide +kernel
theorem dL_law_241 : decode code 241 = .ok (.iadd, 1) := by decide +kernel
theorem dL_law_242 : decode code 242 = .ok (.iaload, 1) := by decide +kernel
theorem dL_law_243 : decode code 243 = .ok (.aload_n 0, 1) := by decide +kernel
theorem dL_law_244 : decode code 244 = .ok (.iload_n 3, 1) := by decide +kernel
theorem dL_law_245 : decode code 245 = .ok (.iconst 3, 1) := by decide +kernel
theorem dL_law_246 : decode code 246 = .ok (.iadd, 1) := by decide +kernel
theorem dL_law_247 : decode code 247 = .ok (.iaload, 1) := by decide +kernel
theorem dL_law_248 : decode code 248 = .ok (.aload_n 0, 1) := by decide +kernel
theorem dL_law_249 : decode code 249 = .ok (.iload_n 3, 1) := by decide +kernel
theorem dL_law_250 : decode code 250 = .ok (.iconst 4, 1) := by decide +kernel
theorem dL_law_251 : decode code 251 = .ok (.iadd, 1) := by decide +kernel
theorem dL_law_252 : decode code 252 = .ok (.iaload, 1) := by decide +kernel
theorem dL_law_253 : decode code 253 = .ok (.invokevirtual 23, 3) := by decide +kernel
theorem dL_law_256 : decode code 256 = .ok (.aload_n 2, 1) := by decide +kernel
theorem dL_law_257 : decode code 257 = .ok (.aload_n 0, 1) := by decide +kernel
theorem dL_law_258 : decode code 258 = .ok (.iload_n 3, 1) := by decide +kernel
theorem dL_law_259 : decode code 259 = .ok (.iconst 1, 1) := by decide +kernel
theorem dL_law_260 : decode code 260 = .ok (.iadd, 1) := by decide +kernel
theorem dL_law_261 : decode code 261 = .ok (.iaload, 1) := by decide +kernel
theorem dL_law_262 : decode code 262 = .ok (.aload_n 0, 1) := by decide +kernel
theorem dL_law_263 : decode code 263 = .ok (.iload_n 3, 1) := by decide +kernel
theorem dL_law_264 : decode code 264 = .ok (.iconst 2, 1) := by decide +kernel
theorem dL_law_265 : decode code 265 = .ok (.iadd, 1) := by decide +kernel
theorem dL_law_266 : decode code 266 = .ok (.iaload, 1) := by decide +kernel
theorem dL_law_267 : decode code 267 = .ok (.aload_n 0, 1) := by decide +kernel
theorem dL_law_268 : decode code 268 = .ok (.iload_n 3, 1) := by decide +kernel
theorem dL_law_269 : decode code 269 = .ok (.iconst 3, 1) := by decide +kernel
theorem dL_law_270 : decode code 270 = .ok (.iadd, 1) := by decide +kernel
theorem dL_law_271 : decode code 271 = .ok (.iaload, 1) := by decide +kernel
theorem dL_law_272 : decode code 272 = .ok (.aload_n 0, 1) := by decide +kernel
theorem dL_law_273 : decode code 273 = .ok (.iload_n 3, 1) := by decide +kernel
theorem dL_law_274 : decode code 274 = .ok (.iconst 4, 1) := by decide +kernel
theorem dL_law_275 : decode code 275 = .ok (.iadd, 1) := by decide +kernel
theorem dL_law_276 : decode code 276 = .ok (.iaload, 1) := by decide +kernel
theorem dL_law_277 : decode code 277 = .ok (.invokevirtual 27, 3) := by decide +kernel
theorem dL_law_280 : decode code 280 = .ok (.if_icmp .eq 1003, 3) := by decide +kernel
theorem dL_law_283 : decode code 283 = .ok (.iconst 0, 1) := by decide +kernel
theorem dL_law_284 : decode code 284 = .ok (.ireturn, 1) := by decide +kernel
theorem dL_law_285 : decode code 285 = .ok (.aload_n 1, 1) := by decide +kernel
theorem dL_law_286 : decode code 286 = .ok (.aload_n 0, 1) := by decide +kernel
theorem dL_law_287 : decode code 287 = .ok (.iload_n 3, 1) := by decide +kernel
theorem dL_law_288 : decode code 288 = .ok (.iconst 1, 1) := by decide +kernel
theorem dL_law_289 : decode code 289 = .ok (.iadd, 1) := by decide +kernel
theorem dL_law_290 : decode code 290 = .ok (.iaload, 1) := by decide +kernel
theorem dL_law_291 : decode code 291 = .ok (.aload_n 0, 1) := by decide +kernel
theorem dL_law_292 : decode code 292 = .ok (.iload_n 3, 1) := by decide +kernel
theorem dL_law_293 : decode code 293 = .ok (.iconst 2, 1) := by decide +kernel
theorem dL_law_294 : decode code 294 = .ok (.iadd, 1) := by decide +kernel
theorem dL_law_295 : decode code 295 = .ok (.iaload, 1) := by decide +kernel
theorem dL_law_296 : decode code 296 = .ok (.invokevirtual 28, 3) := by decide +kernel
theorem dL_law_299 : decode code 299 = .ok (.aload_n 2, 1) := by decide +kernel
theorem dL_law_300 : decode code 300 = .ok (.aload_n 0, 1) := by decide +kernel
theorem dL_law_301 : decode code 301 = .ok (.iload_n 3, 1) := by decide +kernel
theorem dL_law_302 : decode code 302 = .ok (.iconst 1, 1) := by decide +kernel
theorem dL_law_303 : decode code 303 = .ok (.iadd, 1) := by decide +kernel
theorem dL_law_304 : decode code 304 = .ok (.iaload, 1) := by decide +kernel
theorem dL_law_305 : decode code 305 = .ok (.aload_n 0, 1) := by decide +kernel
theorem dL_law_306 : decode code 306 = .ok (.iload_n 3, 1) := by decide +kernel
theorem dL_law_307 : decode code 307 = .ok (.iconst 2, 1) := by decide +kernel
theorem dL_law_308 : decode code 308 = .ok (.iadd, 1) := by decide +kernel
theorem dL_law_309 : decode code 309 = .ok (.iaload, 1) := by decide +kernel
theorem dL_law_310 : decode code 310 = .ok (.invokevirtual 31, 3) := by decide +kernel
theorem dL_law_313 : decode code 313 = .ok (.if_icmp .eq 970, 3) := by decide +kernel
theorem dL_law_316 : decode code 316 = .ok (.iconst 0, 1) := by decide +kernel
theorem dL_law_317 : decode code 317 = .ok (.ireturn, 1) := by decide +kernel
theorem dL_law_318 : decode code 318 = .ok (.aload_n 1, 1) := by decide +kernel
theorem dL_law_319 : decode code 319 = .ok (.aload_n 0, 1) := by decide +kernel
theorem dL_law_320 : decode code 320 = .ok (.iload_n 3, 1) := by decide +kernel
theorem dL_law_321 : decode code 321 = .ok (.iconst 1, 1) := by decide +kernel
theorem dL_law_322 : decode code 322 = .ok (.iadd, 1) := by decide +kernel
theorem dL_law_323 : decode code 323 = .ok (.iaload, 1) := by decide +kernel
theorem dL_law_324 : decode code 324 = .ok (.aload_n 0, 1) := by decide +kernel
theorem dL_law_325 : decode code 325 = .ok (.iload_n 3, 1) := by decide +kernel
theorem dL_law_326 : decode code 326 = .ok (.iconst 2, 1) := by decide +kernel
theorem dL_law_327 : decode code 327 = .ok (.iadd, 1) := by decide +kernel
theorem dL_law_328 : decode code 328 = .ok (.iaload, 1) := by decide +kernel
theorem dL_law_329 : decode code 329 = .ok (.invokevirtual 32, 3) := by decide +kernel
theorem dL_law_332 : decode code 332 = .ok (.aload_n 2, 1) := by decide +kernel
theorem dL_law_333 : decode code 333 = .ok (.aload_n 0, 1) := by decide +kernel
theorem dL_law_334 : decode code 334 = .ok (.iload_n 3, 1) := by decide +kernel
theorem dL_law_335 : decode code 335 = .ok (.iconst 1, 1) := by decide +kernel
theorem dL_law_336 : decode code 336 = .ok (.iadd, 1) := by decide +kernel
theorem dL_law_337 : decode code 337 = .ok (.iaload, 1) := by decide +kernel
theorem dL_law_338 : decode code 338 = .ok (.aload_n 0, 1) := by decide +kernel
theorem dL_law_339 : decode code 339 = .ok (.iload_n 3, 1) := by decide +kernel
theorem dL_law_340 : decode code 340 = .ok (.iconst 2, 1) := by decide +kernel
theorem dL_law_341 : decode code 341 = .ok (.iadd, 1) := by decide +kernel
theorem dL_law_342 : decode code 342 = .ok (.iaload, 1) := by decide +kernel
theorem dL_law_343 : decode code 343 = .ok (.invokevirtual 35, 3) := by decide +kernel
theorem dL_law_346 : decode code 346 = .ok (.if_icmp .eq 937, 3) := by decide +kernel
theorem dL_law_349 : decode code 349 = .ok (.iconst 0, 1) := by decide +kernel
theorem dL_law_350 : decode code 350 = .ok (.ireturn, 1) := by decide +kernel
theorem dL_law_351 : decode code 351 = .ok (.aload_n 1, 1) := by decide +kernel
theorem dL_law_352 : decode code 352 = .ok (.aload_n 0, 1) := by decide +kernel
theorem dL_law_353 : decode code 353 = .ok (.iload_n 3, 1) := by decide +kernel
theorem dL_law_354 : decode code 354 = .ok (.iconst 1, 1) := by decide +kernel
theorem dL_law_355 : decode code 355 = .ok (.iadd, 1) := by decide +kernel
theorem dL_law_356 : decode code 356 = .ok (.iaload, 1) := by decide +kernel
theorem dL_law_357 : decode code 357 = .ok (.aload_n 0, 1) := by decide +kernel
theorem dL_law_358 : decode code 358 = .ok (.iload_n 3, 1) := by decide +kernel
theorem dL_law_359 : decode code 359 = .ok (.iconst 2, 1) := by decide +kernel
theorem dL_law_360 : decode code 360 = .ok (.iadd, 1) := by decide +kernel
theorem dL_law_361 : decode code 361 = .ok (.iaload, 1) := by decide +kernel
theorem dL_law_362 : decode code 362 = .ok (.aload_n 0, 1) := by decide +kernel
theorem dL_law_363 : decode code 363 = .ok (.iload_n 3, 1) := by decide +kernel
theorem dL_law_364 : decode code 364 = .ok (.iconst 3, 1) := by decide +kernel
theorem dL_law_365 : decode code 365 = .ok (.iadd, 1) := by decide +kernel
theorem dL_law_366 : decode code 366 = .ok (.iaload, 1) := by decide +kernel
theorem dL_law_367 : decode code 367 = .ok (.aload_n 0, 1) := by decide +kernel
theorem dL_law_368 : decode code 368 = .ok (.iload_n 3, 1) := by decide +kernel
theorem dL_law_369 : decode code 369 = .ok (.iconst 4, 1) := by decide +kernel
theorem dL_law_370 : decode code 370 = .ok (.iadd, 1) := by decide +kernel
theorem dL_law_371 : decode code 371 = .ok (.iaload, 1) := by decide +kernel
theorem dL_law_372 : decode code 372 = .ok (.invokevirtual 36, 3) := by decide +kernel
theorem dL_law_375 : decode code 375 = .ok (.aload_n 2, 1) := by decide +kernel
theorem dL_law_376 : decode code 376 = .ok (.aload_n 0, 1) := by decide +kernel
theorem dL_law_377 : decode code 377 = .ok (.iload_n 3, 1) := by decide +kernel
theorem dL_law_378 : decode code 378 = .ok (.iconst 1, 1) := by decide +kernel
theorem dL_law_379 : decode code 379 = .ok (.iadd, 1) := by decide +kernel
theorem dL_law_380 : decode code 380 = .ok (.iaload, 1) := by decide +kernel
theorem dL_law_381 : decode code 381 = .ok (.aload_n 0, 1) := by decide +kernel
theorem dL_law_382 : decode code 382 = .ok (.iload_n 3, 1) := by decide +kernel
theorem dL_law_383 : decode code 383 = .ok (.iconst 2, 1) := by decide +kernel
theorem dL_law_384 : decode code 384 = .ok (.iadd, 1) := by decide +kernel
theorem dL_law_385 : decode code 385 = .ok (.iaload, 1) := by decide +kernel
theorem dL_law_386 : decode code 386 = .ok (.aload_n 0, 1) := by decide +kernel
theorem dL_law_387 : decode code 387 = .ok (.iload_n 3, 1) := by decide +kernel
theorem dL_law_388 : decode code 388 = .ok (.iconst 3, 1) := by decide +kernel
theorem dL_law_389 : decode code 389 = .ok (.iadd, 1) := by decide +kernel
theorem dL_law_390 : decode code 390 = .ok (.iaload, 1) := by decide +kernel
theorem dL_law_391 : decode code 391 = .ok (.aload_n 0, 1) := by decide +kernel
theorem dL_law_392 : decode code 392 = .ok (.iload_n 3, 1) := by decide +kernel
theorem dL_law_393 : decode code 393 = .ok (.iconst 4, 1) := by decide +kernel
theorem dL_law_394 : decode code 394 = .ok (.iadd, 1) := by decide +kernel
theorem dL_law_395 : decode code 395 = .ok (.iaload, 1) := by decide +kernel
theorem dL_law_396 : decode code 396 = .ok (.invokevirtual 39, 3) := by decide +kernel
theorem dL_law_399 : decode code 399 = .ok (.if_icmp .eq 884, 3) := by decide +kernel
theorem dL_law_402 : decode code 402 = .ok (.iconst 0, 1) := by decide +kernel
theorem dL_law_403 : decode code 403 = .ok (.ireturn, 1) := by decide +kernel
theorem dL_law_404 : decode code 404 = .ok (.aload_n 1, 1) := by decide +kernel
theorem dL_law_405 : decode code 405 = .ok (.aload_n 0, 1) := by decide +kernel
theorem dL_law_406 : decode code 406 = .ok (.iload_n 3, 1) := by decide +kernel
theorem dL_law_407 : decode code 407 = .ok (.iconst 1, 1) := by decide +kernel
theorem dL_law_408 : decode code 408 = .ok (.iadd, 1) := by decide +kernel
theorem dL_law_409 : decode code 409 = .ok (.iaload, 1) := by decide +kernel
theorem dL_law_410 : decode code 410 = .ok (.invokevirtual 40, 3) := by decide +kernel
theorem dL_law_413 : decode code 413 = .ok (.aload_n 2, 1) := by decide +kernel
theorem dL_law_414 : decode code 414 = .ok (.aload_n 0, 1) := by decide +kernel
theorem dL_law_415 : decode code 415 = .ok (.iload_n 3, 1) := by decide +kernel
theorem dL_law_416 : decode code 416 = .ok (.iconst 1, 1) := by decide +kernel
theorem dL_law_417 : decode code 417 = .ok (.iadd, 1) := by decide +kernel
theorem dL_law_418 : decode code 418 = .ok (.iaload, 1) := by decide +kernel
theorem dL_law_419 : decode code 419 = .ok (.invokevirtual 43, 3) := by decide +kernel
theorem dL_law_422 : decode code 422 = .ok (.if_icmp .eq 861, 3) := by decide +kernel
theorem dL_law_425 : decode code 425 = .ok (.iconst 0, 1) := by decide +kernel
theorem dL_law_426 : decode code 426 = .ok (.ireturn, 1) := by decide +kernel
theorem dL_law_427 : decode code 427 = .ok (.aload_n 1, 1) := by decide +kernel
theorem dL_law_428 : decode code 428 = .ok (.aload_n 0, 1) := by decide +kernel
theorem dL_law_429 : decode code 429 = .ok (.iload_n 3, 1) := by decide +kernel
theorem dL_law_430 : decode code 430 = .ok (.iconst 1, 1) := by decide +kernel
theorem dL_law_431 : decode code 431 = .ok (.iadd, 1) := by decide +kernel
theorem dL_law_432 : decode code 432 = .ok (.iaload, 1) := by decide +kernel
theorem dL_law_433 : decode code 433 = .ok (.aload_n 0, 1) := by decide +kernel
theorem dL_law_434 : decode code 434 = .ok (.iload_n 3, 1) := by decide +kernel
theorem dL_law_435 : decode code 435 = .ok (.iconst 2, 1) := by decide +kernel
theorem dL_law_436 : decode code 436 = .ok (.iadd, 1) := by decide +kernel
theorem dL_law_437 : decode code 437 = .ok (.iaload, 1) := by decide +kernel
theorem dL_law_438 : decode code 438 = .ok (.invokevirtual 44, 3) := by decide +kernel
theorem dL_law_441 : decode code 441 = .ok (.aload_n 2, 1) := by decide +kernel
theorem dL_law_442 : decode code 442 = .ok (.aload_n 0, 1) := by decide +kernel
theorem dL_law_443 : decode code 443 = .ok (.iload_n 3, 1) := by decide +kernel
theorem dL_law_444 : decode code 444 = .ok (.iconst 1, 1) := by decide +kernel
theorem dL_law_445 : decode code 445 = .ok (.iadd, 1) := by decide +kernel
theorem dL_law_446 : decode code 446 = .ok (.iaload, 1) := by decide +kernel
theorem dL_law_447 : decode code 447 = .ok (.aload_n 0, 1) := by decide +kernel
theorem dL_law_448 : decode code 448 = .ok (.iload_n 3, 1) := by decide +kernel
theorem dL_law_449 : decode code 449 = .ok (.iconst 2, 1) := by decide +kernel
theorem dL_law_450 : decode code 450 = .ok (.iadd, 1) := by decide +kernel
theorem dL_law_451 : decode code 451 = .ok (.iaload, 1) := by decide +kernel
theorem dL_law_452 : decode code 452 = .ok (.invokevirtual 47, 3) := by decide +kernel
theorem dL_law_455 : decode code 455 = .ok (.if_icmp .eq 828, 3) := by decide +kernel
theorem dL_law_458 : decode code 458 = .ok (.iconst 0, 1) := by decide +kernel
theorem dL_law_459 : decode code 459 = .ok (.ireturn, 1) := by decide +kernel
theorem dL_law_460 : decode code 460 = .ok (.aload_n 1, 1) := by decide +kernel
theorem dL_law_461 : decode code 461 = .ok (.aload_n 0, 1) := by decide +kernel
theorem dL_law_462 : decode code 462 = .ok (.iload_n 3, 1) := by decide +kernel
theorem dL_law_463 : decode code 463 = .ok (.iconst 1, 1) := by decide +kernel
theorem dL_law_464 : decode code 464 = .ok (.iadd, 1) := by decide +kernel
theorem dL_law_465 : decode code 465 = .ok (.iaload, 1) := by decide +kernel
theorem dL_law_466 : decode code 466 = .ok (.aload_n 0, 1) := by decide +kernel
theorem dL_law_467 : decode code 467 = .ok (.iload_n 3, 1) := by decide +kernel
theorem dL_law_468 : decode code 468 = .ok (.iconst 2, 1) := by decide +kernel
theorem dL_law_469 : decode code 469 = .ok (.iadd, 1) := by decide +kernel
theorem dL_law_470 : decode code 470 = .ok (.iaload, 1) := by decide +kernel
theorem dL_law_471 : decode code 471 = .ok (.invokevirtual 48, 3) := by decide +kernel
theorem dL_law_474 : decode code 474 = .ok (.aload_n 2, 1) := by decide +kernel
theorem dL_law_475 : decode code 475 = .ok (.aload_n 0, 1) := by decide +kernel
theorem dL_law_476 : decode code 476 = .ok (.iload_n 3, 1) := by decide +kernel
theorem dL_law_477 : decode code 477 = .ok (.iconst 1, 1) := by decide +kernel
theorem dL_law_478 : decode code 478 = .ok (.iadd, 1) := by decide +kernel
theorem dL_law_479 : decode code 479 = .ok (.iaload, 1) := by decide +kernel
theorem dL_law_480 : decode code 480 = .ok (.aload_n 0, 1) := by decide +kernel
theorem dL_law_481 : decode code 481 = .ok (.iload_n 3, 1) := by decide +kernel
theorem dL_law_482 : decode code 482 = .ok (.iconst 2, 1) := by decide +kernel
theorem dL_law_483 : decode code 483 = .ok (.iadd, 1) := by decide +kernel
theorem dL_law_484 : decode code 484 = .ok (.iaload, 1) := by decide +kernel
theorem dL_law_485 : decode code 485 = .ok (.invokevirtual 51, 3) := by decide +kernel
theorem dL_law_488 : decode code 488 = .ok (.if_icmp .eq 795, 3) := by decide +kernel
theorem dL_law_491 : decode code 491 = .ok (.iconst 0, 1) := by decide +kernel
theorem dL_law_492 : decode code 492 = .ok (.ireturn, 1) := by decide +kernel
theorem dL_law_493 : decode code 493 = .ok (.aload_n 1, 1) := by decide +kernel
theorem dL_law_494 : decode code 494 = .ok (.aload_n 0, 1) := by decide +kernel
theorem dL_law_495 : decode code 495 = .ok (.iload_n 3, 1) := by decide +kernel
theorem dL_law_496 : decode code 496 = .ok (.iconst 1, 1) := by decide +kernel
theorem dL_law_497 : decode code 497 = .ok (.iadd, 1) := by decide +kernel
theorem dL_law_498 : decode code 498 = .ok (.iaload, 1) := by decide +kernel
theorem dL_law_499 : decode code 499 = .ok (.aload_n 0, 1) := by decide +kernel
theorem dL_law_500 : decode code 500 = .ok (.iload_n 3, 1) := by decide +kernel
theorem dL_law_501 : decode code 501 = .ok (.iconst 2, 1) := by decide +kernel
theorem dL_law_502 : decode code 502 = .ok (.iadd, 1) := by decide +kernel
theorem dL_law_503 : decode code 503 = .ok (.iaload, 1) := by decide +kernel
theorem dL_law_504 : decode code 504 = .ok (.invokevirtual 52, 3) := by decide +kernel
theorem dL_law_507 : decode code 507 = .ok (.aload_n 2, 1) := by decide +kernel
theorem dL_law_508 : decode code 508 = .ok (.aload_n 0, 1) := by decide +kernel
theorem dL_law_509 : decode code 509 = .ok (.iload_n 3, 1) := by decide +kernel
theorem dL_law_510 : decode code 510 = .ok (.iconst 1, 1) := by decide +kernel
theorem dL_law_511 : decode code 511 = .ok (.iadd, 1) := by decide +kernel
theorem dL_law_512 : decode code 512 = .ok (.iaload, 1) := by decide +kernel
theorem dL_law_513 : decode code 513 = .ok (.aload_n 0, 1) := by decide +kernel
theorem dL_law_514 : decode code 514 = .ok (.iload_n 3, 1) := by decide +kernel
theorem dL_law_515 : decode code 515 = .ok (.iconst 2, 1) := by decide +kernel
theorem dL_law_516 : decode code 516 = .ok (.iadd, 1) := by decide +kernel
theorem dL_law_517 : decode code 517 = .ok (.iaload, 1) := by decide +kernel
theorem dL_law_518 : decode code 518 = .ok (.invokevirtual 55, 3) := by decide +kernel
theorem dL_law_521 : decode code 521 = .ok (.if_icmp .eq 762, 3) := by decide +kernel
theorem dL_law_524 : decode code 524 = .ok (.iconst 0, 1) := by decide +kernel
theorem dL_law_525 : decode code 525 = .ok (.ireturn, 1) := by decide +kernel
theorem dL_law_526 : decode code 526 = .ok (.aload_n 1, 1) := by decide +kernel
theorem dL_law_527 : decode code 527 = .ok (.aload_n 0, 1) := by decide +kernel
theorem dL_law_528 : decode code 528 = .ok (.iload_n 3, 1) := by decide +kernel
theorem dL_law_529 : decode code 529 = .ok (.iconst 1, 1) := by decide +kernel
theorem dL_law_530 : decode code 530 = .ok (.iadd, 1) := by decide +kernel
theorem dL_law_531 : decode code 531 = .ok (.iaload, 1) := by decide +kernel
theorem dL_law_532 : decode code 532 = .ok (.aload_n 0, 1) := by decide +kernel
theorem dL_law_533 : decode code 533 = .ok (.iload_n 3, 1) := by decide +kernel
theorem dL_law_534 : decode code 534 = .ok (.iconst 2, 1) := by decide +kernel
theorem dL_law_535 : decode code 535 = .ok (.iadd, 1) := by decide +kernel
theorem dL_law_536 : decode code 536 = .ok (.iaload, 1) := by decide +kernel
theorem dL_law_537 : decode code 537 = .ok (.invokevirtual 56, 3) := by decide +kernel
theorem dL_law_540 : decode code 540 = .ok (.aload_n 2, 1) := by decide +kernel
theorem dL_law_541 : decode code 541 = .ok (.aload_n 0, 1) := by decide +kernel
theorem dL_law_542 : decode code 542 = .ok (.iload_n 3, 1) := by decide +kernel
theorem dL_law_543 : decode code 543 = .ok (.iconst 1, 1) := by decide +kernel
theorem dL_law_544 : decode code 544 = .ok (.iadd, 1) := by decide +kernel
theorem dL_law_545 : decode code 545 = .ok (.iaload, 1) := by decide +kernel
theorem dL_law_546 : decode code 546 = .ok (.aload_n 0, 1) := by decide +kernel
theorem dL_law_547 : decode code 547 = .ok (.iload_n 3, 1) := by decide +kernel
theorem dL_law_548 : decode code 548 = .ok (.iconst 2, 1) := by decide +kernel
theorem dL_law_549 : decode code 549 = .ok (.iadd, 1) := by decide +kernel
theorem dL_law_550 : decode code 550 = .ok (.iaload, 1) := by decide +kernel
theorem dL_law_551 : decode code 551 = .ok (.invokevirtual 59, 3) := by decide +kernel
theorem dL_law_554 : decode code 554 = .ok (.if_icmp .eq 729, 3) := by decide +kernel
theorem dL_law_557 : decode code 557 = .ok (.iconst 0, 1) := by decide +kernel
theorem dL_law_558 : decode code 558 = .ok (.ireturn, 1) := by decide +kernel
theorem dL_law_559 : decode code 559 = .ok (.aload_n 1, 1) := by decide +kernel
theorem dL_law_560 : decode code 560 = .ok (.aload_n 0, 1) := by decide +kernel
theorem dL_law_561 : decode code 561 = .ok (.iload_n 3, 1) := by decide +kernel
theorem dL_law_562 : decode code 562 = .ok (.iconst 1, 1) := by decide +kernel
theorem dL_law_563 : decode code 563 = .ok (.iadd, 1) := by decide +kernel
theorem dL_law_564 : decode code 564 = .ok (.iaload, 1) := by decide +kernel
theorem dL_law_565 : decode code 565 = .ok (.aload_n 0, 1) := by decide +kernel
theorem dL_law_566 : decode code 566 = .ok (.iload_n 3, 1) := by decide +kernel
theorem dL_law_567 : decode code 567 = .ok (.iconst 2, 1) := by decide +kernel
theorem dL_law_568 : decode code 568 = .ok (.iadd, 1) := by decide +kernel
theorem dL_law_569 : decode code 569 = .ok (.iaload, 1) := by decide +kernel
theorem dL_law_570 : decode code 570 = .ok (.invokevirtual 60, 3) := by decide +kernel
theorem dL_law_573 : decode code 573 = .ok (.aload_n 2, 1) := by decide +kernel
theorem dL_law_574 : decode code 574 = .ok (.aload_n 0, 1) := by decide +kernel
theorem dL_law_575 : decode code 575 = .ok (.iload_n 3, 1) := by decide +kernel
theorem dL_law_576 : decode code 576 = .ok (.iconst 1, 1) := by decide +kernel
theorem dL_law_577 : decode code 577 = .ok (.iadd, 1) := by decide +kernel
theorem dL_law_578 : decode code 578 = .ok (.iaload, 1) := by decide +kernel
theorem dL_law_579 : decode code 579 = .ok (.aload_n 0, 1) := by decide +kernel
theorem dL_law_580 : decode code 580 = .ok (.iload_n 3, 1) := by decide +kernel
theorem dL_law_581 : decode code 581 = .ok (.iconst 2, 1) := by decide +kernel
theorem dL_law_582 : decode code 582 = .ok (.iadd, 1) := by decide +kernel
theorem dL_law_583 : decode code 583 = .ok (.iaload, 1) := by decide +kernel
theorem dL_law_584 : decode code 584 = .ok (.invokevirtual 63, 3) := by decide +kernel
theorem dL_law_587 : decode code 587 = .ok (.if_icmp .eq 696, 3) := by decide +kernel
theorem dL_law_590 : decode code 590 = .ok (.iconst 0, 1) := by decide +kernel
theorem dL_law_591 : decode code 591 = .ok (.ireturn, 1) := by decide +kernel
theorem dL_law_592 : decode code 592 = .ok (.aload_n 1, 1) := by decide +kernel
theorem dL_law_593 : decode code 593 = .ok (.aload_n 0, 1) := by decide +kernel
theorem dL_law_594 : decode code 594 = .ok (.iload_n 3, 1) := by decide +kernel
theorem dL_law_595 : decode code 595 = .ok (.iconst 1, 1) := by decide +kernel
theorem dL_law_596 : decode code 596 = .ok (.iadd, 1) := by decide +kernel
theorem dL_law_597 : decode code 597 = .ok (.iaload, 1) := by decide +kernel
theorem dL_law_598 : decode code 598 = .ok (.aload_n 0, 1) := by decide +kernel
theorem dL_law_599 : decode code 599 = .ok (.iload_n 3, 1) := by decide +kernel
theorem dL_law_600 : decode code 600 = .ok (.iconst 2, 1) := by decide +kernel
theorem dL_law_601 : decode code 601 = .ok (.iadd, 1) := by decide +kernel
theorem dL_law_602 : decode code 602 = .ok (.iaload, 1) := by decide +kernel
theorem dL_law_603 : decode code 603 = .ok (.invokevirtual 64, 3) := by decide +kernel
theorem dL_law_606 : decode code 606 = .ok (.aload_n 2, 1) := by decide +kernel
theorem dL_law_607 : decode code 607 = .ok (.aload_n 0, 1) := by decide +kernel
theorem dL_law_608 : decode code 608 = .ok (.iload_n 3, 1) := by decide +kernel
theorem dL_law_609 : decode code 609 = .ok (.iconst 1, 1) := by decide +kernel
theorem dL_law_610 : decode code 610 = .ok (.iadd, 1) := by decide +kernel
theorem dL_law_611 : decode code 611 = .ok (.iaload, 1) := by decide +kernel
theorem dL_law_612 : decode code 612 = .ok (.aload_n 0, 1) := by decide +kernel
theorem dL_law_613 : decode code 613 = .ok (.iload_n 3, 1) := by decide +kernel
theorem dL_law_614 : decode code 614 = .ok (.iconst 2, 1) := by decide +kernel
theorem dL_law_615 : decode code 615 = .ok (.iadd, 1) := by decide +kernel
theorem dL_law_616 : decode code 616 = .ok (.iaload, 1) := by decide +kernel
theorem dL_law_617 : decode code 617 = .ok (.invokevirtual 67, 3) := by decide +kernel
theorem dL_law_620 : decode code 620 = .ok (.if_icmp .eq 663, 3) := by decide +kernel
theorem dL_law_623 : decode code 623 = .ok (.iconst 0, 1) := by decide +kernel
theorem dL_law_624 : decode code 624 = .ok (.ireturn, 1) := by decide +kernel
theorem dL_law_625 : decode code 625 = .ok (.aload_n 1, 1) := by decide +kernel
theorem dL_law_626 : decode code 626 = .ok (.aload_n 0, 1) := by decide +kernel
theorem dL_law_627 : decode code 627 = .ok (.iload_n 3, 1) := by decide +kernel
theorem dL_law_628 : decode code 628 = .ok (.iconst 1, 1) := by decide +kernel
theorem dL_law_629 : decode code 629 = .ok (.iadd, 1) := by decide +kernel
theorem dL_law_630 : decode code 630 = .ok (.iaload, 1) := by decide +kernel
theorem dL_law_631 : decode code 631 = .ok (.aload_n 0, 1) := by decide +kernel
theorem dL_law_632 : decode code 632 = .ok (.iload_n 3, 1) := by decide +kernel
theorem dL_law_633 : decode code 633 = .ok (.iconst 2, 1) := by decide +kernel
theorem dL_law_634 : decode code 634 = .ok (.iadd, 1) := by decide +kernel
theorem dL_law_635 : decode code 635 = .ok (.iaload, 1) := by decide +kernel
theorem dL_law_636 : decode code 636 = .ok (.invokevirtual 68, 3) := by decide +kernel
theorem dL_law_639 : decode code 639 = .ok (.aload_n 2, 1) := by decide +kernel
theorem dL_law_640 : decode code 640 = .ok (.aload_n 0, 1) := by decide +kernel
theorem dL_law_641 : decode code 641 = .ok (.iload_n 3, 1) := by decide +kernel
theorem dL_law_642 : decode code 642 = .ok (.iconst 1, 1) := by decide +kernel
theorem dL_law_643 : decode code 643 = .ok (.iadd, 1) := by decide +kernel
theorem dL_law_644 : decode code 644 = .ok (.iaload, 1) := by decide +kernel
theorem dL_law_645 : decode code 645 = .ok (.aload_n 0, 1) := by decide +kernel
theorem dL_law_646 : decode code 646 = .ok (.iload_n 3, 1) := by decide +kernel
theorem dL_law_647 : decode code 647 = .ok (.iconst 2, 1) := by decide +kernel
theorem dL_law_648 : decode code 648 = .ok (.iadd, 1) := by decide +kernel
theorem dL_law_649 : decode code 649 = .ok (.iaload, 1) := by decide +kernel
theorem dL_law_650 : decode code 650 = .ok (.invokevirtual 71, 3) := by decide +kernel
theorem dL_law_653 : decode code 653 = .ok (.if_icmp .eq 630, 3) := by decide +kernel
theorem dL_law_656 : decode code 656 = .ok (.iconst 0, 1) := by decide +kernel
theorem dL_law_657 : decode code 657 = .ok (.ireturn, 1) := by decide +kernel
theorem dL_law_658 : decode code 658 = .ok (.aload_n 1, 1) := by decide +kernel
theorem dL_law_659 : decode code 659 = .ok (.aload_n 0, 1) := by decide +kernel
theorem dL_law_660 : decode code 660 = .ok (.iload_n 3, 1) := by decide +kernel
theorem dL_law_661 : decode code 661 = .ok (.iconst 1, 1) := by decide +kernel
theorem dL_law_662 : decode code 662 = .ok (.iadd, 1) := by decide +kernel
theorem dL_law_663 : decode code 663 = .ok (.iaload, 1) := by decide +kernel
theorem dL_law_664 : decode code 664 = .ok (.aload_n 0, 1) := by decide +kernel
theorem dL_law_665 : decode code 665 = .ok (.iload_n 3, 1) := by decide +kernel
theorem dL_law_666 : decode code 666 = .ok (.iconst 2, 1) := by decide +kernel
theorem dL_law_667 : decode code 667 = .ok (.iadd, 1) := by decide +kernel
theorem dL_law_668 : decode code 668 = .ok (.iaload, 1) := by decide +kernel
theorem dL_law_669 : decode code 669 = .ok (.invokevirtual 72, 3) := by decide +kernel
theorem dL_law_672 : decode code 672 = .ok (.aload_n 2, 1) := by decide +kernel
theorem dL_law_673 : decode code 673 = .ok (.aload_n 0, 1) := by decide +kernel
theorem dL_law_674 : decode code 674 = .ok (.iload_n 3, 1) := by decide +kernel
theorem dL_law_675 : decode code 675 = .ok (.iconst 1, 1) := by decide +kernel
theorem dL_law_676 : decode code 676 = .ok (.iadd, 1) := by decide +kernel
theorem dL_law_677 : decode code 677 = .ok (.iaload, 1) := by decide +kernel
theorem dL_law_678 : decode code 678 = .ok (.aload_n 0, 1) := by decide +kernel
theorem dL_law_679 : decode code 679 = .ok (.iload_n 3, 1) := by decide +kernel
theorem dL_law_680 : decode code 680 = .ok (.iconst 2, 1) := by decide +kernel
theorem dL_law_681 : decode code 681 = .ok (.iadd, 1) := by decide +kernel
theorem dL_law_682 : decode code 682 = .ok (.iaload, 1) := by decide +kernel
theorem dL_law_683 : decode code 683 = .ok (.invokevirtual 75, 3) := by decide +kernel
theorem dL_law_686 : decode code 686 = .ok (.if_icmp .eq 597, 3) := by decide +kernel
theorem dL_law_689 : decode code 689 = .ok (.iconst 0, 1) := by decide +kernel
theorem dL_law_690 : decode code 690 = .ok (.ireturn, 1) := by decide +kernel
theorem dL_law_691 : decode code 691 = .ok (.aload_n 1, 1) := by decide +kernel
theorem dL_law_692 : decode code 692 = .ok (.aload_n 0, 1) := by decide +kernel
theorem dL_law_693 : decode code 693 = .ok (.iload_n 3, 1) := by decide +kernel
theorem dL_law_694 : decode code 694 = .ok (.iconst 1, 1) := by decide +kernel
theorem dL_law_695 : decode code 695 = .ok (.iadd, 1) := by decide +kernel
theorem dL_law_696 : decode code 696 = .ok (.iaload, 1) := by decide +kernel
theorem dL_law_697 : decode code 697 = .ok (.aload_n 0, 1) := by decide +kernel
theorem dL_law_698 : decode code 698 = .ok (.iload_n 3, 1) := by decide +kernel
theorem dL_law_699 : decode code 699 = .ok (.iconst 2, 1) := by decide +kernel
theorem dL_law_700 : decode code 700 = .ok (.iadd, 1) := by decide +kernel
theorem dL_law_701 : decode code 701 = .ok (.iaload, 1) := by decide +kernel
theorem dL_law_702 : decode code 702 = .ok (.invokevirtual 76, 3) := by decide +kernel
theorem dL_law_705 : decode code 705 = .ok (.aload_n 2, 1) := by decide +kernel
theorem dL_law_706 : decode code 706 = .ok (.aload_n 0, 1) := by decide +kernel
theorem dL_law_707 : decode code 707 = .ok (.iload_n 3, 1) := by decide +kernel
theorem dL_law_708 : decode code 708 = .ok (.iconst 1, 1) := by decide +kernel
theorem dL_law_709 : decode code 709 = .ok (.iadd, 1) := by decide +kernel
theorem dL_law_710 : decode code 710 = .ok (.iaload, 1) := by decide +kernel
theorem dL_law_711 : decode code 711 = .ok (.aload_n 0, 1) := by decide +kernel
theorem dL_law_712 : decode code 712 = .ok (.iload_n 3, 1) := by decide +kernel
theorem dL_law_713 : decode code 713 = .ok (.iconst 2, 1) := by decide +kernel
theorem dL_law_714 : decode code 714 = .ok (.iadd, 1) := by decide +kernel
theorem dL_law_715 : decode code 715 = .ok (.iaload, 1) := by decide +kernel
theorem dL_law_716 : decode code 716 = .ok (.invokevirtual 79, 3) := by decide +kernel
theorem dL_law_719 : decode code 719 = .ok (.if_icmp .eq 564, 3) := by decide +kernel
theorem dL_law_722 : decode code 722 = .ok (.iconst 0, 1) := by decide +kernel
theorem dL_law_723 : decode code 723 = .ok (.ireturn, 1) := by decide +kernel
theorem dL_law_724 : decode code 724 = .ok (.aload_n 1, 1) := by decide +kernel
theorem dL_law_725 : decode code 725 = .ok (.aload_n 0, 1) := by decide +kernel
theorem dL_law_726 : decode code 726 = .ok (.iload_n 3, 1) := by decide +kernel
theorem dL_law_727 : decode code 727 = .ok (.iconst 1, 1) := by decide +kernel
theorem dL_law_728 : decode code 728 = .ok (.iadd, 1) := by decide +kernel
theorem dL_law_729 : decode code 729 = .ok (.iaload, 1) := by decide +kernel
theorem dL_law_730 : decode code 730 = .ok (.aload_n 0, 1) := by decide +kernel
theorem dL_law_731 : decode code 731 = .ok (.iload_n 3, 1) := by decide +kernel
theorem dL_law_732 : decode code 732 = .ok (.iconst 2, 1) := by decide +kernel
theorem dL_law_733 : decode code 733 = .ok (.iadd, 1) := by decide +kernel
theorem dL_law_734 : decode code 734 = .ok (.iaload, 1) := by decide +kernel
theorem dL_law_735 : decode code 735 = .ok (.invokevirtual 80, 3) := by decide +kernel
theorem dL_law_738 : decode code 738 = .ok (.aload_n 2, 1) := by decide +kernel
theorem dL_law_739 : decode code 739 = .ok (.aload_n 0, 1) := by decide +kernel
theorem dL_law_740 : decode code 740 = .ok (.iload_n 3, 1) := by decide +kernel
theorem dL_law_741 : decode code 741 = .ok (.iconst 1, 1) := by decide +kernel
theorem dL_law_742 : decode code 742 = .ok (.iadd, 1) := by decide +kernel
theorem dL_law_743 : decode code 743 = .ok (.iaload, 1) := by decide +kernel
theorem dL_law_744 : decode code 744 = .ok (.aload_n 0, 1) := by decide +kernel
theorem dL_law_745 : decode code 745 = .ok (.iload_n 3, 1) := by decide +kernel
theorem dL_law_746 : decode code 746 = .ok (.iconst 2, 1) := by decide +kernel
theorem dL_law_747 : decode code 747 = .ok (.iadd, 1) := by decide +kernel
theorem dL_law_748 : decode code 748 = .ok (.iaload, 1) := by decide +kernel
theorem dL_law_749 : decode code 749 = .ok (.invokevirtual 83, 3) := by decide +kernel
theorem dL_law_752 : decode code 752 = .ok (.if_icmp .eq 531, 3) := by decide +kernel
theorem dL_law_755 : decode code 755 = .ok (.iconst 0, 1) := by decide +kernel
theorem dL_law_756 : decode code 756 = .ok (.ireturn, 1) := by decide +kernel
theorem dL_law_757 : decode code 757 = .ok (.aload_n 1, 1) := by decide +kernel
theorem dL_law_758 : decode code 758 = .ok (.aload_n 0, 1) := by decide +kernel
theorem dL_law_759 : decode code 759 = .ok (.iload_n 3, 1) := by decide +kernel
theorem dL_law_760 : decode code 760 = .ok (.iconst 1, 1) := by decide +kernel
theorem dL_law_761 : decode code 761 = .ok (.iadd, 1) := by decide +kernel
theorem dL_law_762 : decode code 762 = .ok (.iaload, 1) := by decide +kernel
theorem dL_law_763 : decode code 763 = .ok (.invokevirtual 84, 3) := by decide +kernel
theorem dL_law_766 : decode code 766 = .ok (.aload_n 2, 1) := by decide +kernel
theorem dL_law_767 : decode code 767 = .ok (.aload_n 0, 1) := by decide +kernel
theorem dL_law_768 : decode code 768 = .ok (.iload_n 3, 1) := by decide +kernel
theorem dL_law_769 : decode code 769 = .ok (.iconst 1, 1) := by decide +kernel
theorem dL_law_770 : decode code 770 = .ok (.iadd, 1) := by decide +kernel
theorem dL_law_771 : decode code 771 = .ok (.iaload, 1) := by decide +kernel
theorem dL_law_772 : decode code 772 = .ok (.invokevirtual 87, 3) := by decide +kernel
theorem dL_law_775 : decode code 775 = .ok (.if_icmp .eq 508, 3) := by decide +kernel
theorem dL_law_778 : decode code 778 = .ok (.iconst 0, 1) := by decide +kernel
theorem dL_law_779 : decode code 779 = .ok (.ireturn, 1) := by decide +kernel
theorem dL_law_780 : decode code 780 = .ok (.aload_n 1, 1) := by decide +kernel
theorem dL_law_781 : decode code 781 = .ok (.invokevirtual 88, 3) := by decide +kernel
theorem dL_law_784 : decode code 784 = .ok (.aload_n 2, 1) := by decide +kernel
theorem dL_law_785 : decode code 785 = .ok (.invokevirtual 92, 3) := by decide +kernel
theorem dL_law_788 : decode code 788 = .ok (.if_icmp .eq 495, 3) := by decide +kernel
theorem dL_law_791 : decode code 791 = .ok (.iconst 0, 1) := by decide +kernel
theorem dL_law_792 : decode code 792 = .ok (.ireturn, 1) := by decide +kernel
theorem dL_law_793 : decode code 793 = .ok (.aload_n 1, 1) := by decide +kernel
theorem dL_law_794 : decode code 794 = .ok (.aload_n 0, 1) := by decide +kernel
theorem dL_law_795 : decode code 795 = .ok (.iload_n 3, 1) := by decide +kernel
theorem dL_law_796 : decode code 796 = .ok (.iconst 1, 1) := by decide +kernel
theorem dL_law_797 : decode code 797 = .ok (.iadd, 1) := by decide +kernel
theorem dL_law_798 : decode code 798 = .ok (.iaload, 1) := by decide +kernel
theorem dL_law_799 : decode code 799 = .ok (.aload_n 0, 1) := by decide +kernel
theorem dL_law_800 : decode code 800 = .ok (.iload_n 3, 1) := by decide +kernel
theorem dL_law_801 : decode code 801 = .ok (.iconst 2, 1) := by decide +kernel
theorem dL_law_802 : decode code 802 = .ok (.iadd, 1) := by decide +kernel
theorem dL_law_803 : decode code 803 = .ok (.iaload, 1) := by decide +kernel
theorem dL_law_804 : decode code 804 = .ok (.invokevirtual 93, 3) := by decide +kernel
theorem dL_law_807 : decode code 807 = .ok (.aload_n 2, 1) := by decide +kernel
theorem dL_law_808 : decode code 808 = .ok (.aload_n 0, 1) := by decide +kernel
theorem dL_law_809 : decode code 809 = .ok (.iload_n 3, 1) := by decide +kernel
theorem dL_law_810 : decode code 810 = .ok (.iconst 1, 1) := by decide +kernel
theorem dL_law_811 : decode code 811 = .ok (.iadd, 1) := by decide +kernel
theorem dL_law_812 : decode code 812 = .ok (.iaload, 1) := by decide +kernel
theorem dL_law_813 : decode code 813 = .ok (.aload_n 0, 1) := by decide +kernel
theorem dL_law_814 : decode code 814 = .ok (.iload_n 3, 1) := by decide +kernel
theorem dL_law_815 : decode code 815 = .ok (.iconst 2, 1) := by decide +kernel
theorem dL_law_816 : decode code 816 = .ok (.iadd, 1) := by decide +kernel
theorem dL_law_817 : decode code 817 = .ok (.iaload, 1) := by decide +kernel
theorem dL_law_818 : decode code 818 = .ok (.invokevirtual 96, 3) := by decide +kernel
theorem dL_law_821 : decode code 821 = .ok (.if_icmp .eq 462, 3) := by decide +kernel
theorem dL_law_824 : decode code 824 = .ok (.iconst 0, 1) := by decide +kernel
theorem dL_law_825 : decode code 825 = .ok (.ireturn, 1) := by decide +kernel
theorem dL_law_826 : decode code 826 = .ok (.aload_n 1, 1) := by decide +kernel
theorem dL_law_827 : decode code 827 = .ok (.aload_n 0, 1) := by decide +kernel
theorem dL_law_828 : decode code 828 = .ok (.iload_n 3, 1) := by decide +kernel
theorem dL_law_829 : decode code 829 = .ok (.iconst 1, 1) := by decide +kernel
theorem dL_law_830 : decode code 830 = .ok (.iadd, 1) := by decide +kernel
theorem dL_law_831 : decode code 831 = .ok (.iaload, 1) := by decide +kernel
theorem dL_law_832 : decode code 832 = .ok (.aload_n 0, 1) := by decide +kernel
theorem dL_law_833 : decode code 833 = .ok (.iload_n 3, 1) := by decide +kernel
theorem dL_law_834 : decode code 834 = .ok (.iconst 2, 1) := by decide +kernel
theorem dL_law_835 : decode code 835 = .ok (.iadd, 1) := by decide +kernel
theorem dL_law_836 : decode code 836 = .ok (.iaload, 1) := by decide +kernel
theorem dL_law_837 : decode code 837 = .ok (.invokevirtual 97, 3) := by decide +kernel
theorem dL_law_840 : decode code 840 = .ok (.aload_n 2, 1) := by decide +kernel
theorem dL_law_841 : decode code 841 = .ok (.aload_n 0, 1) := by decide +kernel
theorem dL_law_842 : decode code 842 = .ok (.iload_n 3, 1) := by decide +kernel
theorem dL_law_843 : decode code 843 = .ok (.iconst 1, 1) := by decide +kernel
theorem dL_law_844 : decode code 844 = .ok (.iadd, 1) := by decide +kernel
theorem dL_law_845 : decode code 845 = .ok (.iaload, 1) := by decide +kernel
theorem dL_law_846 : decode code 846 = .ok (.aload_n 0, 1) := by decide +kernel
theorem dL_law_847 : decode code 847 = .ok (.iload_n 3, 1) := by decide +kernel
theorem dL_law_848 : decode code 848 = .ok (.iconst 2, 1) := by decide +kernel
theorem dL_law_849 : decode code 849 = .ok (.iadd, 1) := by decide +kernel
theorem dL_law_850 : decode code 850 = .ok (.iaload, 1) := by decide +kernel
theorem dL_law_851 : decode code 851 = .ok (.invokevirtual 100, 3) := by decide +kernel
theorem dL_law_854 : decode code 854 = .ok (.if_icmp .eq 429, 3) := by decide +kernel
theorem dL_law_857 : decode code 857 = .ok (.iconst 0, 1) := by decide +kernel
theorem dL_law_858 : decode code 858 = .ok (.ireturn, 1) := by decide +kernel
theorem dL_law_859 : decode code 859 = .ok (.aload_n 1, 1) := by decide +kernel
theorem dL_law_860 : decode code 860 = .ok (.aload_n 0, 1) := by decide +kernel
theorem dL_law_861 : decode code 861 = .ok (.iload_n 3, 1) := by decide +kernel
theorem dL_law_862 : decode code 862 = .ok (.iconst 1, 1) := by decide +kernel
theorem dL_law_863 : decode code 863 = .ok (.iadd, 1) := by decide +kernel
theorem dL_law_864 : decode code 864 = .ok (.iaload, 1) := by decide +kernel
theorem dL_law_865 : decode code 865 = .ok (.aload_n 0, 1) := by decide +kernel
theorem dL_law_866 : decode code 866 = .ok (.iload_n 3, 1) := by decide +kernel
theorem dL_law_867 : decode code 867 = .ok (.iconst 2, 1) := by decide +kernel
theorem dL_law_868 : decode code 868 = .ok (.iadd, 1) := by decide +kernel
theorem dL_law_869 : decode code 869 = .ok (.iaload, 1) := by decide +kernel
theorem dL_law_870 : decode code 870 = .ok (.invokevirtual 101, 3) := by decide +kernel
theorem dL_law_873 : decode code 873 = .ok (.aload_n 2, 1) := by decide +kernel
theorem dL_law_874 : decode code 874 = .ok (.aload_n 0, 1) := by decide +kernel
theorem dL_law_875 : decode code 875 = .ok (.iload_n 3, 1) := by decide +kernel
theorem dL_law_876 : decode code 876 = .ok (.iconst 1, 1) := by decide +kernel
theorem dL_law_877 : decode code 877 = .ok (.iadd, 1) := by decide +kernel
theorem dL_law_878 : decode code 878 = .ok (.iaload, 1) := by decide +kernel
theorem dL_law_879 : decode code 879 = .ok (.aload_n 0, 1) := by decide +kernel
theorem dL_law_880 : decode code 880 = .ok (.iload_n 3, 1) := by decide +kernel
theorem dL_law_881 : decode code 881 = .ok (.iconst 2, 1) := by decide +kernel
theorem dL_law_882 : decode code 882 = .ok (.iadd, 1) := by decide +kernel
theorem dL_law_883 : decode code 883 = .ok (.iaload, 1) := by decide +kernel
theorem dL_law_884 : decode code 884 = .ok (.invokevirtual 104, 3) := by decide +kernel
theorem dL_law_887 : decode code 887 = .ok (.if_icmp .eq 396, 3) := by decide +kernel
theorem dL_law_890 : decode code 890 = .ok (.iconst 0, 1) := by decide +kernel
theorem dL_law_891 : decode code 891 = .ok (.ireturn, 1) := by decide +kernel
theorem dL_law_892 : decode code 892 = .ok (.aload_n 1, 1) := by decide +kernel
theorem dL_law_893 : decode code 893 = .ok (.aload_n 0, 1) := by decide +kernel
theorem dL_law_894 : decode code 894 = .ok (.iload_n 3, 1) := by decide +kernel
theorem dL_law_895 : decode code 895 = .ok (.iconst 1, 1) := by decide +kernel
theorem dL_law_896 : decode code 896 = .ok (.iadd, 1) := by decide +kernel
theorem dL_law_897 : decode code 897 = .ok (.iaload, 1) := by decide +kernel
theorem dL_law_898 : decode code 898 = .ok (.i2l, 1) := by decide +kernel
theorem dL_law_899 : decode code 899 = .ok (.bipush 32, 2) := by decide +kernel
theorem dL_law_901 : decode code 901 = .ok (.lshl, 1) := by decide +kernel
theorem dL_law_902 : decode code 902 = .ok (.aload_n 0, 1) := by decide +kernel
theorem dL_law_903 : decode code 903 = .ok (.iload_n 3, 1) := by decide +kernel
theorem dL_law_904 : decode code 904 = .ok (.iconst 2, 1) := by decide +kernel
theorem dL_law_905 : decode code 905 = .ok (.iadd, 1) := by decide +kernel
theorem dL_law_906 : decode code 906 = .ok (.iaload, 1) := by decide +kernel
theorem dL_law_907 : decode code 907 = .ok (.i2l, 1) := by decide +kernel
theorem dL_law_908 : decode code 908 = .ok (.ldc2_w 105, 3) := by decide +kernel
theorem dL_law_911 : decode code 911 = .ok (.land, 1) := by decide +kernel
theorem dL_law_912 : decode code 912 = .ok (.lor, 1) := by decide +kernel
theorem dL_law_913 : decode code 913 = .ok (.aload_n 0, 1) := by decide +kernel
theorem dL_law_914 : decode code 914 = .ok (.iload_n 3, 1) := by decide +kernel
theorem dL_law_915 : decode code 915 = .ok (.iconst 3, 1) := by decide +kernel
theorem dL_law_916 : decode code 916 = .ok (.iadd, 1) := by decide +kernel
theorem dL_law_917 : decode code 917 = .ok (.iaload, 1) := by decide +kernel
theorem dL_law_918 : decode code 918 = .ok (.invokevirtual 107, 3) := by decide +kernel
theorem dL_law_921 : decode code 921 = .ok (.aload_n 2, 1) := by decide +kernel
theorem dL_law_922 : decode code 922 = .ok (.aload_n 0, 1) := by decide +kernel
theorem dL_law_923 : decode code 923 = .ok (.iload_n 3, 1) := by decide +kernel
theorem dL_law_924 : decode code 924 = .ok (.iconst 1, 1) := by decide +kernel
theorem dL_law_925 : decode code 925 = .ok (.iadd, 1) := by decide +kernel
theorem dL_law_926 : decode code 926 = .ok (.iaload, 1) := by decide +kernel
theorem dL_law_927 : decode code 927 = .ok (.i2l, 1) := by decide +kernel
theorem dL_law_928 : decode code 928 = .ok (.bipush 32, 2) := by decide +kernel
theorem dL_law_930 : decode code 930 = .ok (.lshl, 1) := by decide +kernel
theorem dL_law_931 : decode code 931 = .ok (.aload_n 0, 1) := by decide +kernel
theorem dL_law_932 : decode code 932 = .ok (.iload_n 3, 1) := by decide +kernel
theorem dL_law_933 : decode code 933 = .ok (.iconst 2, 1) := by decide +kernel
theorem dL_law_934 : decode code 934 = .ok (.iadd, 1) := by decide +kernel
theorem dL_law_935 : decode code 935 = .ok (.iaload, 1) := by decide +kernel
theorem dL_law_936 : decode code 936 = .ok (.i2l, 1) := by decide +kernel
theorem dL_law_937 : decode code 937 = .ok (.ldc2_w 105, 3) := by decide +kernel
theorem dL_law_940 : decode code 940 = .ok (.land, 1) := by decide +kernel
theorem dL_law_941 : decode code 941 = .ok (.lor, 1) := by decide +kernel
theorem dL_law_942 : decode code 942 = .ok (.aload_n 0, 1) := by decide +kernel
theorem dL_law_943 : decode code 943 = .ok (.iload_n 3, 1) := by decide +kernel
theorem dL_law_944 : decode code 944 = .ok (.iconst 3, 1) := by decide +kernel
theorem dL_law_945 : decode code 945 = .ok (.iadd, 1) := by decide +kernel
theorem dL_law_946 : decode code 946 = .ok (.iaload, 1) := by decide +kernel
theorem dL_law_947 : decode code 947 = .ok (.invokevirtual 111, 3) := by decide +kernel
theorem dL_law_950 : decode code 950 = .ok (.if_icmp .eq 333, 3) := by decide +kernel
theorem dL_law_953 : decode code 953 = .ok (.iconst 0, 1) := by decide +kernel
theorem dL_law_954 : decode code 954 = .ok (.ireturn, 1) := by decide +kernel
theorem dL_law_955 : decode code 955 = .ok (.aload_n 1, 1) := by decide +kernel
theorem dL_law_956 : decode code 956 = .ok (.invokevirtual 112, 3) := by decide +kernel
theorem dL_law_959 : decode code 959 = .ok (.aload_n 2, 1) := by decide +kernel
theorem dL_law_960 : decode code 960 = .ok (.invokevirtual 115, 3) := by decide +kernel
theorem dL_law_963 : decode code 963 = .ok (.if_icmp .eq 320, 3) := by decide +kernel
theorem dL_law_966 : decode code 966 = .ok (.iconst 0, 1) := by decide +kernel
theorem dL_law_967 : decode code 967 = .ok (.ireturn, 1) := by decide +kernel
theorem dL_law_968 : decode code 968 = .ok (.aload_n 1, 1) := by decide +kernel
theorem dL_law_969 : decode code 969 = .ok (.aload_n 0, 1) := by decide +kernel
theorem dL_law_970 : decode code 970 = .ok (.iload_n 3, 1) := by decide +kernel
theorem dL_law_971 : decode code 971 = .ok (.iconst 1, 1) := by decide +kernel
theorem dL_law_972 : decode code 972 = .ok (.iadd, 1) := by decide +kernel
theorem dL_law_973 : decode code 973 = .ok (.iaload, 1) := by decide +kernel
theorem dL_law_974 : decode code 974 = .ok (.invokevirtual 116, 3) := by decide +kernel
theorem dL_law_977 : decode code 977 = .ok (.aload_n 2, 1) := by decide +kernel
theorem dL_law_978 : decode code 978 = .ok (.aload_n 0, 1) := by decide +kernel
theorem dL_law_979 : decode code 979 = .ok (.iload_n 3, 1) := by decide +kernel
theorem dL_law_980 : decode code 980 = .ok (.iconst 1, 1) := by decide +kernel
theorem dL_law_981 : decode code 981 = .ok (.iadd, 1) := by decide +kernel
theorem dL_law_982 : decode code 982 = .ok (.iaload, 1) := by decide +kernel
theorem dL_law_983 : decode code 983 = .ok (.invokevirtual 119, 3) := by decide +kernel
theorem dL_law_986 : decode code 986 = .ok (.if_icmp .eq 297, 3) := by decide +kernel
theorem dL_law_989 : decode code 989 = .ok (.iconst 0, 1) := by decide +kernel
theorem dL_law_990 : decode code 990 = .ok (.ireturn, 1) := by decide +kernel
theorem dL_law_991 : decode code 991 = .ok (.aload_n 1, 1) := by decide +kernel
theorem dL_law_992 : decode code 992 = .ok (.aload_n 0, 1) := by decide +kernel
theorem dL_law_993 : decode code 993 = .ok (.iload_n 3, 1) := by decide +kernel
theorem dL_law_994 : decode code 994 = .ok (.iconst 1, 1) := by decide +kernel
theorem dL_law_995 : decode code 995 = .ok (.iadd, 1) := by decide +kernel
theorem dL_law_996 : decode code 996 = .ok (.iaload, 1) := by decide +kernel
theorem dL_law_997 : decode code 997 = .ok (.aload_n 0, 1) := by decide +kernel
theorem dL_law_998 : decode code 998 = .ok (.iload_n 3, 1) := by decide +kernel
theorem dL_law_999 : decode code 999 = .ok (.iconst 2, 1) := by decide +kernel
theorem dL_law_1000 : decode code 1000 = .ok (.iadd, 1) := by decide +kernel
theorem dL_law_1001 : decode code 1001 = .ok (.iaload, 1) := by decide +kernel
theorem dL_law_1002 : decode code 1002 = .ok (.invokevirtual 120, 3) := by decide +kernel
theorem dL_law_1005 : decode code 1005 = .ok (.aload_n 2, 1) := by decide +kernel
theorem dL_law_1006 : decode code 1006 = .ok (.aload_n 0, 1) := by decide +kernel
theorem dL_law_1007 : decode code 1007 = .ok (.iload_n 3, 1) := by decide +kernel
theorem dL_law_1008 : decode code 1008 = .ok (.iconst 1, 1) := by decide +kernel
theorem dL_law_1009 : decode code 1009 = .ok (.iadd, 1) := by decide +kernel
theorem dL_law_1010 : decode code 1010 = .ok (.iaload, 1) := by decide +kernel
theorem dL_law_1011 : decode code 1011 = .ok (.aload_n 0, 1) := by decide +kernel
theorem dL_law_1012 : decode code 1012 = .ok (.iload_n 3, 1) := by decide +kernel
theorem dL_law_1013 : decode code 1013 = .ok (.iconst 2, 1) := by decide +kernel
theorem dL_law_1014 : decode code 1014 = .ok (.iadd, 1) := by decide +kernel
theorem dL_law_1015 : decode code 1015 = .ok (.iaload, 1) := by decide +kernel
theorem dL_law_1016 : decode code 1016 = .ok (.invokevirtual 124, 3) := by decide +kernel
theorem dL_law_1019 : decode code 1019 = .ok (.lcmp, 1) := by decide +kernel
theorem dL_law_1020 : decode code 1020 = .ok (.ifCond .eq 263, 3) := by decide +kernel
theorem dL_law_1023 : decode code 1023 = .ok (.iconst 0, 1) := by decide +kernel
theorem dL_law_1024 : decode code 1024 = .ok (.ireturn, 1) := by decide +kernel
theorem dL_law_1025 : decode code 1025 = .ok (.aload_n 1, 1) := by decide +kernel
theorem dL_law_1026 : decode code 1026 = .ok (.aload_n 0, 1) := by decide +kernel
theorem dL_law_1027 : decode code 1027 = .ok (.iload_n 3, 1) := by decide +kernel
theorem dL_law_1028 : decode code 1028 = .ok (.iconst 1, 1) := by decide +kernel
theorem dL_law_1029 : decode code 1029 = .ok (.iadd, 1) := by decide +kernel
theorem dL_law_1030 : decode code 1030 = .ok (.iaload, 1) := by decide +kernel
theorem dL_law_1031 : decode code 1031 = .ok (.invokevirtual 125, 3) := by decide +kernel
theorem dL_law_1034 : decode code 1034 = .ok (.aload_n 2, 1) := by decide +kernel
theorem dL_law_1035 : decode code 1035 = .ok (.aload_n 0, 1) := by decide +kernel
theorem dL_law_1036 : decode code 1036 = .ok (.iload_n 3, 1) := by decide +kernel
theorem dL_law_1037 : decode code 1037 = .ok (.iconst 1, 1) := by decide +kernel
theorem dL_law_1038 : decode code 1038 = .ok (.iadd, 1) := by decide +kernel
theorem dL_law_1039 : decode code 1039 = .ok (.iaload, 1) := by decide +kernel
theorem dL_law_1040 : decode code 1040 = .ok (.invokevirtual 128, 3) := by decide +kernel
theorem dL_law_1043 : decode code 1043 = .ok (.if_icmp .eq 240, 3) := by decide +kernel
theorem dL_law_1046 : decode code 1046 = .ok (.iconst 0, 1) := by decide +kernel
theorem dL_law_1047 : decode code 1047 = .ok (.ireturn, 1) := by decide +kernel
theorem dL_law_1048 : decode code 1048 = .ok (.aload_n 1, 1) := by decide +kernel
theorem dL_law_1049 : decode code 1049 = .ok (.aload_n 0, 1) := by decide +kernel
theorem dL_law_1050 : decode code 1050 = .ok (.iload_n 3, 1) := by decide +kernel
theorem dL_law_1051 : decode code 1051 = .ok (.iconst 1, 1) := by decide +kernel
theorem dL_law_1052 : decode code 1052 = .ok (.iadd, 1) := by decide +kernel
theorem dL_law_1053 : decode code 1053 = .ok (.iaload, 1) := by decide +kernel
theorem dL_law_1054 : decode code 1054 = .ok (.aload_n 0, 1) := by decide +kernel
theorem dL_law_1055 : decode code 1055 = .ok (.iload_n 3, 1) := by decide +kernel
theorem dL_law_1056 : decode code 1056 = .ok (.iconst 2, 1) := by decide +kernel
theorem dL_law_1057 : decode code 1057 = .ok (.iadd, 1) := by decide +kernel
theorem dL_law_1058 : decode code 1058 = .ok (.iaload, 1) := by decide +kernel
theorem dL_law_1059 : decode code 1059 = .ok (.aload_n 0, 1) := by decide +kernel
theorem dL_law_1060 : decode code 1060 = .ok (.iload_n 3, 1) := by decide +kernel
theorem dL_law_1061 : decode code 1061 = .ok (.iconst 3, 1) := by decide +kernel
theorem dL_law_1062 : decode code 1062 = .ok (.iadd, 1) := by decide +kernel
theorem dL_law_1063 : decode code 1063 = .ok (.iaload, 1) := by decide +kernel
theorem dL_law_1064 : decode code 1064 = .ok (.invokevirtual 129, 3) := by decide +kernel
theorem dL_law_1067 : decode code 1067 = .ok (.aload_n 2, 1) := by decide +kernel
theorem dL_law_1068 : decode code 1068 = .ok (.aload_n 0, 1) := by decide +kernel
theorem dL_law_1069 : decode code 1069 = .ok (.iload_n 3, 1) := by decide +kernel
theorem dL_law_1070 : decode code 1070 = .ok (.iconst 1, 1) := by decide +kernel
theorem dL_law_1071 : decode code 1071 = .ok (.iadd, 1) := by decide +kernel
theorem dL_law_1072 : decode code 1072 = .ok (.iaload, 1) := by decide +kernel
theorem dL_law_1073 : decode code 1073 = .ok (.aload_n 0, 1) := by decide +kernel
theorem dL_law_1074 : decode code 1074 = .ok (.iload_n 3, 1) := by decide +kernel
theorem dL_law_1075 : decode code 1075 = .ok (.iconst 2, 1) := by decide +kernel
theorem dL_law_1076 : decode code 1076 = .ok (.iadd, 1) := by decide +kernel
theorem dL_law_1077 : decode code 1077 = .ok (.iaload, 1) := by decide +kernel
theorem dL_law_1078 : decode code 1078 = .ok (.aload_n 0, 1) := by decide +kernel
theorem dL_law_1079 : decode code 1079 = .ok (.iload_n 3, 1) := by decide +kernel
theorem dL_law_1080 : decode code 1080 = .ok (.iconst 3, 1) := by decide +kernel
theorem dL_law_1081 : decode code 1081 = .ok (.iadd, 1) := by decide +kernel
theorem dL_law_1082 : decode code 1082 = .ok (.iaload, 1) := by decide +kernel
theorem dL_law_1083 : decode code 1083 = .ok (.invokevirtual 133, 3) := by decide +kernel
theorem dL_law_1086 : decode code 1086 = .ok (.if_icmp .eq 197, 3) := by decide +kernel
theorem dL_law_1089 : decode code 1089 = .ok (.iconst 0, 1) := by decide +kernel
theorem dL_law_1090 : decode code 1090 = .ok (.ireturn, 1) := by decide +kernel
theorem dL_law_1091 : decode code 1091 = .ok (.aload_n 1, 1) := by decide +kernel
theorem dL_law_1092 : decode code 1092 = .ok (.aload_n 0, 1) := by decide +kernel
theorem dL_law_1093 : decode code 1093 = .ok (.iload_n 3, 1) := by decide +kernel
theorem dL_law_1094 : decode code 1094 = .ok (.iconst 1, 1) := by decide +kernel
theorem dL_law_1095 : decode code 1095 = .ok (.iadd, 1) := by decide +kernel
theorem dL_law_1096 : decode code 1096 = .ok (.iaload, 1) := by decide +kernel
theorem dL_law_1097 : decode code 1097 = .ok (.aload_n 0, 1) := by decide +kernel
theorem dL_law_1098 : decode code 1098 = .ok (.iload_n 3, 1) := by decide +kernel
theorem dL_law_1099 : decode code 1099 = .ok (.iconst 2, 1) := by decide +kernel
theorem dL_law_1100 : decode code 1100 = .ok (.iadd, 1) := by decide +kernel
theorem dL_law_1101 : decode code 1101 = .ok (.iaload, 1) := by decide +kernel
theorem dL_law_1102 : decode code 1102 = .ok (.aload_n 0, 1) := by decide +kernel
theorem dL_law_1103 : decode code 1103 = .ok (.iload_n 3, 1) := by decide +kernel
theorem dL_law_1104 : decode code 1104 = .ok (.iconst 3, 1) := by decide +kernel
theorem dL_law_1105 : decode code 1105 = .ok (.iadd, 1) := by decide +kernel
theorem dL_law_1106 : decode code 1106 = .ok (.iaload, 1) := by decide +kernel
theorem dL_law_1107 : decode code 1107 = .ok (.invokevirtual 134, 3) := by decide +kernel
theorem dL_law_1110 : decode code 1110 = .ok (.aload_n 2, 1) := by decide +kernel
theorem dL_law_1111 : decode code 1111 = .ok (.aload_n 0, 1) := by decide +kernel
theorem dL_law_1112 : decode code 1112 = .ok (.iload_n 3, 1) := by decide +kernel
theorem dL_law_1113 : decode code 1113 = .ok (.iconst 1, 1) := by decide +kernel
theorem dL_law_1114 : decode code 1114 = .ok (.iadd, 1) := by decide +kernel
theorem dL_law_1115 : decode code 1115 = .ok (.iaload, 1) := by decide +kernel
theorem dL_law_1116 : decode code 1116 = .ok (.aload_n 0, 1) := by decide +kernel
theorem dL_law_1117 : decode code 1117 = .ok (.iload_n 3, 1) := by decide +kernel
theorem dL_law_1118 : decode code 1118 = .ok (.iconst 2, 1) := by decide +kernel
theorem dL_law_1119 : decode code 1119 = .ok (.iadd, 1) := by decide +kernel
theorem dL_law_1120 : decode code 1120 = .ok (.iaload, 1) := by decide +kernel
theorem dL_law_1121 : decode code 1121 = .ok (.aload_n 0, 1) := by decide +kernel
theorem dL_law_1122 : decode code 1122 = .ok (.iload_n 3, 1) := by decide +kernel
theorem dL_law_1123 : decode code 1123 = .ok (.iconst 3, 1) := by decide +kernel
theorem dL_law_1124 : decode code 1124 = .ok (.iadd, 1) := by decide +kernel
theorem dL_law_1125 : decode code 1125 = .ok (.iaload, 1) := by decide +kernel
theorem dL_law_1126 : decode code 1126 = .ok (.invokevirtual 137, 3) := by decide +kernel
theorem dL_law_1129 : decode code 1129 = .ok (.if_icmp .eq 154, 3) := by decide +kernel
theorem dL_law_1132 : decode code 1132 = .ok (.iconst 0, 1) := by decide +kernel
theorem dL_law_1133 : decode code 1133 = .ok (.ireturn, 1) := by decide +kernel
theorem dL_law_1134 : decode code 1134 = .ok (.aload_n 1, 1) := by decide +kernel
theorem dL_law_1135 : decode code 1135 = .ok (.aload_n 0, 1) := by decide +kernel
theorem dL_law_1136 : decode code 1136 = .ok (.iload_n 3, 1) := by decide +kernel
theorem dL_law_1137 : decode code 1137 = .ok (.iconst 1, 1) := by decide +kernel
theorem dL_law_1138 : decode code 1138 = .ok (.iadd, 1) := by decide +kernel
theorem dL_law_1139 : decode code 1139 = .ok (.iaload, 1) := by decide +kernel
theorem dL_law_1140 : decode code 1140 = .ok (.aload_n 0, 1) := by decide +kernel
theorem dL_law_1141 : decode code 1141 = .ok (.iload_n 3, 1) := by decide +kernel
theorem dL_law_1142 : decode code 1142 = .ok (.iconst 2, 1) := by decide +kernel
theorem dL_law_1143 : decode code 1143 = .ok (.iadd, 1) := by decide +kernel
theorem dL_law_1144 : decode code 1144 = .ok (.iaload, 1) := by decide +kernel
theorem dL_law_1145 : decode code 1145 = .ok (.aload_n 0, 1) := by decide +kernel
theorem dL_law_1146 : decode code 1146 = .ok (.iload_n 3, 1) := by decide +kernel
theorem dL_law_1147 : decode code 1147 = .ok (.iconst 3, 1) := by decide +kernel
theorem dL_law_1148 : decode code 1148 = .ok (.iadd, 1) := by decide +kernel
theorem dL_law_1149 : decode code 1149 = .ok (.iaload, 1) := by decide +kernel
theorem dL_law_1150 : decode code 1150 = .ok (.aload_n 0, 1) := by decide +kernel
theorem dL_law_1151 : decode code 1151 = .ok (.iload_n 3, 1) := by decide +kernel
theorem dL_law_1152 : decode code 1152 = .ok (.iconst 4, 1) := by decide +kernel
theorem dL_law_1153 : decode code 1153 = .ok (.iadd, 1) := by decide +kernel
theorem dL_law_1154 : decode code 1154 = .ok (.iaload, 1) := by decide +kernel
theorem dL_law_1155 : decode code 1155 = .ok (.aload_n 0, 1) := by decide +kernel
theorem dL_law_1156 : decode code 1156 = .ok (.iload_n 3, 1) := by decide +kernel
theorem dL_law_1157 : decode code 1157 = .ok (.iconst 5, 1) := by decide +kernel
theorem dL_law_1158 : decode code 1158 = .ok (.iadd, 1) := by decide +kernel
theorem dL_law_1159 : decode code 1159 = .ok (.iaload, 1) := by decide +kernel
theorem dL_law_1160 : decode code 1160 = .ok (.invokevirtual 138, 3) := by decide +kernel
theorem dL_law_1163 : decode code 1163 = .ok (.aload_n 2, 1) := by decide +kernel
theorem dL_law_1164 : decode code 1164 = .ok (.aload_n 0, 1) := by decide +kernel
theorem dL_law_1165 : decode code 1165 = .ok (.iload_n 3, 1) := by decide +kernel
theorem dL_law_1166 : decode code 1166 = .ok (.iconst 1, 1) := by decide +kernel
theorem dL_law_1167 : decode code 1167 = .ok (.iadd, 1) := by decide +kernel
theorem dL_law_1168 : decode code 1168 = .ok (.iaload, 1) := by decide +kernel
theorem dL_law_1169 : decode code 1169 = .ok (.aload_n 0, 1) := by decide +kernel
theorem dL_law_1170 : decode code 1170 = .ok (.iload_n 3, 1) := by decide +kernel
theorem dL_law_1171 : decode code 1171 = .ok (.iconst 2, 1) := by decide +kernel
theorem dL_law_1172 : decode code 1172 = .ok (.iadd, 1) := by decide +kernel
theorem dL_law_1173 : decode code 1173 = .ok (.iaload, 1) := by decide +kernel
theorem dL_law_1174 : decode code 1174 = .ok (.aload_n 0, 1) := by decide +kernel
theorem dL_law_1175 : decode code 1175 = .ok (.iload_n 3, 1) := by decide +kernel
theorem dL_law_1176 : decode code 1176 = .ok (.iconst 3, 1) := by decide +kernel
theorem dL_law_1177 : decode code 1177 = .ok (.iadd, 1) := by decide +kernel
theorem dL_law_1178 : decode code 1178 = .ok (.iaload, 1) := by decide +kernel
theorem dL_law_1179 : decode code 1179 = .ok (.aload_n 0, 1) := by decide +kernel
theorem dL_law_1180 : decode code 1180 = .ok (.iload_n 3, 1) := by decide +kernel
theorem dL_law_1181 : decode code 1181 = .ok (.iconst 4, 1) := by decide +kernel
theorem dL_law_1182 : decode code 1182 = .ok (.iadd, 1) := by decide +kernel
theorem dL_law_1183 : decode code 1183 = .ok (.iaload, 1) := by decide +kernel
theorem dL_law_1184 : decode code 1184 = .ok (.aload_n 0, 1) := by decide +kernel
theorem dL_law_1185 : decode code 1185 = .ok (.iload_n 3, 1) := by decide +kernel
theorem dL_law_1186 : decode code 1186 = .ok (.iconst 5, 1) := by decide +kernel
theorem dL_law_1187 : decode code 1187 = .ok (.iadd, 1) := by decide +kernel
theorem dL_law_1188 : decode code 1188 = .ok (.iaload, 1) := by decide +kernel
theorem dL_law_1189 : decode code 1189 = .ok (.invokevirtual 142, 3) := by decide +kernel
theorem dL_law_1192 : decode code 1192 = .ok (.if_icmp .eq 91, 3) := by decide +kernel
theorem dL_law_1195 : decode code 1195 = .ok (.iconst 0, 1) := by decide +kernel
theorem dL_law_1196 : decode code 1196 = .ok (.ireturn, 1) := by decide +kernel
theorem dL_law_1197 : decode code 1197 = .ok (.aload_n 1, 1) := by decide +kernel
theorem dL_law_1198 : decode code 1198 = .ok (.aload_n 0, 1) := by decide +kernel
theorem dL_law_1199 : decode code 1199 = .ok (.iload_n 3, 1) := by decide +kernel
theorem dL_law_1200 : decode code 1200 = .ok (.iconst 1, 1) := by decide +kernel
theorem dL_law_1201 : decode code 1201 = .ok (.iadd, 1) := by decide +kernel
theorem dL_law_1202 : decode code 1202 = .ok (.iaload, 1) := by decide +kernel
theorem dL_law_1203 : decode code 1203 = .ok (.aload_n 0, 1) := by decide +kernel
theorem dL_law_1204 : decode code 1204 = .ok (.iload_n 3, 1) := by decide +kernel
theorem dL_law_1205 : decode code 1205 = .ok (.iconst 2, 1) := by decide +kernel
theorem dL_law_1206 : decode code 1206 = .ok (.iadd, 1) := by decide +kernel
theorem dL_law_1207 : decode code 1207 = .ok (.iaload, 1) := by decide +kernel
theorem dL_law_1208 : decode code 1208 = .ok (.aload_n 0, 1) := by decide +kernel
theorem dL_law_1209 : decode code 1209 = .ok (.iload_n 3, 1) := by decide +kernel
theorem dL_law_1210 : decode code 1210 = .ok (.iconst 3, 1) := by decide +kernel
theorem dL_law_1211 : decode code 1211 = .ok (.iadd, 1) := by decide +kernel
theorem dL_law_1212 : decode code 1212 = .ok (.iaload, 1) := by decide +kernel
theorem dL_law_1213 : decode code 1213 = .ok (.aload_n 0, 1) := by decide +kernel
theorem dL_law_1214 : decode code 1214 = .ok (.iload_n 3, 1) := by decide +kernel
theorem dL_law_1215 : decode code 1215 = .ok (.iconst 4, 1) := by decide +kernel
theorem dL_law_1216 : decode code 1216 = .ok (.iadd, 1) := by decide +kernel
theorem dL_law_1217 : decode code 1217 = .ok (.iaload, 1) := by decide +kernel
theorem dL_law_1218 : decode code 1218 = .ok (.invokevirtual 143, 3) := by decide +kernel
theorem dL_law_1221 : decode code 1221 = .ok (.aload_n 2, 1) := by decide +kernel
theorem dL_law_1222 : decode code 1222 = .ok (.aload_n 0, 1) := by decide +kernel
theorem dL_law_1223 : decode code 1223 = .ok (.iload_n 3, 1) := by decide +kernel
theorem dL_law_1224 : decode code 1224 = .ok (.iconst 1, 1) := by decide +kernel
theorem dL_law_1225 : decode code 1225 = .ok (.iadd, 1) := by decide +kernel
theorem dL_law_1226 : decode code 1226 = .ok (.iaload, 1) := by decide +kernel
theorem dL_law_1227 : decode code 1227 = .ok (.aload_n 0, 1) := by decide +kernel
theorem dL_law_1228 : decode code 1228 = .ok (.iload_n 3, 1) := by decide +kernel
theorem dL_law_1229 : decode code 1229 = .ok (.iconst 2, 1) := by decide +kernel
theorem dL_law_1230 : decode code 1230 = .ok (.iadd, 1) := by decide +kernel
theorem dL_law_1231 : decode code 1231 = .ok (.iaload, 1) := by decide +kernel
theorem dL_law_1232 : decode code 1232 = .ok (.aload_n 0, 1) := by decide +kernel
theorem dL_law_1233 : decode code 1233 = .ok (.iload_n 3, 1) := by decide +kernel
theorem dL_law_1234 : decode code 1234 = .ok (.iconst 3, 1) := by decide +kernel
theorem dL_law_1235 : decode code 1235 = .ok (.iadd, 1) := by decide +kernel
theorem dL_law_1236 : decode code 1236 = .ok (.iaload, 1) := by decide +kernel
theorem dL_law_1237 : decode code 1237 = .ok (.aload_n 0, 1) := by decide +kernel
theorem dL_law_1238 : decode code 1238 = .ok (.iload_n 3, 1) := by decide +kernel
theorem dL_law_1239 : decode code 1239 = .ok (.iconst 4, 1) := by decide +kernel
theorem dL_law_1240 : decode code 1240 = .ok (.iadd, 1) := by decide +kernel
theorem dL_law_1241 : decode code 1241 = .ok (.iaload, 1) := by decide +kernel
theorem dL_law_1242 : decode code 1242 = .ok (.invokevirtual 146, 3) := by decide +kernel
theorem dL_law_1245 : decode code 1245 = .ok (.if_icmp .eq 38, 3) := by decide +kernel
theorem dL_law_1248 : decode code 1248 = .ok (.iconst 0, 1) := by decide +kernel
theorem dL_law_1249 : decode code 1249 = .ok (.ireturn, 1) := by decide +kernel
theorem dL_law_1250 : decode code 1250 = .ok (.aload_n 1, 1) := by decide +kernel
theorem dL_law_1251 : decode code 1251 = .ok (.aload_n 0, 1) := by decide +kernel
theorem dL_law_1252 : decode code 1252 = .ok (.iload_n 3, 1) := by decide +kernel
theorem dL_law_1253 : decode code 1253 = .ok (.iconst 1, 1) := by decide +kernel
theorem dL_law_1254 : decode code 1254 = .ok (.iadd, 1) := by decide +kernel
theorem dL_law_1255 : decode code 1255 = .ok (.iaload, 1) := by decide +kernel
theorem dL_law_1256 : decode code 1256 = .ok (.aload_n 0, 1) := by decide +kernel
theorem dL_law_1257 : decode code 1257 = .ok (.iload_n 3, 1) := by decide +kernel
theorem dL_law_1258 : decode code 1258 = .ok (.iconst 2, 1) := by decide +kernel
theorem dL_law_1259 : decode code 1259 = .ok (.iadd, 1) := by decide +kernel
theorem dL_law_1260 : decode code 1260 = .ok (.iaload, 1) := by decide +kernel
theorem dL_law_1261 : decode code 1261 = .ok (.invokevirtual 147, 3) := by decide +kernel
theorem dL_law_1264 : decode code 1264 = .ok (.aload_n 2, 1) := by decide +kernel
theorem dL_law_1265 : decode code 1265 = .ok (.aload_n 0, 1) := by decide +kernel
theorem dL_law_1266 : decode code 1266 = .ok (.iload_n 3, 1) := by decide +kernel
theorem dL_law_1267 : decode code 1267 = .ok (.iconst 1, 1) := by decide +kernel
theorem dL_law_1268 : decode code 1268 = .ok (.iadd, 1) := by decide +kernel
theorem dL_law_1269 : decode code 1269 = .ok (.iaload, 1) := by decide +kernel
theorem dL_law_1270 : decode code 1270 = .ok (.aload_n 0, 1) := by decide +kernel
theorem dL_law_1271 : decode code 1271 = .ok (.iload_n 3, 1) := by decide +kernel
theorem dL_law_1272 : decode code 1272 = .ok (.iconst 2, 1) := by decide +kernel
theorem dL_law_1273 : decode code 1273 = .ok (.iadd, 1) := by decide +kernel
theorem dL_law_1274 : decode code 1274 = .ok (.iaload, 1) := by decide +kernel
theorem dL_law_1275 : decode code 1275 = .ok (.invokevirtual 150, 3) := by decide +kernel
theorem dL_law_1278 : decode code 1278 = .ok (.if_icmp .eq 5, 3) := by decide +kernel
theorem dL_law_1281 : decode code 1281 = .ok (.iconst 0, 1) := by decide +kernel
theorem dL_law_1282 : decode code 1282 = .ok (.ireturn, 1) := by decide +kernel
theorem dL_law_1283 : decode code 1283 = .ok (.iinc 3 6, 3) := by decide +kernel
theorem dL_law_1286 : decode code 1286 = .ok (.goto (-1268), 3) := by decide +kernel
theorem dL_law_1289 : decode code 1289 = .ok (.iconst 1, 1) := by decide +kernel
theorem dL_law_1290 : decode code 1290 = .ok (.ireturn, 1) := by decide +kernel
/-- call 0: stand: both answer the same, and stay alike -/
def SH_stand (Rel : Mm → Mm → Prop) : Prop := ∀ (gC gR : Mm) (a0 : Int32), Rel gC gR → ∃ (gC1 gR1 : Mm) (r : Int32), (fX10_stand gC a0 = some (gC1, r)) ∧ (fX11_stand gR a0 = some (gR1, r)) ∧ Rel gC1 gR1
/-- call 1: set: both answer the same, and stay alike -/
def SH_set (Rel : Mm → Mm → Prop) : Prop := ∀ (gC gR : Mm) (a0 : Int32) (a1 : Int32), Rel gC gR → ∃ (gC1 gR1 : Mm) (r : Int32), (fX10_set gC a0 a1 = some (gC1, r)) ∧ (fX11_set gR a0 a1 = some (gR1, r)) ∧ Rel gC1 gR1
/-- call 2: visit: both answer the same, and stay alike -/
def SH_visit (Rel : Mm → Mm → Prop) : Prop := ∀ (gC gR : Mm) (a0 : Int32) (a1 : Int32) (a2 : Int32) (a3 : Int32), Rel gC gR → ∃ (gC1 gR1 : Mm) (r : Int32), (fX10_visit gC a0 a1 a2 a3 = some (gC1, r)) ∧ (fX11_visit gR a0 a1 a2 a3 = some (gR1, r)) ∧ Rel gC1 gR1
/-- call 3: late: both answer the same, and stay alike -/
def SH_late (Rel : Mm → Mm → Prop) : Prop := ∀ (gC gR : Mm) (a0 : Int32) (a1 : Int32), Rel gC gR → ∃ (gC1 gR1 : Mm) (r : Int32), (fX10_late gC a0 a1 = some (gC1, r)) ∧ (fX11_late gR a0 a1 = some (gR1, r)) ∧ Rel gC1 gR1
/-- call 4: wish: both answer the same, and stay alike -/
def SH_wish (Rel : Mm → Mm → Prop) : Prop := ∀ (gC gR : Mm) (a0 : Int32) (a1 : Int32), Rel gC gR → ∃ (gC1 gR1 : Mm) (r : Int32), (fX10_wish gC a0 a1 = some (gC1, r)) ∧ (fX11_wish gR a0 a1 = some (gR1, r)) ∧ Rel gC1 gR1
/-- call 5: feed: both answer the same, and stay alike -/
def SH_feed (Rel : Mm → Mm → Prop) : Prop := ∀ (gC gR : Mm) (a0 : Int32) (a1 : Int32) (a2 : Int32) (a3 : Int32), Rel gC gR → ∃ (gC1 gR1 : Mm) (r : Int32), (fX10_feed gC a0 a1 a2 a3 = some (gC1, r)) ∧ (fX11_feed gR a0 a1 a2 a3 = some (gR1, r)) ∧ Rel gC1 gR1
/-- call 6: run: both answer the same, and stay alike -/
def SH_run (Rel : Mm → Mm → Prop) : Prop := ∀ (gC gR : Mm) (a0 : Int32), Rel gC gR → ∃ (gC1 gR1 : Mm) (r : Int32), (fX10_run gC a0 = some (gC1, r)) ∧ (fX11_run gR a0 = some (gR1, r)) ∧ Rel gC1 gR1
/-- call 7: visitTold: both answer the same, and stay alike -/
def SH_visitTold (Rel : Mm → Mm → Prop) : Prop := ∀ (gC gR : Mm) (a0 : Int32) (a1 : Int32), Rel gC gR → ∃ (gC1 gR1 : Mm) (r : Int32), (fX10_visitTold gC a0 a1 = some r ∧ gC1 = gC) ∧ (fX11_visitTold gR a0 a1 = some r ∧ gR1 = gR) ∧ Rel gC1 gR1
/-- call 8: cause: both answer the same, and stay alike -/
def SH_cause (Rel : Mm → Mm → Prop) : Prop := ∀ (gC gR : Mm) (a0 : Int32) (a1 : Int32), Rel gC gR → ∃ (gC1 gR1 : Mm) (r : Int32), (fX10_cause gC a0 a1 = some r ∧ gC1 = gC) ∧ (fX11_cause gR a0 a1 = some r ∧ gR1 = gR) ∧ Rel gC1 gR1
/-- call 9: feedTold: both answer the same, and stay alike -/
def SH_feedTold (Rel : Mm → Mm → Prop) : Prop := ∀ (gC gR : Mm) (a0 : Int32) (a1 : Int32), Rel gC gR → ∃ (gC1 gR1 : Mm) (r : Int32), (fX10_feedTold gC a0 a1 = some r ∧ gC1 = gC) ∧ (fX11_feedTold gR a0 a1 = some r ∧ gR1 = gR) ∧ Rel gC1 gR1
/-- call 10: standTold: both answer the same, and stay alike -/
def SH_standTold (Rel : Mm → Mm → Prop) : Prop := ∀ (gC gR : Mm) (a0 : Int32) (a1 : Int32), Rel gC gR → ∃ (gC1 gR1 : Mm) (r : Int32), (fX10_standTold gC a0 a1 = some r ∧ gC1 = gC) ∧ (fX11_standTold gR a0 a1 = some r ∧ gR1 = gR) ∧ Rel gC1 gR1
/-- call 11: runwayTold: both answer the same, and stay alike -/
def SH_runwayTold (Rel : Mm → Mm → Prop) : Prop := ∀ (gC gR : Mm) (a0 : Int32) (a1 : Int32), Rel gC gR → ∃ (gC1 gR1 : Mm) (r : Int32), (fX10_runwayTold gC a0 a1 = some r ∧ gC1 = gC) ∧ (fX11_runwayTold gR a0 a1 = some r ∧ gR1 = gR) ∧ Rel gC1 gR1
/-- call 12: ticks: both answer the same, and stay alike -/
def SH_ticks (Rel : Mm → Mm → Prop) : Prop := ∀ (gC gR : Mm) (a0 : Int32) (a1 : Int32), Rel gC gR → ∃ (gC1 gR1 : Mm) (r : Int32), (fX10_ticks gC a0 a1 = some r ∧ gC1 = gC) ∧ (fX11_ticks_ gR a0 a1 = some r ∧ gR1 = gR) ∧ Rel gC1 gR1
/-- call 13: kindTold: both answer the same, and stay alike -/
def SH_kindTold (Rel : Mm → Mm → Prop) : Prop := ∀ (gC gR : Mm) (a0 : Int32) (a1 : Int32), Rel gC gR → ∃ (gC1 gR1 : Mm) (r : Int32), (fX10_kindTold gC a0 a1 = some r ∧ gC1 = gC) ∧ (fX11_kindTold gR a0 a1 = some r ∧ gR1 = gR) ∧ Rel gC1 gR1
/-- call 14: trucks: both answer the same, and stay alike -/
def SH_trucks (Rel : Mm → Mm → Prop) : Prop := ∀ (gC gR : Mm) (a0 : Int32) (a1 : Int32), Rel gC gR → ∃ (gC1 gR1 : Mm) (r : Int32), (fX10_trucks gC a0 a1 = some r ∧ gC1 = gC) ∧ (fX11_trucks gR a0 a1 = some r ∧ gR1 = gR) ∧ Rel gC1 gR1
/-- call 15: beside: both answer the same, and stay alike -/
def SH_beside (Rel : Mm → Mm → Prop) : Prop := ∀ (gC gR : Mm) (a0 : Int32) (a1 : Int32), Rel gC gR → ∃ (gC1 gR1 : Mm) (r : Int32), (fX10_beside gC a0 a1 = some (gC1, r)) ∧ (fX11_beside gR a0 a1 = some (gR1, r)) ∧ Rel gC1 gR1
/-- call 16: plan: both answer the same, and stay alike -/
def SH_plan (Rel : Mm → Mm → Prop) : Prop := ∀ (gC gR : Mm) (a0 : Int32) (a1 : Int32), Rel gC gR → ∃ (gC1 gR1 : Mm) (r : Int32), (fX10_plan gC a0 a1 = some (gC1, r)) ∧ (fX11_plan gR a0 a1 = some (gR1, r)) ∧ Rel gC1 gR1
/-- call 17: planned: both answer the same, and stay alike -/
def SH_planned (Rel : Mm → Mm → Prop) : Prop := ∀ (gC gR : Mm) (a0 : Int32), Rel gC gR → ∃ (gC1 gR1 : Mm) (r : Int32), (fX10_planned gC a0 = some r ∧ gC1 = gC) ∧ (fX11_planned gR a0 = some r ∧ gR1 = gR) ∧ Rel gC1 gR1
/-- call 18: settle: both answer the same, and stay alike -/
def SH_settle (Rel : Mm → Mm → Prop) : Prop := ∀ (gC gR : Mm), Rel gC gR → ∃ (gC1 gR1 : Mm) (r : Int32), (fX10_settle gC  = some (gC1, r)) ∧ (fX11_settle gR  = some (gR1, r)) ∧ Rel gC1 gR1
/-- call 19: estimate: both answer the same, and stay alike -/
def SH_estimate (Rel : Mm → Mm → Prop) : Prop := ∀ (gC gR : Mm) (a0 : Int32) (a1 : Int32), Rel gC gR → ∃ (gC1 gR1 : Mm) (r : Int32), (fX10_estimate gC a0 a1 = some (gC1, r)) ∧ (fX11_estimate gR a0 a1 = some (gR1, r)) ∧ Rel gC1 gR1
/-- call 20: expects: both answer the same, and stay alike -/
def SH_expects (Rel : Mm → Mm → Prop) : Prop := ∀ (gC gR : Mm) (a0 : Int32) (a1 : Int32), Rel gC gR → ∃ (gC1 gR1 : Mm) (r : Int32), (fX10_expects gC a0 a1 = some r ∧ gC1 = gC) ∧ (fX11_expects gR a0 a1 = some r ∧ gR1 = gR) ∧ Rel gC1 gR1
/-- call 21: misses: both answer the same, and stay alike -/
def SH_misses (Rel : Mm → Mm → Prop) : Prop := ∀ (gC gR : Mm) (a0 : Int32) (a1 : Int32), Rel gC gR → ∃ (gC1 gR1 : Mm) (r : Int32), (fX10_misses gC a0 a1 = some r ∧ gC1 = gC) ∧ (fX11_misses gR a0 a1 = some r ∧ gR1 = gR) ∧ Rel gC1 gR1
/-- call 22: feedTape: both answer the same, and stay alike -/
def SH_feedTape (Rel : Mm → Mm → Prop) : Prop := ∀ (gC gR : Mm) (a0 : Int64) (a1 : Int32), Rel gC gR → ∃ (gC1 gR1 : Mm) (r : Int32), (fX10_feedTape gC a0 a1 = some (gC1, r)) ∧ (fX11_feedTape gR a0 a1 = some (gR1, r)) ∧ Rel gC1 gR1
/-- call 23: text: both answer the same, and stay alike -/
def SH_text (Rel : Mm → Mm → Prop) : Prop := ∀ (gC gR : Mm), Rel gC gR → ∃ (gC1 gR1 : Mm) (r : Int32), (fX10_text gC  = some (gC1, r)) ∧ (fX11_text gR  = some (gR1, r)) ∧ Rel gC1 gR1
/-- call 24: force: both answer the same, and stay alike -/
def SH_force (Rel : Mm → Mm → Prop) : Prop := ∀ (gC gR : Mm) (a0 : Int32), Rel gC gR → ∃ (gC1 gR1 : Mm) (r : Int32), (fX10_force gC a0 = some (gC1, r)) ∧ (fX11_force gR a0 = some (gR1, r)) ∧ Rel gC1 gR1
/-- call 25: tells: both answer the same, and stay alike -/
def SH_tells (Rel : Mm → Mm → Prop) : Prop := ∀ (gC gR : Mm) (a0 : Int32) (a1 : Int32), Rel gC gR → ∃ (gC1 gR1 : Mm) (r : Int64), (fX10_tells gC a0 a1 = some (gC1, r)) ∧ (fX11_tells gR a0 a1 = some (gR1, r)) ∧ Rel gC1 gR1
/-- call 26: count: both answer the same, and stay alike -/
def SH_count (Rel : Mm → Mm → Prop) : Prop := ∀ (gC gR : Mm) (a0 : Int32), Rel gC gR → ∃ (gC1 gR1 : Mm) (r : Int32), (fX10_count gC a0 = some r ∧ gC1 = gC) ∧ (fX11_count gR a0 = some r ∧ gR1 = gR) ∧ Rel gC1 gR1
/-- call 27: sheet: both answer the same, and stay alike -/
def SH_sheet (Rel : Mm → Mm → Prop) : Prop := ∀ (gC gR : Mm) (a0 : Int32) (a1 : Int32) (a2 : Int32), Rel gC gR → ∃ (gC1 gR1 : Mm) (r : Int32), (fX10_sheet gC a0 a1 a2 = some (gC1, r)) ∧ (fX11_sheet gR a0 a1 a2 = some (gR1, r)) ∧ Rel gC1 gR1
/-- call 28: cell: both answer the same, and stay alike -/
def SH_cell (Rel : Mm → Mm → Prop) : Prop := ∀ (gC gR : Mm) (a0 : Int32) (a1 : Int32) (a2 : Int32), Rel gC gR → ∃ (gC1 gR1 : Mm) (r : Int32), (fX10_cell gC a0 a1 a2 = some (gC1, r)) ∧ (fX11_cell gR a0 a1 a2 = some (gR1, r)) ∧ Rel gC1 gR1
/-- call 29: copy: both answer the same, and stay alike -/
def SH_copy (Rel : Mm → Mm → Prop) : Prop := ∀ (gC gR : Mm) (a0 : Int32) (a1 : Int32) (a2 : Int32) (a3 : Int32) (a4 : Int32), Rel gC gR → ∃ (gC1 gR1 : Mm) (r : Int32), (fX10_copy gC a0 a1 a2 a3 a4 = some (gC1, r)) ∧ (fX11_copy gR a0 a1 a2 a3 a4 = some (gR1, r)) ∧ Rel gC1 gR1
/-- call 30: visits: both answer the same, and stay alike -/
def SH_visits (Rel : Mm → Mm → Prop) : Prop := ∀ (gC gR : Mm) (a0 : Int32) (a1 : Int32) (a2 : Int32) (a3 : Int32), Rel gC gR → ∃ (gC1 gR1 : Mm) (r : Int32), (fX10_visits gC a0 a1 a2 a3 = some (gC1, r)) ∧ (fX11_visits gR a0 a1 a2 a3 = some (gR1, r)) ∧ Rel gC1 gR1
/-- call 31: taken: both answer the same, and stay alike -/
def SH_taken (Rel : Mm → Mm → Prop) : Prop := ∀ (gC gR : Mm) (a0 : Int32) (a1 : Int32), Rel gC gR → ∃ (gC1 gR1 : Mm) (r : Int32), (fX10_taken gC a0 a1 = some r ∧ gC1 = gC) ∧ (fX11_taken gR a0 a1 = some r ∧ gR1 = gR) ∧ Rel gC1 gR1
def SH_all (Rel : Mm → Mm → Prop) : Prop := SH_stand Rel ∧ SH_set Rel ∧ SH_visit Rel ∧ SH_late Rel ∧ SH_wish Rel ∧ SH_feed Rel ∧ SH_run Rel ∧ SH_visitTold Rel ∧ SH_cause Rel ∧ SH_feedTold Rel ∧ SH_standTold Rel ∧ SH_runwayTold Rel ∧ SH_ticks Rel ∧ SH_kindTold Rel ∧ SH_trucks Rel ∧ SH_beside Rel ∧ SH_plan Rel ∧ SH_planned Rel ∧ SH_settle Rel ∧ SH_estimate Rel ∧ SH_expects Rel ∧ SH_misses Rel ∧ SH_feedTape Rel ∧ SH_text Rel ∧ SH_force Rel ∧ SH_tells Rel ∧ SH_count Rel ∧ SH_sheet Rel ∧ SH_cell Rel ∧ SH_copy Rel ∧ SH_visits Rel ∧ SH_taken Rel
/-- what holds all along the law's body -/
def Lw (p : Program) (l : Launch) (s : State) (m : MethodId) (meth : Method) (c : Code) (b L : Nat) (xs : Nat → Int32) (kC kR : En) : Prop :=
  CallFix p m c code 4 s #[Value.ref b] Gt "WingPortLaw" ∧ KD kC s ∧ SE (AU kC) kC s s.heap ∧ kC.1 = s.heap.size ∧ kR = (kC.1 + 167, kC.2) ∧ va_X b L xs s s.heap ∧ b < s.heap.size ∧ L ≤ 3072 ∧ meth.sig.returnType = ret ∧ meth.locks = false
/-- both worlds, side by side -/
def Wl (kC kR : En) (gC gR : Mm) (s : State) (H : Heap) (locs : List Loc) : Prop :=
  Wd YC (fun _ => True) kC gC H ∧ Wd YR (fun _ => True) kR gR H ∧ va_S (fun q => s.heap.size ≤ q) s.heap H locs ∧ H.size = kR.1 + 23
theorem lg_cmp_self (r : Int64) : lg_cmp r r = 0 := by
  unfold lg_cmp
  rw [if_neg (by simp), if_pos rfl]
section LW
variable {p : Program} {l : Launch} {e : Env} {s : State} {m : MethodId} {below : List Frame} {meth : Method} {c : Code} {H : Heap} {locs : List Loc} {Q : State → Prop} {b L : Nat} {xs : Nat → Int32} {kC kR : En} {cells slots : Nat}
theorem Lw.x (X : Lw p l s m meth c b L xs kC kR) : p.tables.exec = Jvm.exec := X.1.1
theorem Lw.bb (X : Lw p l s m meth c b L xs kC kR) : c.code = code := X.1.2.1
theorem Lw.o (X : Lw p l s m meth c b L xs kC kR) : s.vm.findClass "WingPortLaw" = some m.cls := X.1.2.2.2.1
theorem Lw.t (X : Lw p l s m meth c b L xs kC kR) : ∀ w ∈ Gt, w.before #[Value.ref b] s = true := X.1.2.2.2.2
theorem lw_in {x3 : Int32} {i L : Nat} (d : Nat) (hx : x3 = nI i) (hi : i + d < L) (hL : L ≤ 3072) (hd : d < 6) : vp_in (x3 + nI d) L := by
  subst hx
  rw [nI_add]
  exact vp_in_nI hi (by omega)
theorem asC {k : En} {q : Nat} (h : AS YC (fun _ => True) k q) : k.1 ≤ q ∧ q < k.1 + 167 := by
  obtain ⟨t, i, v, -, h1, h2, h3⟩ := h
  have h3 : q = k.1 + adC t i v := h3
  have := (kd_ad h1 h2).2
  omega
theorem asR {k : En} {q : Nat} (h : AS YR (fun _ => True) k q) : k.1 ≤ q := by
  obtain ⟨t, i, v, -, h1, h2, h3⟩ := h
  have h3 : q = k.1 + adR t i v := h3
  omega
section
variable {y : MethodName} {bytes : ByteArray} {maxL na idx pc : Nat} {ry : Option FieldType} {rm : Room} {As st0 rest : List Value} {rv : Option Value} {gC gR g1 : Mm} {ls : Array Slot} {l0 : List (Nat × Value)}
theorem lw_call {Y1 : Ly} {k1 : En} {ga gb : Mm} {bb : Nat} (X : Lw p l s m meth c b L xs kC kR) (hS : va_S (fun q => s.heap.size ≤ q) s.heap H locs) (hk1 : k1.2 = kC.2) (hw : Wd Y1 (fun _ => True) k1 ga H) (hsub : ∀ q, AS Y1 (fun _ => True) k1 q → s.heap.size ≤ q) (hM : Mt l y bytes maxL ry rm Y1 (fun _ => True) k1 (.ref bb :: As) ga rv gb) (hf : Mv y bytes maxL ry na)
    (hl : Cond.methodLink "WingPortLaw" idx y ∈ Gt) (hc0 : rm.cells = 0 ∧ rm.slots = 0) (hR : rm.frames + 1 ≤ 2048 ∧ 8 + (maxL + 11) + rm.locals ≤ 84000) (hrc : ∃ cell : Cell, H[bb]? = some cell ∧ cell.vm.isStatics = false ∧ s.vm.findClass y.cls = some cell.cls) (hn : As.length = na) (hls : lv_has ls 4 l0) (hst : st0 = As.reverse ++ .ref bb :: rest) (hcat : (rest.map fun v => v.category).sum ≤ 8) (hcs : cells ≤ 600000 ∧ slots ≤ 7302250) (hd : decode code pc = .ok (.invokevirtual idx, 3))
    (kk : ∀ (H1 : Heap) (locs : List Loc), Wd Y1 (fun _ => True) k1 gb H1 → (∀ q, q < H.size → ¬ AS Y1 (fun _ => True) k1 q → H1[q]? = H[q]?) → va_S (fun q => s.heap.size ≤ q) s.heap H1 locs → H1.size = H.size → W p l e room_1 s m #[Value.ref b] below meth c H1 locs cells slots Q (F0 m (pc + 3) ls (rv.toList ++ rest))) : W p l e room_1 s m #[Value.ref b] below meth c H locs cells slots Q (F0 m pc ls st0) := by
  obtain ⟨o1, kk1⟩ := k1
  have hk1 : kk1 = kC.2 := hk1
  subst hk1
  obtain ⟨f1, f2, f3, f4, f5⟩ := hf
  have cb := callB_of (R := room_1) (own := "WingPortLaw") (index := idx) (rm := rm) (mc := 0) (ms := 0) na X.t (gt_in f4) rfl hc0.1 hc0.2 (X.t _ f3) (X.t _ hl) f5 hR
  have hsz : ∀ q, AU kC q → s.heap.size ≤ q := fun q z => by have z : kC.1 ≤ q := z; rw [X.2.2.2.1] at z; exact z
  have hr := va_runV (p := p) (l := l) (e := e) (below := below) (meth := meth) (locs := locs) (cells := cells) (slots := slots) (g := F0 m pc ls st0) (rest := rest) X.1 hM ⟨cb, X.t _ f1, X.t _ f2⟩ ⟨PreB.blind, hrc, fun U hU hW => ⟨rfl, by rw [hU]; exact hw, va_K.moved hW.alike X.2.1.1, by rw [hU]; exact ((X.2.2.1.warm hW).kept (fun a q1 q2 => hS.2.1 a q1 (fun z => absurd q1 (Nat.not_lt.mpr z)))).narrow (fun q z => by show kC.1 ≤ q; rw [X.2.2.2.1]; exact hsub q z)⟩⟩ rfl hn hls.1 hst (lv_room hcat) hd hcs
  intro T hT XX
  obtain ⟨v, st₀, t, T', Lc, h0, X', hL, e1, e2, ⟨hv, hw2, ⟨hz, hk⟩, hsz2⟩, stp⟩ := hr T hT XX
  cases hv
  rw [h0] at hz hk hsz2
  obtain ⟨t2, a1, b1⟩ := kk T'.heap (locs ++ Lc) (by rw [e1]; exact hw2) (fun q q1 q2 => by rw [e1]; exact hk q q1 q2) ⟨Nat.le_trans hS.1 (by rw [e1]; exact hz), fun q q1 q2 => by rw [e1, hk q (Nat.lt_of_lt_of_le q1 hS.1) (fun z => q2 (hsub q z))]; exact hS.2.1 q q1 q2, fun q hq => by
      rcases List.mem_append.mp hq with z | z
      · exact hS.2.2 q z
      · exact hsub _ (hL q z)⟩ (by rw [e1, hsz2]) T' rfl X'
  exact ⟨t2, stp t2 a1, b1⟩
theorem lw_callC (X : Lw p l s m meth c b L xs kC kR) (hW : Wl kC kR gC gR s H locs) (hM : Mt l y bytes maxL ry rm YC (fun _ => True) kC (.ref (kC.1 + adC 0 0 0) :: As) gC rv g1) (hf : Mv y bytes maxL ry na)
    (hl : Cond.methodLink "WingPortLaw" idx y ∈ Gt) (hc0 : rm.cells = 0 ∧ rm.slots = 0) (hR : rm.frames + 1 ≤ 2048 ∧ 8 + (maxL + 11) + rm.locals ≤ 84000) (hcl : y.cls = RX10) (hn : As.length = na) (hls : lv_has ls 4 l0) (hst : st0 = As.reverse ++ .ref (kC.1 + adC 0 0 0) :: rest) (hcat : (rest.map fun v => v.category).sum ≤ 8) (hd : decode code pc = .ok (.invokevirtual idx, 3))
    (kk : ∀ (H : Heap) (locs : List Loc), Wl kC kR g1 gR s H locs → W p l e room_1 s m #[Value.ref b] below meth c H locs 190 6824 Q (F0 m (pc + 3) ls (rv.toList ++ rest))) : W p l e room_1 s m #[Value.ref b] below meth c H locs 190 6824 Q (F0 m pc ls st0) := by
  refine lw_call X hW.2.2.1 rfl hW.1 (fun q z => by rw [← X.2.2.2.1]; exact (asC z).1) hM hf hl hc0 hR (by rw [hcl]; exact va_recv X.2.1.1 (wd_one (Y := YC) (t := 0) (i := 0) (v := 0) hW.1 trivial Nat.one_pos Nat.one_pos rfl) (ci := 9) (q := (RX10, TX10, 6)) rfl (q0 := 0) rfl) hn hls hst hcat ⟨Nat.le_of_ble_eq_true rfl, Nat.le_of_ble_eq_true rfl⟩ hd fun H1 locs1 q1 q2 q3 q4 => kk H1 locs1 ⟨q1, fun t i v z1 z2 z3 => ?_, q3, q4.trans hW.2.2.2⟩
  have h0 := hW.2.1 t i v z1 z2 z3
  exact h0.kept (q2 _ h0.lt (fun z => by have z1 := (asC z).2; have z1 : kR.1 + adR t i v < kC.1 + 167 := z1; have e1 : kR.1 = kC.1 + 167 := (by rw [X.2.2.2.2.1]); omega))
theorem lw_callR (X : Lw p l s m meth c b L xs kC kR) (hW : Wl kC kR gC gR s H locs) (hM : Mt l y bytes maxL ry rm YR (fun _ => True) kR (.ref (kR.1 + adR 0 0 0) :: As) gR rv g1) (hf : Mv y bytes maxL ry na)
    (hl : Cond.methodLink "WingPortLaw" idx y ∈ Gt) (hc0 : rm.cells = 0 ∧ rm.slots = 0) (hR : rm.frames + 1 ≤ 2048 ∧ 8 + (maxL + 11) + rm.locals ≤ 84000) (hcl : y.cls = RX11) (hn : As.length = na) (hls : lv_has ls 4 l0) (hst : st0 = As.reverse ++ .ref (kR.1 + adR 0 0 0) :: rest) (hcat : (rest.map fun v => v.category).sum ≤ 8) (hd : decode code pc = .ok (.invokevirtual idx, 3))
    (kk : ∀ (H : Heap) (locs : List Loc), Wl kC kR gC g1 s H locs → W p l e room_1 s m #[Value.ref b] below meth c H locs 190 6824 Q (F0 m (pc + 3) ls (rv.toList ++ rest))) : W p l e room_1 s m #[Value.ref b] below meth c H locs 190 6824 Q (F0 m pc ls st0) := by
  have e1 : kR.1 = kC.1 + 167 := by rw [X.2.2.2.2.1]
  have e2 : kR.2 = kC.2 := by rw [X.2.2.2.2.1]
  have hK : va_K kR.2.1 classes (tysOf kR) s := by
    have h0 := X.2.1.1
    rw [X.2.2.2.2.1]
    exact h0
  refine lw_call X hW.2.2.1 e2 hW.2.1 (fun q z => by have z := asR z; rw [e1, X.2.2.2.1] at z; omega) hM hf hl hc0 hR (by rw [hcl]; exact va_recv hK (wd_one (Y := YR) (t := 0) (i := 0) (v := 0) hW.2.1 trivial Nat.one_pos Nat.one_pos rfl) (ci := 10) (q := (RX11, TX11, 37)) rfl (q0 := 0) rfl) hn hls hst hcat ⟨Nat.le_of_ble_eq_true rfl, Nat.le_of_ble_eq_true rfl⟩ hd fun H1 locs1 q1 q2 q3 q4 => kk H1 locs1 ⟨fun t i v z1 z2 z3 => ?_, q1, q3, q4.trans hW.2.2.2⟩
  have h0 := hW.1 t i v z1 z2 z3
  exact h0.kept (q2 _ h0.lt (fun z => by have z1 := asR z; have z1 : kR.1 ≤ kC.1 + adC t i v := z1; have := (kd_ad z2 z3).2; omega))
end
theorem lw_lt {x3 : Int32} {i L : Nat} (hx : x3 = nI i) (hL : L ≤ 3072) (hi : i ≤ L + 6) (h : ¬ Int32.ofNat L - 6 < x3) : i + 6 ≤ L := by
  subst hx
  have h1 : nI i ≤ Int32.ofNat L - 6 := Int32.not_lt.mp h
  have h2 := Int32.le_iff_toInt_le.mp h1
  have e1 : (nI i).toInt = (i : Int) := nI_toInt (by omega)
  have e2 : (Int32.ofNat L - 6).toInt = (L : Int) - 6 := by
    have e3 : (Int32.ofNat L).toInt = (L : Int) := nI_toInt (n := L) (by omega)
    rw [Int32.toInt_sub, e3]
    show Int.bmod ((L : Int) - 6) (2 ^ 32) = _
    rw [Int.bmod_eq_of_le (by omega) (by omega)]
  omega
set_option maxHeartbeats 4000000 in
set_option maxRecDepth 20000 in
theorem lw_c0 (X : Lw p l s m meth c b L xs kC kR) {i : Nat} {x3 : Int32} (hx3 : x3 = nI i) (hi : i + 6 ≤ L) {Rel : Mm → Mm → Prop} (hs : SH_stand Rel) {gC gR : Mm} (hR : Rel gC gR) (hW : Wl kC kR gC gR s H locs) {ls : Array Slot} (hl : lv_has ls 4 [(3, .int x3), (2, .ref (kR.1 + adR 0 0 0)), (1, .ref (kC.1 + adC 0 0 0)), (0, .ref b)])
    (kk : ∀ (gC gR : Mm) (H : Heap) (locs : List Loc), Rel gC gR → Wl kC kR gC gR s H locs → W p l e room_1 s m #[Value.ref b] below meth c H locs 190 6824 Q (F0 m 1283 ls [])) : W p l e room_1 s m #[Value.ref b] below meth c H locs 190 6824 Q (F0 m 176 ls []) := by
  obtain ⟨gC1, gR1, r, h1, h2, hR1⟩ := hs gC gR (xs (x3 + 1).toNatClampNeg) hR
  refine lv_aload_n X.x X.bb dL_law_176 rfl (lv_at hl 2 rfl) ?_
  refine lv_aload_n X.x X.bb dL_law_177 rfl (lv_at hl 3 rfl) ?_
  refine lv_iload_n X.x X.bb dL_law_178 rfl (lv_at hl 0 rfl) ?_
  refine lv_iconst (v := 1) X.x X.bb dL_law_179 (by decide) ?_
  refine lv_iadd X.x X.bb dL_law_180 ?_
  refine va_sld X.x X.bb X.2.2.2.2.2.1 X.2.2.2.2.2.2.1 (Nat.not_le.mpr X.2.2.2.2.2.2.1) hW.2.2.1 (lw_in 1 hx3 (by omega) X.2.2.2.2.2.2.2.1 (by decide)) dL_law_181 ?_
  refine lw_callC (rv := some (.int r)) (As := [.int (xs (x3 + 1).toNatClampNeg)]) X hW (kX10_stand l (fun _ => trivial) h1) mv_X10_stand lkL_13 ⟨rfl, rfl⟩ ⟨Nat.le_of_ble_eq_true rfl, Nat.le_of_ble_eq_true rfl⟩ rfl rfl hl rfl (Nat.le_of_ble_eq_true rfl) dL_law_182 (fun H locs hW => ?_)
  refine lv_aload_n X.x X.bb dL_law_185 rfl (lv_at hl 1 rfl) ?_
  refine lv_aload_n X.x X.bb dL_law_186 rfl (lv_at hl 3 rfl) ?_
  refine lv_iload_n X.x X.bb dL_law_187 rfl (lv_at hl 0 rfl) ?_
  refine lv_iconst (v := 1) X.x X.bb dL_law_188 (by decide) ?_
  refine lv_iadd X.x X.bb dL_law_189 ?_
  refine va_sld X.x X.bb X.2.2.2.2.2.1 X.2.2.2.2.2.2.1 (Nat.not_le.mpr X.2.2.2.2.2.2.1) hW.2.2.1 (lw_in 1 hx3 (by omega) X.2.2.2.2.2.2.2.1 (by decide)) dL_law_190 ?_
  refine lw_callR (rv := some (.int r)) (As := [.int (xs (x3 + 1).toNatClampNeg)]) X hW (kX11_stand l (fun _ => trivial) h2) mv_X11_stand lkL_17 ⟨rfl, rfl⟩ ⟨Nat.le_of_ble_eq_true rfl, Nat.le_of_ble_eq_true rfl⟩ rfl rfl hl rfl (Nat.le_of_ble_eq_true rfl) dL_law_191 (fun H locs hW => ?_)
  refine lv_icmp_eq (tgt := 1283) X.x X.bb dL_law_194 (by decide) (fun _ => ?_) (fun z => absurd rfl z)
  exact kk gC1 gR1 H locs hR1 hW
set_option maxHeartbeats 4000000 in
set_option maxRecDepth 20000 in
theorem lw_c1 (X : Lw p l s m meth c b L xs kC kR) {i : Nat} {x3 : Int32} (hx3 : x3 = nI i) (hi : i + 6 ≤ L) {Rel : Mm → Mm → Prop} (hs : SH_set Rel) {gC gR : Mm} (hR : Rel gC gR) (hW : Wl kC kR gC gR s H locs) {ls : Array Slot} (hl : lv_has ls 4 [(3, .int x3), (2, .ref (kR.1 + adR 0 0 0)), (1, .ref (kC.1 + adC 0 0 0)), (0, .ref b)])
    (kk : ∀ (gC gR : Mm) (H : Heap) (locs : List Loc), Rel gC gR → Wl kC kR gC gR s H locs → W p l e room_1 s m #[Value.ref b] below meth c H locs 190 6824 Q (F0 m 1283 ls [])) : W p l e room_1 s m #[Value.ref b] below meth c H locs 190 6824 Q (F0 m 199 ls []) := by
  obtain ⟨gC1, gR1, r, h1, h2, hR1⟩ := hs gC gR (xs (x3 + 1).toNatClampNeg) (xs (x3 + 2).toNatClampNeg) hR
  refine lv_aload_n X.x X.bb dL_law_199 rfl (lv_at hl 2 rfl) ?_
  refine lv_aload_n X.x X.bb dL_law_200 rfl (lv_at hl 3 rfl) ?_
  refine lv_iload_n X.x X.bb dL_law_201 rfl (lv_at hl 0 rfl) ?_
  refine lv_iconst (v := 1) X.x X.bb dL_law_202 (by decide) ?_
  refine lv_iadd X.x X.bb dL_law_203 ?_
  refine va_sld X.x X.bb X.2.2.2.2.2.1 X.2.2.2.2.2.2.1 (Nat.not_le.mpr X.2.2.2.2.2.2.1) hW.2.2.1 (lw_in 1 hx3 (by omega) X.2.2.2.2.2.2.2.1 (by decide)) dL_law_204 ?_
  refine lv_aload_n X.x X.bb dL_law_205 rfl (lv_at hl 3 rfl) ?_
  refine lv_iload_n X.x X.bb dL_law_206 rfl (lv_at hl 0 rfl) ?_
  refine lv_iconst (v := 2) X.x X.bb dL_law_207 (by decide) ?_
  refine lv_iadd X.x X.bb dL_law_208 ?_
  refine va_sld X.x X.bb X.2.2.2.2.2.1 X.2.2.2.2.2.2.1 (Nat.not_le.mpr X.2.2.2.2.2.2.1) hW.2.2.1 (lw_in 2 hx3 (by omega) X.2.2.2.2.2.2.2.1 (by decide)) dL_law_209 ?_
  refine lw_callC (rv := some (.int r)) (As := [.int (xs (x3 + 1).toNatClampNeg), .int (xs (x3 + 2).toNatClampNeg)]) X hW (kX10_set l (fun _ => trivial) h1) mv_X10_set lkL_18 ⟨rfl, rfl⟩ ⟨Nat.le_of_ble_eq_true rfl, Nat.le_of_ble_eq_true rfl⟩ rfl rfl hl rfl (Nat.le_of_ble_eq_true rfl) dL_law_210 (fun H locs hW => ?_)
  refine lv_aload_n X.x X.bb dL_law_213 rfl (lv_at hl 1 rfl) ?_
  refine lv_aload_n X.x X.bb dL_law_214 rfl (lv_at hl 3 rfl) ?_
  refine lv_iload_n X.x X.bb dL_law_215 rfl (lv_at hl 0 rfl) ?_
  refine lv_iconst (v := 1) X.x X.bb dL_law_216 (by decide) ?_
  refine lv_iadd X.x X.bb dL_law_217 ?_
  refine va_sld X.x X.bb X.2.2.2.2.2.1 X.2.2.2.2.2.2.1 (Nat.not_le.mpr X.2.2.2.2.2.2.1) hW.2.2.1 (lw_in 1 hx3 (by omega) X.2.2.2.2.2.2.2.1 (by decide)) dL_law_218 ?_
  refine lv_aload_n X.x X.bb dL_law_219 rfl (lv_at hl 3 rfl) ?_
  refine lv_iload_n X.x X.bb dL_law_220 rfl (lv_at hl 0 rfl) ?_
  refine lv_iconst (v := 2) X.x X.bb dL_law_221 (by decide) ?_
  refine lv_iadd X.x X.bb dL_law_222 ?_
  refine va_sld X.x X.bb X.2.2.2.2.2.1 X.2.2.2.2.2.2.1 (Nat.not_le.mpr X.2.2.2.2.2.2.1) hW.2.2.1 (lw_in 2 hx3 (by omega) X.2.2.2.2.2.2.2.1 (by decide)) dL_law_223 ?_
  refine lw_callR (rv := some (.int r)) (As := [.int (xs (x3 + 1).toNatClampNeg), .int (xs (x3 + 2).toNatClampNeg)]) X hW (kX11_set l (fun _ => trivial) h2) mv_X11_set lkL_22 ⟨rfl, rfl⟩ ⟨Nat.le_of_ble_eq_true rfl, Nat.le_of_ble_eq_true rfl⟩ rfl rfl hl rfl (Nat.le_of_ble_eq_true rfl) dL_law_224 (fun H locs hW => ?_)
  refine lv_icmp_eq (tgt := 1283) X.x X.bb dL_law_227 (by decide) (fun _ => ?_) (fun z => absurd rfl z)
  exact kk gC1 gR1 H locs hR1 hW
set_option maxHeartbeats 4000000 in
set_option maxRecDepth 20000 in
theorem lw_c2 (X : Lw p l s m meth c b L xs kC kR) {i : Nat} {x3 : Int32} (hx3 : x3 = nI i) (hi : i + 6 ≤ L) {Rel : Mm → Mm → Prop} (hs : SH_visit Rel) {gC gR : Mm} (hR : Rel gC gR) (hW : Wl kC kR gC gR s H locs) {ls : Array Slot} (hl : lv_has ls 4 [(3, .int x3), (2, .ref (kR.1 + adR 0 0 0)), (1, .ref (kC.1 + adC 0 0 0)), (0, .ref b)])
    (kk : ∀ (gC gR : Mm) (H : Heap) (locs : List Loc), Rel gC gR → Wl kC kR gC gR s H locs → W p l e room_1 s m #[Value.ref b] below meth c H locs 190 6824 Q (F0 m 1283 ls [])) : W p l e room_1 s m #[Value.ref b] below meth c H locs 190 6824 Q (F0 m 232 ls []) := by
  obtain ⟨gC1, gR1, r, h1, h2, hR1⟩ := hs gC gR (xs (x3 + 1).toNatClampNeg) (xs (x3 + 2).toNatClampNeg) (xs (x3 + 3).toNatClampNeg) (xs (x3 + 4).toNatClampNeg) hR
  refine lv_aload_n X.x X.bb dL_law_232 rfl (lv_at hl 2 rfl) ?_
  refine lv_aload_n X.x X.bb dL_law_233 rfl (lv_at hl 3 rfl) ?_
  refine lv_iload_n X.x X.bb dL_law_234 rfl (lv_at hl 0 rfl) ?_
  refine lv_iconst (v := 1) X.x X.bb dL_law_235 (by decide) ?_
  refine lv_iadd X.x X.bb dL_law_236 ?_
  refine va_sld X.x X.bb X.2.2.2.2.2.1 X.2.2.2.2.2.2.1 (Nat.not_le.mpr X.2.2.2.2.2.2.1) hW.2.2.1 (lw_in 1 hx3 (by omega) X.2.2.2.2.2.2.2.1 (by decide)) dL_law_237 ?_
  refine lv_aload_n X.x X.bb dL_law_238 rfl (lv_at hl 3 rfl) ?_
  refine lv_iload_n X.x X.bb dL_law_239 rfl (lv_at hl 0 rfl) ?_
  refine lv_iconst (v := 2) X.x X.bb dL_law_240 (by decide) ?_
  refine lv_iadd X.x X.bb dL_law_241 ?_
  refine va_sld X.x X.bb X.2.2.2.2.2.1 X.2.2.2.2.2.2.1 (Nat.not_le.mpr X.2.2.2.2.2.2.1) hW.2.2.1 (lw_in 2 hx3 (by omega) X.2.2.2.2.2.2.2.1 (by decide)) dL_law_242 ?_
  refine lv_aload_n X.x X.bb dL_law_243 rfl (lv_at hl 3 rfl) ?_
  refine lv_iload_n X.x X.bb dL_law_244 rfl (lv_at hl 0 rfl) ?_
  refine lv_iconst (v := 3) X.x X.bb dL_law_245 (by decide) ?_
  refine lv_iadd X.x X.bb dL_law_246 ?_
  refine va_sld X.x X.bb X.2.2.2.2.2.1 X.2.2.2.2.2.2.1 (Nat.not_le.mpr X.2.2.2.2.2.2.1) hW.2.2.1 (lw_in 3 hx3 (by omega) X.2.2.2.2.2.2.2.1 (by decide)) dL_law_247 ?_
  refine lv_aload_n X.x X.bb dL_law_248 rfl (lv_at hl 3 rfl) ?_
  refine lv_iload_n X.x X.bb dL_law_249 rfl (lv_at hl 0 rfl) ?_
  refine lv_iconst (v := 4) X.x X.bb dL_law_250 (by decide) ?_
  refine lv_iadd X.x X.bb dL_law_251 ?_
  refine va_sld X.x X.bb X.2.2.2.2.2.1 X.2.2.2.2.2.2.1 (Nat.not_le.mpr X.2.2.2.2.2.2.1) hW.2.2.1 (lw_in 4 hx3 (by omega) X.2.2.2.2.2.2.2.1 (by decide)) dL_law_252 ?_
  refine lw_callC (rv := some (.int r)) (As := [.int (xs (x3 + 1).toNatClampNeg), .int (xs (x3 + 2).toNatClampNeg), .int (xs (x3 + 3).toNatClampNeg), .int (xs (x3 + 4).toNatClampNeg)]) X hW (kX10_visit l (fun _ => trivial) h1) mv_X10_visit lkL_23 ⟨rfl, rfl⟩ ⟨Nat.le_of_ble_eq_true rfl, Nat.le_of_ble_eq_true rfl⟩ rfl rfl hl rfl (Nat.le_of_ble_eq_true rfl) dL_law_253 (fun H locs hW => ?_)
  refine lv_aload_n X.x X.bb dL_law_256 rfl (lv_at hl 1 rfl) ?_
  refine lv_aload_n X.x X.bb dL_law_257 rfl (lv_at hl 3 rfl) ?_
  refine lv_iload_n X.x X.bb dL_law_258 rfl (lv_at hl 0 rfl) ?_
  refine lv_iconst (v := 1) X.x X.bb dL_law_259 (by decide) ?_
  refine lv_iadd X.x X.bb dL_law_260 ?_
  refine va_sld X.x X.bb X.2.2.2.2.2.1 X.2.2.2.2.2.2.1 (Nat.not_le.mpr X.2.2.2.2.2.2.1) hW.2.2.1 (lw_in 1 hx3 (by omega) X.2.2.2.2.2.2.2.1 (by decide)) dL_law_261 ?_
  refine lv_aload_n X.x X.bb dL_law_262 rfl (lv_at hl 3 rfl) ?_
  refine lv_iload_n X.x X.bb dL_law_263 rfl (lv_at hl 0 rfl) ?_
  refine lv_iconst (v := 2) X.x X.bb dL_law_264 (by decide) ?_
  refine lv_iadd X.x X.bb dL_law_265 ?_
  refine va_sld X.x X.bb X.2.2.2.2.2.1 X.2.2.2.2.2.2.1 (Nat.not_le.mpr X.2.2.2.2.2.2.1) hW.2.2.1 (lw_in 2 hx3 (by omega) X.2.2.2.2.2.2.2.1 (by decide)) dL_law_266 ?_
  refine lv_aload_n X.x X.bb dL_law_267 rfl (lv_at hl 3 rfl) ?_
  refine lv_iload_n X.x X.bb dL_law_268 rfl (lv_at hl 0 rfl) ?_
  refine lv_iconst (v := 3) X.x X.bb dL_law_269 (by decide) ?_
  refine lv_iadd X.x X.bb dL_law_270 ?_
  refine va_sld X.x X.bb X.2.2.2.2.2.1 X.2.2.2.2.2.2.1 (Nat.not_le.mpr X.2.2.2.2.2.2.1) hW.2.2.1 (lw_in 3 hx3 (by omega) X.2.2.2.2.2.2.2.1 (by decide)) dL_law_271 ?_
  refine lv_aload_n X.x X.bb dL_law_272 rfl (lv_at hl 3 rfl) ?_
  refine lv_iload_n X.x X.bb dL_law_273 rfl (lv_at hl 0 rfl) ?_
  refine lv_iconst (v := 4) X.x X.bb dL_law_274 (by decide) ?_
  refine lv_iadd X.x X.bb dL_law_275 ?_
  refine va_sld X.x X.bb X.2.2.2.2.2.1 X.2.2.2.2.2.2.1 (Nat.not_le.mpr X.2.2.2.2.2.2.1) hW.2.2.1 (lw_in 4 hx3 (by omega) X.2.2.2.2.2.2.2.1 (by decide)) dL_law_276 ?_
  refine lw_callR (rv := some (.int r)) (As := [.int (xs (x3 + 1).toNatClampNeg), .int (xs (x3 + 2).toNatClampNeg), .int (xs (x3 + 3).toNatClampNeg), .int (xs (x3 + 4).toNatClampNeg)]) X hW (kX11_visit l (fun _ => trivial) h2) mv_X11_visit lkL_27 ⟨rfl, rfl⟩ ⟨Nat.le_of_ble_eq_true rfl, Nat.le_of_ble_eq_true rfl⟩ rfl rfl hl rfl (Nat.le_of_ble_eq_true rfl) dL_law_277 (fun H locs hW => ?_)
  refine lv_icmp_eq (tgt := 1283) X.x X.bb dL_law_280 (by decide) (fun _ => ?_) (fun z => absurd rfl z)
  exact kk gC1 gR1 H locs hR1 hW
set_option maxHeartbeats 4000000 in
set_option maxRecDepth 20000 in
theorem lw_c3 (X : Lw p l s m meth c b L xs kC kR) {i : Nat} {x3 : Int32} (hx3 : x3 = nI i) (hi : i + 6 ≤ L) {Rel : Mm → Mm → Prop} (hs : SH_late Rel) {gC gR : Mm} (hR : Rel gC gR) (hW : Wl kC kR gC gR s H locs) {ls : Array Slot} (hl : lv_has ls 4 [(3, .int x3), (2, .ref (kR.1 + adR 0 0 0)), (1, .ref (kC.1 + adC 0 0 0)), (0, .ref b)])
    (kk : ∀ (gC gR : Mm) (H : Heap) (locs : List Loc), Rel gC gR → Wl kC kR gC gR s H locs → W p l e room_1 s m #[Value.ref b] below meth c H locs 190 6824 Q (F0 m 1283 ls [])) : W p l e room_1 s m #[Value.ref b] below meth c H locs 190 6824 Q (F0 m 285 ls []) := by
  obtain ⟨gC1, gR1, r, h1, h2, hR1⟩ := hs gC gR (xs (x3 + 1).toNatClampNeg) (xs (x3 + 2).toNatClampNeg) hR
  refine lv_aload_n X.x X.bb dL_law_285 rfl (lv_at hl 2 rfl) ?_
  refine lv_aload_n X.x X.bb dL_law_286 rfl (lv_at hl 3 rfl) ?_
  refine lv_iload_n X.x X.bb dL_law_287 rfl (lv_at hl 0 rfl) ?_
  refine lv_iconst (v := 1) X.x X.bb dL_law_288 (by decide) ?_
  refine lv_iadd X.x X.bb dL_law_289 ?_
  refine va_sld X.x X.bb X.2.2.2.2.2.1 X.2.2.2.2.2.2.1 (Nat.not_le.mpr X.2.2.2.2.2.2.1) hW.2.2.1 (lw_in 1 hx3 (by omega) X.2.2.2.2.2.2.2.1 (by decide)) dL_law_290 ?_
  refine lv_aload_n X.x X.bb dL_law_291 rfl (lv_at hl 3 rfl) ?_
  refine lv_iload_n X.x X.bb dL_law_292 rfl (lv_at hl 0 rfl) ?_
  refine lv_iconst (v := 2) X.x X.bb dL_law_293 (by decide) ?_
  refine lv_iadd X.x X.bb dL_law_294 ?_
  refine va_sld X.x X.bb X.2.2.2.2.2.1 X.2.2.2.2.2.2.1 (Nat.not_le.mpr X.2.2.2.2.2.2.1) hW.2.2.1 (lw_in 2 hx3 (by omega) X.2.2.2.2.2.2.2.1 (by decide)) dL_law_295 ?_
  refine lw_callC (rv := some (.int r)) (As := [.int (xs (x3 + 1).toNatClampNeg), .int (xs (x3 + 2).toNatClampNeg)]) X hW (kX10_late l (fun _ => trivial) h1) mv_X10_late lkL_28 ⟨rfl, rfl⟩ ⟨Nat.le_of_ble_eq_true rfl, Nat.le_of_ble_eq_true rfl⟩ rfl rfl hl rfl (Nat.le_of_ble_eq_true rfl) dL_law_296 (fun H locs hW => ?_)
  refine lv_aload_n X.x X.bb dL_law_299 rfl (lv_at hl 1 rfl) ?_
  refine lv_aload_n X.x X.bb dL_law_300 rfl (lv_at hl 3 rfl) ?_
  refine lv_iload_n X.x X.bb dL_law_301 rfl (lv_at hl 0 rfl) ?_
  refine lv_iconst (v := 1) X.x X.bb dL_law_302 (by decide) ?_
  refine lv_iadd X.x X.bb dL_law_303 ?_
  refine va_sld X.x X.bb X.2.2.2.2.2.1 X.2.2.2.2.2.2.1 (Nat.not_le.mpr X.2.2.2.2.2.2.1) hW.2.2.1 (lw_in 1 hx3 (by omega) X.2.2.2.2.2.2.2.1 (by decide)) dL_law_304 ?_
  refine lv_aload_n X.x X.bb dL_law_305 rfl (lv_at hl 3 rfl) ?_
  refine lv_iload_n X.x X.bb dL_law_306 rfl (lv_at hl 0 rfl) ?_
  refine lv_iconst (v := 2) X.x X.bb dL_law_307 (by decide) ?_
  refine lv_iadd X.x X.bb dL_law_308 ?_
  refine va_sld X.x X.bb X.2.2.2.2.2.1 X.2.2.2.2.2.2.1 (Nat.not_le.mpr X.2.2.2.2.2.2.1) hW.2.2.1 (lw_in 2 hx3 (by omega) X.2.2.2.2.2.2.2.1 (by decide)) dL_law_309 ?_
  refine lw_callR (rv := some (.int r)) (As := [.int (xs (x3 + 1).toNatClampNeg), .int (xs (x3 + 2).toNatClampNeg)]) X hW (kX11_late l (fun _ => trivial) h2) mv_X11_late lkL_31 ⟨rfl, rfl⟩ ⟨Nat.le_of_ble_eq_true rfl, Nat.le_of_ble_eq_true rfl⟩ rfl rfl hl rfl (Nat.le_of_ble_eq_true rfl) dL_law_310 (fun H locs hW => ?_)
  refine lv_icmp_eq (tgt := 1283) X.x X.bb dL_law_313 (by decide) (fun _ => ?_) (fun z => absurd rfl z)
  exact kk gC1 gR1 H locs hR1 hW
set_option maxHeartbeats 4000000 in
set_option maxRecDepth 20000 in
theorem lw_c4 (X : Lw p l s m meth c b L xs kC kR) {i : Nat} {x3 : Int32} (hx3 : x3 = nI i) (hi : i + 6 ≤ L) {Rel : Mm → Mm → Prop} (hs : SH_wish Rel) {gC gR : Mm} (hR : Rel gC gR) (hW : Wl kC kR gC gR s H locs) {ls : Array Slot} (hl : lv_has ls 4 [(3, .int x3), (2, .ref (kR.1 + adR 0 0 0)), (1, .ref (kC.1 + adC 0 0 0)), (0, .ref b)])
    (kk : ∀ (gC gR : Mm) (H : Heap) (locs : List Loc), Rel gC gR → Wl kC kR gC gR s H locs → W p l e room_1 s m #[Value.ref b] below meth c H locs 190 6824 Q (F0 m 1283 ls [])) : W p l e room_1 s m #[Value.ref b] below meth c H locs 190 6824 Q (F0 m 318 ls []) := by
  obtain ⟨gC1, gR1, r, h1, h2, hR1⟩ := hs gC gR (xs (x3 + 1).toNatClampNeg) (xs (x3 + 2).toNatClampNeg) hR
  refine lv_aload_n X.x X.bb dL_law_318 rfl (lv_at hl 2 rfl) ?_
  refine lv_aload_n X.x X.bb dL_law_319 rfl (lv_at hl 3 rfl) ?_
  refine lv_iload_n X.x X.bb dL_law_320 rfl (lv_at hl 0 rfl) ?_
  refine lv_iconst (v := 1) X.x X.bb dL_law_321 (by decide) ?_
  refine lv_iadd X.x X.bb dL_law_322 ?_
  refine va_sld X.x X.bb X.2.2.2.2.2.1 X.2.2.2.2.2.2.1 (Nat.not_le.mpr X.2.2.2.2.2.2.1) hW.2.2.1 (lw_in 1 hx3 (by omega) X.2.2.2.2.2.2.2.1 (by decide)) dL_law_323 ?_
  refine lv_aload_n X.x X.bb dL_law_324 rfl (lv_at hl 3 rfl) ?_
  refine lv_iload_n X.x X.bb dL_law_325 rfl (lv_at hl 0 rfl) ?_
  refine lv_iconst (v := 2) X.x X.bb dL_law_326 (by decide) ?_
  refine lv_iadd X.x X.bb dL_law_327 ?_
  refine va_sld X.x X.bb X.2.2.2.2.2.1 X.2.2.2.2.2.2.1 (Nat.not_le.mpr X.2.2.2.2.2.2.1) hW.2.2.1 (lw_in 2 hx3 (by omega) X.2.2.2.2.2.2.2.1 (by decide)) dL_law_328 ?_
  refine lw_callC (rv := some (.int r)) (As := [.int (xs (x3 + 1).toNatClampNeg), .int (xs (x3 + 2).toNatClampNeg)]) X hW (kX10_wish l (fun _ => trivial) h1) mv_X10_wish lkL_32 ⟨rfl, rfl⟩ ⟨Nat.le_of_ble_eq_true rfl, Nat.le_of_ble_eq_true rfl⟩ rfl rfl hl rfl (Nat.le_of_ble_eq_true rfl) dL_law_329 (fun H locs hW => ?_)
  refine lv_aload_n X.x X.bb dL_law_332 rfl (lv_at hl 1 rfl) ?_
  refine lv_aload_n X.x X.bb dL_law_333 rfl (lv_at hl 3 rfl) ?_
  refine lv_iload_n X.x X.bb dL_law_334 rfl (lv_at hl 0 rfl) ?_
  refine lv_iconst (v := 1) X.x X.bb dL_law_335 (by decide) ?_
  refine lv_iadd X.x X.bb dL_law_336 ?_
  refine va_sld X.x X.bb X.2.2.2.2.2.1 X.2.2.2.2.2.2.1 (Nat.not_le.mpr X.2.2.2.2.2.2.1) hW.2.2.1 (lw_in 1 hx3 (by omega) X.2.2.2.2.2.2.2.1 (by decide)) dL_law_337 ?_
  refine lv_aload_n X.x X.bb dL_law_338 rfl (lv_at hl 3 rfl) ?_
  refine lv_iload_n X.x X.bb dL_law_339 rfl (lv_at hl 0 rfl) ?_
  refine lv_iconst (v := 2) X.x X.bb dL_law_340 (by decide) ?_
  refine lv_iadd X.x X.bb dL_law_341 ?_
  refine va_sld X.x X.bb X.2.2.2.2.2.1 X.2.2.2.2.2.2.1 (Nat.not_le.mpr X.2.2.2.2.2.2.1) hW.2.2.1 (lw_in 2 hx3 (by omega) X.2.2.2.2.2.2.2.1 (by decide)) dL_law_342 ?_
  refine lw_callR (rv := some (.int r)) (As := [.int (xs (x3 + 1).toNatClampNeg), .int (xs (x3 + 2).toNatClampNeg)]) X hW (kX11_wish l (fun _ => trivial) h2) mv_X11_wish lkL_35 ⟨rfl, rfl⟩ ⟨Nat.le_of_ble_eq_true rfl, Nat.le_of_ble_eq_true rfl⟩ rfl rfl hl rfl (Nat.le_of_ble_eq_true rfl) dL_law_343 (fun H locs hW => ?_)
  refine lv_icmp_eq (tgt := 1283) X.x X.bb dL_law_346 (by decide) (fun _ => ?_) (fun z => absurd rfl z)
  exact kk gC1 gR1 H locs hR1 hW
set_option maxHeartbeats 4000000 in
set_option maxRecDepth 20000 in
theorem lw_c5 (X : Lw p l s m meth c b L xs kC kR) {i : Nat} {x3 : Int32} (hx3 : x3 = nI i) (hi : i + 6 ≤ L) {Rel : Mm → Mm → Prop} (hs : SH_feed Rel) {gC gR : Mm} (hR : Rel gC gR) (hW : Wl kC kR gC gR s H locs) {ls : Array Slot} (hl : lv_has ls 4 [(3, .int x3), (2, .ref (kR.1 + adR 0 0 0)), (1, .ref (kC.1 + adC 0 0 0)), (0, .ref b)])
    (kk : ∀ (gC gR : Mm) (H : Heap) (locs : List Loc), Rel gC gR → Wl kC kR gC gR s H locs → W p l e room_1 s m #[Value.ref b] below meth c H locs 190 6824 Q (F0 m 1283 ls [])) : W p l e room_1 s m #[Value.ref b] below meth c H locs 190 6824 Q (F0 m 351 ls []) := by
  obtain ⟨gC1, gR1, r, h1, h2, hR1⟩ := hs gC gR (xs (x3 + 1).toNatClampNeg) (xs (x3 + 2).toNatClampNeg) (xs (x3 + 3).toNatClampNeg) (xs (x3 + 4).toNatClampNeg) hR
  refine lv_aload_n X.x X.bb dL_law_351 rfl (lv_at hl 2 rfl) ?_
  refine lv_aload_n X.x X.bb dL_law_352 rfl (lv_at hl 3 rfl) ?_
  refine lv_iload_n X.x X.bb dL_law_353 rfl (lv_at hl 0 rfl) ?_
  refine lv_iconst (v := 1) X.x X.bb dL_law_354 (by decide) ?_
  refine lv_iadd X.x X.bb dL_law_355 ?_
  refine va_sld X.x X.bb X.2.2.2.2.2.1 X.2.2.2.2.2.2.1 (Nat.not_le.mpr X.2.2.2.2.2.2.1) hW.2.2.1 (lw_in 1 hx3 (by omega) X.2.2.2.2.2.2.2.1 (by decide)) dL_law_356 ?_
  refine lv_aload_n X.x X.bb dL_law_357 rfl (lv_at hl 3 rfl) ?_
  refine lv_iload_n X.x X.bb dL_law_358 rfl (lv_at hl 0 rfl) ?_
  refine lv_iconst (v := 2) X.x X.bb dL_law_359 (by decide) ?_
  refine lv_iadd X.x X.bb dL_law_360 ?_
  refine va_sld X.x X.bb X.2.2.2.2.2.1 X.2.2.2.2.2.2.1 (Nat.not_le.mpr X.2.2.2.2.2.2.1) hW.2.2.1 (lw_in 2 hx3 (by omega) X.2.2.2.2.2.2.2.1 (by decide)) dL_law_361 ?_
  refine lv_aload_n X.x X.bb dL_law_362 rfl (lv_at hl 3 rfl) ?_
  refine lv_iload_n X.x X.bb dL_law_363 rfl (lv_at hl 0 rfl) ?_
  refine lv_iconst (v := 3) X.x X.bb dL_law_364 (by decide) ?_
  refine lv_iadd X.x X.bb dL_law_365 ?_
  refine va_sld X.x X.bb X.2.2.2.2.2.1 X.2.2.2.2.2.2.1 (Nat.not_le.mpr X.2.2.2.2.2.2.1) hW.2.2.1 (lw_in 3 hx3 (by omega) X.2.2.2.2.2.2.2.1 (by decide)) dL_law_366 ?_
  refine lv_aload_n X.x X.bb dL_law_367 rfl (lv_at hl 3 rfl) ?_
  refine lv_iload_n X.x X.bb dL_law_368 rfl (lv_at hl 0 rfl) ?_
  refine lv_iconst (v := 4) X.x X.bb dL_law_369 (by decide) ?_
  refine lv_iadd X.x X.bb dL_law_370 ?_
  refine va_sld X.x X.bb X.2.2.2.2.2.1 X.2.2.2.2.2.2.1 (Nat.not_le.mpr X.2.2.2.2.2.2.1) hW.2.2.1 (lw_in 4 hx3 (by omega) X.2.2.2.2.2.2.2.1 (by decide)) dL_law_371 ?_
  refine lw_callC (rv := some (.int r)) (As := [.int (xs (x3 + 1).toNatClampNeg), .int (xs (x3 + 2).toNatClampNeg), .int (xs (x3 + 3).toNatClampNeg), .int (xs (x3 + 4).toNatClampNeg)]) X hW (kX10_feed l (fun _ => trivial) h1) mv_X10_feed lkL_36 ⟨rfl, rfl⟩ ⟨Nat.le_of_ble_eq_true rfl, Nat.le_of_ble_eq_true rfl⟩ rfl rfl hl rfl (Nat.le_of_ble_eq_true rfl) dL_law_372 (fun H locs hW => ?_)
  refine lv_aload_n X.x X.bb dL_law_375 rfl (lv_at hl 1 rfl) ?_
  refine lv_aload_n X.x X.bb dL_law_376 rfl (lv_at hl 3 rfl) ?_
  refine lv_iload_n X.x X.bb dL_law_377 rfl (lv_at hl 0 rfl) ?_
  refine lv_iconst (v := 1) X.x X.bb dL_law_378 (by decide) ?_
  refine lv_iadd X.x X.bb dL_law_379 ?_
  refine va_sld X.x X.bb X.2.2.2.2.2.1 X.2.2.2.2.2.2.1 (Nat.not_le.mpr X.2.2.2.2.2.2.1) hW.2.2.1 (lw_in 1 hx3 (by omega) X.2.2.2.2.2.2.2.1 (by decide)) dL_law_380 ?_
  refine lv_aload_n X.x X.bb dL_law_381 rfl (lv_at hl 3 rfl) ?_
  refine lv_iload_n X.x X.bb dL_law_382 rfl (lv_at hl 0 rfl) ?_
  refine lv_iconst (v := 2) X.x X.bb dL_law_383 (by decide) ?_
  refine lv_iadd X.x X.bb dL_law_384 ?_
  refine va_sld X.x X.bb X.2.2.2.2.2.1 X.2.2.2.2.2.2.1 (Nat.not_le.mpr X.2.2.2.2.2.2.1) hW.2.2.1 (lw_in 2 hx3 (by omega) X.2.2.2.2.2.2.2.1 (by decide)) dL_law_385 ?_
  refine lv_aload_n X.x X.bb dL_law_386 rfl (lv_at hl 3 rfl) ?_
  refine lv_iload_n X.x X.bb dL_law_387 rfl (lv_at hl 0 rfl) ?_
  refine lv_iconst (v := 3) X.x X.bb dL_law_388 (by decide) ?_
  refine lv_iadd X.x X.bb dL_law_389 ?_
  refine va_sld X.x X.bb X.2.2.2.2.2.1 X.2.2.2.2.2.2.1 (Nat.not_le.mpr X.2.2.2.2.2.2.1) hW.2.2.1 (lw_in 3 hx3 (by omega) X.2.2.2.2.2.2.2.1 (by decide)) dL_law_390 ?_
  refine lv_aload_n X.x X.bb dL_law_391 rfl (lv_at hl 3 rfl) ?_
  refine lv_iload_n X.x X.bb dL_law_392 rfl (lv_at hl 0 rfl) ?_
  refine lv_iconst (v := 4) X.x X.bb dL_law_393 (by decide) ?_
  refine lv_iadd X.x X.bb dL_law_394 ?_
  refine va_sld X.x X.bb X.2.2.2.2.2.1 X.2.2.2.2.2.2.1 (Nat.not_le.mpr X.2.2.2.2.2.2.1) hW.2.2.1 (lw_in 4 hx3 (by omega) X.2.2.2.2.2.2.2.1 (by decide)) dL_law_395 ?_
  refine lw_callR (rv := some (.int r)) (As := [.int (xs (x3 + 1).toNatClampNeg), .int (xs (x3 + 2).toNatClampNeg), .int (xs (x3 + 3).toNatClampNeg), .int (xs (x3 + 4).toNatClampNeg)]) X hW (kX11_feed l (fun _ => trivial) h2) mv_X11_feed lkL_39 ⟨rfl, rfl⟩ ⟨Nat.le_of_ble_eq_true rfl, Nat.le_of_ble_eq_true rfl⟩ rfl rfl hl rfl (Nat.le_of_ble_eq_true rfl) dL_law_396 (fun H locs hW => ?_)
  refine lv_icmp_eq (tgt := 1283) X.x X.bb dL_law_399 (by decide) (fun _ => ?_) (fun z => absurd rfl z)
  exact kk gC1 gR1 H locs hR1 hW
set_option maxHeartbeats 4000000 in
set_option maxRecDepth 20000 in
theorem lw_c6 (X : Lw p l s m meth c b L xs kC kR) {i : Nat} {x3 : Int32} (hx3 : x3 = nI i) (hi : i + 6 ≤ L) {Rel : Mm → Mm → Prop} (hs : SH_run Rel) {gC gR : Mm} (hR : Rel gC gR) (hW : Wl kC kR gC gR s H locs) {ls : Array Slot} (hl : lv_has ls 4 [(3, .int x3), (2, .ref (kR.1 + adR 0 0 0)), (1, .ref (kC.1 + adC 0 0 0)), (0, .ref b)])
    (kk : ∀ (gC gR : Mm) (H : Heap) (locs : List Loc), Rel gC gR → Wl kC kR gC gR s H locs → W p l e room_1 s m #[Value.ref b] below meth c H locs 190 6824 Q (F0 m 1283 ls [])) : W p l e room_1 s m #[Value.ref b] below meth c H locs 190 6824 Q (F0 m 404 ls []) := by
  obtain ⟨gC1, gR1, r, h1, h2, hR1⟩ := hs gC gR (xs (x3 + 1).toNatClampNeg) hR
  refine lv_aload_n X.x X.bb dL_law_404 rfl (lv_at hl 2 rfl) ?_
  refine lv_aload_n X.x X.bb dL_law_405 rfl (lv_at hl 3 rfl) ?_
  refine lv_iload_n X.x X.bb dL_law_406 rfl (lv_at hl 0 rfl) ?_
  refine lv_iconst (v := 1) X.x X.bb dL_law_407 (by decide) ?_
  refine lv_iadd X.x X.bb dL_law_408 ?_
  refine va_sld X.x X.bb X.2.2.2.2.2.1 X.2.2.2.2.2.2.1 (Nat.not_le.mpr X.2.2.2.2.2.2.1) hW.2.2.1 (lw_in 1 hx3 (by omega) X.2.2.2.2.2.2.2.1 (by decide)) dL_law_409 ?_
  refine lw_callC (rv := some (.int r)) (As := [.int (xs (x3 + 1).toNatClampNeg)]) X hW (kX10_run l (fun _ => trivial) h1) mv_X10_run lkL_40 ⟨rfl, rfl⟩ ⟨Nat.le_of_ble_eq_true rfl, Nat.le_of_ble_eq_true rfl⟩ rfl rfl hl rfl (Nat.le_of_ble_eq_true rfl) dL_law_410 (fun H locs hW => ?_)
  refine lv_aload_n X.x X.bb dL_law_413 rfl (lv_at hl 1 rfl) ?_
  refine lv_aload_n X.x X.bb dL_law_414 rfl (lv_at hl 3 rfl) ?_
  refine lv_iload_n X.x X.bb dL_law_415 rfl (lv_at hl 0 rfl) ?_
  refine lv_iconst (v := 1) X.x X.bb dL_law_416 (by decide) ?_
  refine lv_iadd X.x X.bb dL_law_417 ?_
  refine va_sld X.x X.bb X.2.2.2.2.2.1 X.2.2.2.2.2.2.1 (Nat.not_le.mpr X.2.2.2.2.2.2.1) hW.2.2.1 (lw_in 1 hx3 (by omega) X.2.2.2.2.2.2.2.1 (by decide)) dL_law_418 ?_
  refine lw_callR (rv := some (.int r)) (As := [.int (xs (x3 + 1).toNatClampNeg)]) X hW (kX11_run l (fun _ => trivial) h2) mv_X11_run lkL_43 ⟨rfl, rfl⟩ ⟨Nat.le_of_ble_eq_true rfl, Nat.le_of_ble_eq_true rfl⟩ rfl rfl hl rfl (Nat.le_of_ble_eq_true rfl) dL_law_419 (fun H locs hW => ?_)
  refine lv_icmp_eq (tgt := 1283) X.x X.bb dL_law_422 (by decide) (fun _ => ?_) (fun z => absurd rfl z)
  exact kk gC1 gR1 H locs hR1 hW
set_option maxHeartbeats 4000000 in
set_option maxRecDepth 20000 in
theorem lw_c7 (X : Lw p l s m meth c b L xs kC kR) {i : Nat} {x3 : Int32} (hx3 : x3 = nI i) (hi : i + 6 ≤ L) {Rel : Mm → Mm → Prop} (hs : SH_visitTold Rel) {gC gR : Mm} (hR : Rel gC gR) (hW : Wl kC kR gC gR s H locs) {ls : Array Slot} (hl : lv_has ls 4 [(3, .int x3), (2, .ref (kR.1 + adR 0 0 0)), (1, .ref (kC.1 + adC 0 0 0)), (0, .ref b)])
    (kk : ∀ (gC gR : Mm) (H : Heap) (locs : List Loc), Rel gC gR → Wl kC kR gC gR s H locs → W p l e room_1 s m #[Value.ref b] below meth c H locs 190 6824 Q (F0 m 1283 ls [])) : W p l e room_1 s m #[Value.ref b] below meth c H locs 190 6824 Q (F0 m 427 ls []) := by
  obtain ⟨gC1, gR1, r, h1, h2, hR1⟩ := hs gC gR (xs (x3 + 1).toNatClampNeg) (xs (x3 + 2).toNatClampNeg) hR
  obtain ⟨h1, hg1⟩ := h1; subst hg1
  obtain ⟨h2, hg2⟩ := h2; subst hg2
  refine lv_aload_n X.x X.bb dL_law_427 rfl (lv_at hl 2 rfl) ?_
  refine lv_aload_n X.x X.bb dL_law_428 rfl (lv_at hl 3 rfl) ?_
  refine lv_iload_n X.x X.bb dL_law_429 rfl (lv_at hl 0 rfl) ?_
  refine lv_iconst (v := 1) X.x X.bb dL_law_430 (by decide) ?_
  refine lv_iadd X.x X.bb dL_law_431 ?_
  refine va_sld X.x X.bb X.2.2.2.2.2.1 X.2.2.2.2.2.2.1 (Nat.not_le.mpr X.2.2.2.2.2.2.1) hW.2.2.1 (lw_in 1 hx3 (by omega) X.2.2.2.2.2.2.2.1 (by decide)) dL_law_432 ?_
  refine lv_aload_n X.x X.bb dL_law_433 rfl (lv_at hl 3 rfl) ?_
  refine lv_iload_n X.x X.bb dL_law_434 rfl (lv_at hl 0 rfl) ?_
  refine lv_iconst (v := 2) X.x X.bb dL_law_435 (by decide) ?_
  refine lv_iadd X.x X.bb dL_law_436 ?_
  refine va_sld X.x X.bb X.2.2.2.2.2.1 X.2.2.2.2.2.2.1 (Nat.not_le.mpr X.2.2.2.2.2.2.1) hW.2.2.1 (lw_in 2 hx3 (by omega) X.2.2.2.2.2.2.2.1 (by decide)) dL_law_437 ?_
  refine lw_callC (rv := some (.int r)) (As := [.int (xs (x3 + 1).toNatClampNeg), .int (xs (x3 + 2).toNatClampNeg)]) X hW (kX10_visitTold l (fun _ => trivial) h1) mv_X10_visitTold lkL_44 ⟨rfl, rfl⟩ ⟨Nat.le_of_ble_eq_true rfl, Nat.le_of_ble_eq_true rfl⟩ rfl rfl hl rfl (Nat.le_of_ble_eq_true rfl) dL_law_438 (fun H locs hW => ?_)
  refine lv_aload_n X.x X.bb dL_law_441 rfl (lv_at hl 1 rfl) ?_
  refine lv_aload_n X.x X.bb dL_law_442 rfl (lv_at hl 3 rfl) ?_
  refine lv_iload_n X.x X.bb dL_law_443 rfl (lv_at hl 0 rfl) ?_
  refine lv_iconst (v := 1) X.x X.bb dL_law_444 (by decide) ?_
  refine lv_iadd X.x X.bb dL_law_445 ?_
  refine va_sld X.x X.bb X.2.2.2.2.2.1 X.2.2.2.2.2.2.1 (Nat.not_le.mpr X.2.2.2.2.2.2.1) hW.2.2.1 (lw_in 1 hx3 (by omega) X.2.2.2.2.2.2.2.1 (by decide)) dL_law_446 ?_
  refine lv_aload_n X.x X.bb dL_law_447 rfl (lv_at hl 3 rfl) ?_
  refine lv_iload_n X.x X.bb dL_law_448 rfl (lv_at hl 0 rfl) ?_
  refine lv_iconst (v := 2) X.x X.bb dL_law_449 (by decide) ?_
  refine lv_iadd X.x X.bb dL_law_450 ?_
  refine va_sld X.x X.bb X.2.2.2.2.2.1 X.2.2.2.2.2.2.1 (Nat.not_le.mpr X.2.2.2.2.2.2.1) hW.2.2.1 (lw_in 2 hx3 (by omega) X.2.2.2.2.2.2.2.1 (by decide)) dL_law_451 ?_
  refine lw_callR (rv := some (.int r)) (As := [.int (xs (x3 + 1).toNatClampNeg), .int (xs (x3 + 2).toNatClampNeg)]) X hW (kX11_visitTold l (fun _ => trivial) h2) mv_X11_visitTold lkL_47 ⟨rfl, rfl⟩ ⟨Nat.le_of_ble_eq_true rfl, Nat.le_of_ble_eq_true rfl⟩ rfl rfl hl rfl (Nat.le_of_ble_eq_true rfl) dL_law_452 (fun H locs hW => ?_)
  refine lv_icmp_eq (tgt := 1283) X.x X.bb dL_law_455 (by decide) (fun _ => ?_) (fun z => absurd rfl z)
  exact kk gC1 gR1 H locs hR1 hW
set_option maxHeartbeats 4000000 in
set_option maxRecDepth 20000 in
theorem lw_c8 (X : Lw p l s m meth c b L xs kC kR) {i : Nat} {x3 : Int32} (hx3 : x3 = nI i) (hi : i + 6 ≤ L) {Rel : Mm → Mm → Prop} (hs : SH_cause Rel) {gC gR : Mm} (hR : Rel gC gR) (hW : Wl kC kR gC gR s H locs) {ls : Array Slot} (hl : lv_has ls 4 [(3, .int x3), (2, .ref (kR.1 + adR 0 0 0)), (1, .ref (kC.1 + adC 0 0 0)), (0, .ref b)])
    (kk : ∀ (gC gR : Mm) (H : Heap) (locs : List Loc), Rel gC gR → Wl kC kR gC gR s H locs → W p l e room_1 s m #[Value.ref b] below meth c H locs 190 6824 Q (F0 m 1283 ls [])) : W p l e room_1 s m #[Value.ref b] below meth c H locs 190 6824 Q (F0 m 460 ls []) := by
  obtain ⟨gC1, gR1, r, h1, h2, hR1⟩ := hs gC gR (xs (x3 + 1).toNatClampNeg) (xs (x3 + 2).toNatClampNeg) hR
  obtain ⟨h1, hg1⟩ := h1; subst hg1
  obtain ⟨h2, hg2⟩ := h2; subst hg2
  refine lv_aload_n X.x X.bb dL_law_460 rfl (lv_at hl 2 rfl) ?_
  refine lv_aload_n X.x X.bb dL_law_461 rfl (lv_at hl 3 rfl) ?_
  refine lv_iload_n X.x X.bb dL_law_462 rfl (lv_at hl 0 rfl) ?_
  refine lv_iconst (v := 1) X.x X.bb dL_law_463 (by decide) ?_
  refine lv_iadd X.x X.bb dL_law_464 ?_
  refine va_sld X.x X.bb X.2.2.2.2.2.1 X.2.2.2.2.2.2.1 (Nat.not_le.mpr X.2.2.2.2.2.2.1) hW.2.2.1 (lw_in 1 hx3 (by omega) X.2.2.2.2.2.2.2.1 (by decide)) dL_law_465 ?_
  refine lv_aload_n X.x X.bb dL_law_466 rfl (lv_at hl 3 rfl) ?_
  refine lv_iload_n X.x X.bb dL_law_467 rfl (lv_at hl 0 rfl) ?_
  refine lv_iconst (v := 2) X.x X.bb dL_law_468 (by decide) ?_
  refine lv_iadd X.x X.bb dL_law_469 ?_
  refine va_sld X.x X.bb X.2.2.2.2.2.1 X.2.2.2.2.2.2.1 (Nat.not_le.mpr X.2.2.2.2.2.2.1) hW.2.2.1 (lw_in 2 hx3 (by omega) X.2.2.2.2.2.2.2.1 (by decide)) dL_law_470 ?_
  refine lw_callC (rv := some (.int r)) (As := [.int (xs (x3 + 1).toNatClampNeg), .int (xs (x3 + 2).toNatClampNeg)]) X hW (kX10_cause l (fun _ => trivial) h1) mv_X10_cause lkL_48 ⟨rfl, rfl⟩ ⟨Nat.le_of_ble_eq_true rfl, Nat.le_of_ble_eq_true rfl⟩ rfl rfl hl rfl (Nat.le_of_ble_eq_true rfl) dL_law_471 (fun H locs hW => ?_)
  refine lv_aload_n X.x X.bb dL_law_474 rfl (lv_at hl 1 rfl) ?_
  refine lv_aload_n X.x X.bb dL_law_475 rfl (lv_at hl 3 rfl) ?_
  refine lv_iload_n X.x X.bb dL_law_476 rfl (lv_at hl 0 rfl) ?_
  refine lv_iconst (v := 1) X.x X.bb dL_law_477 (by decide) ?_
  refine lv_iadd X.x X.bb dL_law_478 ?_
  refine va_sld X.x X.bb X.2.2.2.2.2.1 X.2.2.2.2.2.2.1 (Nat.not_le.mpr X.2.2.2.2.2.2.1) hW.2.2.1 (lw_in 1 hx3 (by omega) X.2.2.2.2.2.2.2.1 (by decide)) dL_law_479 ?_
  refine lv_aload_n X.x X.bb dL_law_480 rfl (lv_at hl 3 rfl) ?_
  refine lv_iload_n X.x X.bb dL_law_481 rfl (lv_at hl 0 rfl) ?_
  refine lv_iconst (v := 2) X.x X.bb dL_law_482 (by decide) ?_
  refine lv_iadd X.x X.bb dL_law_483 ?_
  refine va_sld X.x X.bb X.2.2.2.2.2.1 X.2.2.2.2.2.2.1 (Nat.not_le.mpr X.2.2.2.2.2.2.1) hW.2.2.1 (lw_in 2 hx3 (by omega) X.2.2.2.2.2.2.2.1 (by decide)) dL_law_484 ?_
  refine lw_callR (rv := some (.int r)) (As := [.int (xs (x3 + 1).toNatClampNeg), .int (xs (x3 + 2).toNatClampNeg)]) X hW (kX11_cause l (fun _ => trivial) h2) mv_X11_cause lkL_51 ⟨rfl, rfl⟩ ⟨Nat.le_of_ble_eq_true rfl, Nat.le_of_ble_eq_true rfl⟩ rfl rfl hl rfl (Nat.le_of_ble_eq_true rfl) dL_law_485 (fun H locs hW => ?_)
  refine lv_icmp_eq (tgt := 1283) X.x X.bb dL_law_488 (by decide) (fun _ => ?_) (fun z => absurd rfl z)
  exact kk gC1 gR1 H locs hR1 hW
set_option maxHeartbeats 4000000 in
set_option maxRecDepth 20000 in
theorem lw_c9 (X : Lw p l s m meth c b L xs kC kR) {i : Nat} {x3 : Int32} (hx3 : x3 = nI i) (hi : i + 6 ≤ L) {Rel : Mm → Mm → Prop} (hs : SH_feedTold Rel) {gC gR : Mm} (hR : Rel gC gR) (hW : Wl kC kR gC gR s H locs) {ls : Array Slot} (hl : lv_has ls 4 [(3, .int x3), (2, .ref (kR.1 + adR 0 0 0)), (1, .ref (kC.1 + adC 0 0 0)), (0, .ref b)])
    (kk : ∀ (gC gR : Mm) (H : Heap) (locs : List Loc), Rel gC gR → Wl kC kR gC gR s H locs → W p l e room_1 s m #[Value.ref b] below meth c H locs 190 6824 Q (F0 m 1283 ls [])) : W p l e room_1 s m #[Value.ref b] below meth c H locs 190 6824 Q (F0 m 493 ls []) := by
  obtain ⟨gC1, gR1, r, h1, h2, hR1⟩ := hs gC gR (xs (x3 + 1).toNatClampNeg) (xs (x3 + 2).toNatClampNeg) hR
  obtain ⟨h1, hg1⟩ := h1; subst hg1
  obtain ⟨h2, hg2⟩ := h2; subst hg2
  refine lv_aload_n X.x X.bb dL_law_493 rfl (lv_at hl 2 rfl) ?_
  refine lv_aload_n X.x X.bb dL_law_494 rfl (lv_at hl 3 rfl) ?_
  refine lv_iload_n X.x X.bb dL_law_495 rfl (lv_at hl 0 rfl) ?_
  refine lv_iconst (v := 1) X.x X.bb dL_law_496 (by decide) ?_
  refine lv_iadd X.x X.bb dL_law_497 ?_
  refine va_sld X.x X.bb X.2.2.2.2.2.1 X.2.2.2.2.2.2.1 (Nat.not_le.mpr X.2.2.2.2.2.2.1) hW.2.2.1 (lw_in 1 hx3 (by omega) X.2.2.2.2.2.2.2.1 (by decide)) dL_law_498 ?_
  refine lv_aload_n X.x X.bb dL_law_499 rfl (lv_at hl 3 rfl) ?_
  refine lv_iload_n X.x X.bb dL_law_500 rfl (lv_at hl 0 rfl) ?_
  refine lv_iconst (v := 2) X.x X.bb dL_law_501 (by decide) ?_
  refine lv_iadd X.x X.bb dL_law_502 ?_
  refine va_sld X.x X.bb X.2.2.2.2.2.1 X.2.2.2.2.2.2.1 (Nat.not_le.mpr X.2.2.2.2.2.2.1) hW.2.2.1 (lw_in 2 hx3 (by omega) X.2.2.2.2.2.2.2.1 (by decide)) dL_law_503 ?_
  refine lw_callC (rv := some (.int r)) (As := [.int (xs (x3 + 1).toNatClampNeg), .int (xs (x3 + 2).toNatClampNeg)]) X hW (kX10_feedTold l (fun _ => trivial) h1) mv_X10_feedTold lkL_52 ⟨rfl, rfl⟩ ⟨Nat.le_of_ble_eq_true rfl, Nat.le_of_ble_eq_true rfl⟩ rfl rfl hl rfl (Nat.le_of_ble_eq_true rfl) dL_law_504 (fun H locs hW => ?_)
  refine lv_aload_n X.x X.bb dL_law_507 rfl (lv_at hl 1 rfl) ?_
  refine lv_aload_n X.x X.bb dL_law_508 rfl (lv_at hl 3 rfl) ?_
  refine lv_iload_n X.x X.bb dL_law_509 rfl (lv_at hl 0 rfl) ?_
  refine lv_iconst (v := 1) X.x X.bb dL_law_510 (by decide) ?_
  refine lv_iadd X.x X.bb dL_law_511 ?_
  refine va_sld X.x X.bb X.2.2.2.2.2.1 X.2.2.2.2.2.2.1 (Nat.not_le.mpr X.2.2.2.2.2.2.1) hW.2.2.1 (lw_in 1 hx3 (by omega) X.2.2.2.2.2.2.2.1 (by decide)) dL_law_512 ?_
  refine lv_aload_n X.x X.bb dL_law_513 rfl (lv_at hl 3 rfl) ?_
  refine lv_iload_n X.x X.bb dL_law_514 rfl (lv_at hl 0 rfl) ?_
  refine lv_iconst (v := 2) X.x X.bb dL_law_515 (by decide) ?_
  refine lv_iadd X.x X.bb dL_law_516 ?_
  refine va_sld X.x X.bb X.2.2.2.2.2.1 X.2.2.2.2.2.2.1 (Nat.not_le.mpr X.2.2.2.2.2.2.1) hW.2.2.1 (lw_in 2 hx3 (by omega) X.2.2.2.2.2.2.2.1 (by decide)) dL_law_517 ?_
  refine lw_callR (rv := some (.int r)) (As := [.int (xs (x3 + 1).toNatClampNeg), .int (xs (x3 + 2).toNatClampNeg)]) X hW (kX11_feedTold l (fun _ => trivial) h2) mv_X11_feedTold lkL_55 ⟨rfl, rfl⟩ ⟨Nat.le_of_ble_eq_true rfl, Nat.le_of_ble_eq_true rfl⟩ rfl rfl hl rfl (Nat.le_of_ble_eq_true rfl) dL_law_518 (fun H locs hW => ?_)
  refine lv_icmp_eq (tgt := 1283) X.x X.bb dL_law_521 (by decide) (fun _ => ?_) (fun z => absurd rfl z)
  exact kk gC1 gR1 H locs hR1 hW
set_option maxHeartbeats 4000000 in
set_option maxRecDepth 20000 in
theorem lw_c10 (X : Lw p l s m meth c b L xs kC kR) {i : Nat} {x3 : Int32} (hx3 : x3 = nI i) (hi : i + 6 ≤ L) {Rel : Mm → Mm → Prop} (hs : SH_standTold Rel) {gC gR : Mm} (hR : Rel gC gR) (hW : Wl kC kR gC gR s H locs) {ls : Array Slot} (hl : lv_has ls 4 [(3, .int x3), (2, .ref (kR.1 + adR 0 0 0)), (1, .ref (kC.1 + adC 0 0 0)), (0, .ref b)])
    (kk : ∀ (gC gR : Mm) (H : Heap) (locs : List Loc), Rel gC gR → Wl kC kR gC gR s H locs → W p l e room_1 s m #[Value.ref b] below meth c H locs 190 6824 Q (F0 m 1283 ls [])) : W p l e room_1 s m #[Value.ref b] below meth c H locs 190 6824 Q (F0 m 526 ls []) := by
  obtain ⟨gC1, gR1, r, h1, h2, hR1⟩ := hs gC gR (xs (x3 + 1).toNatClampNeg) (xs (x3 + 2).toNatClampNeg) hR
  obtain ⟨h1, hg1⟩ := h1; subst hg1
  obtain ⟨h2, hg2⟩ := h2; subst hg2
  refine lv_aload_n X.x X.bb dL_law_526 rfl (lv_at hl 2 rfl) ?_
  refine lv_aload_n X.x X.bb dL_law_527 rfl (lv_at hl 3 rfl) ?_
  refine lv_iload_n X.x X.bb dL_law_528 rfl (lv_at hl 0 rfl) ?_
  refine lv_iconst (v := 1) X.x X.bb dL_law_529 (by decide) ?_
  refine lv_iadd X.x X.bb dL_law_530 ?_
  refine va_sld X.x X.bb X.2.2.2.2.2.1 X.2.2.2.2.2.2.1 (Nat.not_le.mpr X.2.2.2.2.2.2.1) hW.2.2.1 (lw_in 1 hx3 (by omega) X.2.2.2.2.2.2.2.1 (by decide)) dL_law_531 ?_
  refine lv_aload_n X.x X.bb dL_law_532 rfl (lv_at hl 3 rfl) ?_
  refine lv_iload_n X.x X.bb dL_law_533 rfl (lv_at hl 0 rfl) ?_
  refine lv_iconst (v := 2) X.x X.bb dL_law_534 (by decide) ?_
  refine lv_iadd X.x X.bb dL_law_535 ?_
  refine va_sld X.x X.bb X.2.2.2.2.2.1 X.2.2.2.2.2.2.1 (Nat.not_le.mpr X.2.2.2.2.2.2.1) hW.2.2.1 (lw_in 2 hx3 (by omega) X.2.2.2.2.2.2.2.1 (by decide)) dL_law_536 ?_
  refine lw_callC (rv := some (.int r)) (As := [.int (xs (x3 + 1).toNatClampNeg), .int (xs (x3 + 2).toNatClampNeg)]) X hW (kX10_standTold l (fun _ => trivial) h1) mv_X10_standTold lkL_56 ⟨rfl, rfl⟩ ⟨Nat.le_of_ble_eq_true rfl, Nat.le_of_ble_eq_true rfl⟩ rfl rfl hl rfl (Nat.le_of_ble_eq_true rfl) dL_law_537 (fun H locs hW => ?_)
  refine lv_aload_n X.x X.bb dL_law_540 rfl (lv_at hl 1 rfl) ?_
  refine lv_aload_n X.x X.bb dL_law_541 rfl (lv_at hl 3 rfl) ?_
  refine lv_iload_n X.x X.bb dL_law_542 rfl (lv_at hl 0 rfl) ?_
  refine lv_iconst (v := 1) X.x X.bb dL_law_543 (by decide) ?_
  refine lv_iadd X.x X.bb dL_law_544 ?_
  refine va_sld X.x X.bb X.2.2.2.2.2.1 X.2.2.2.2.2.2.1 (Nat.not_le.mpr X.2.2.2.2.2.2.1) hW.2.2.1 (lw_in 1 hx3 (by omega) X.2.2.2.2.2.2.2.1 (by decide)) dL_law_545 ?_
  refine lv_aload_n X.x X.bb dL_law_546 rfl (lv_at hl 3 rfl) ?_
  refine lv_iload_n X.x X.bb dL_law_547 rfl (lv_at hl 0 rfl) ?_
  refine lv_iconst (v := 2) X.x X.bb dL_law_548 (by decide) ?_
  refine lv_iadd X.x X.bb dL_law_549 ?_
  refine va_sld X.x X.bb X.2.2.2.2.2.1 X.2.2.2.2.2.2.1 (Nat.not_le.mpr X.2.2.2.2.2.2.1) hW.2.2.1 (lw_in 2 hx3 (by omega) X.2.2.2.2.2.2.2.1 (by decide)) dL_law_550 ?_
  refine lw_callR (rv := some (.int r)) (As := [.int (xs (x3 + 1).toNatClampNeg), .int (xs (x3 + 2).toNatClampNeg)]) X hW (kX11_standTold l (fun _ => trivial) h2) mv_X11_standTold lkL_59 ⟨rfl, rfl⟩ ⟨Nat.le_of_ble_eq_true rfl, Nat.le_of_ble_eq_true rfl⟩ rfl rfl hl rfl (Nat.le_of_ble_eq_true rfl) dL_law_551 (fun H locs hW => ?_)
  refine lv_icmp_eq (tgt := 1283) X.x X.bb dL_law_554 (by decide) (fun _ => ?_) (fun z => absurd rfl z)
  exact kk gC1 gR1 H locs hR1 hW
set_option maxHeartbeats 4000000 in
set_option maxRecDepth 20000 in
theorem lw_c11 (X : Lw p l s m meth c b L xs kC kR) {i : Nat} {x3 : Int32} (hx3 : x3 = nI i) (hi : i + 6 ≤ L) {Rel : Mm → Mm → Prop} (hs : SH_runwayTold Rel) {gC gR : Mm} (hR : Rel gC gR) (hW : Wl kC kR gC gR s H locs) {ls : Array Slot} (hl : lv_has ls 4 [(3, .int x3), (2, .ref (kR.1 + adR 0 0 0)), (1, .ref (kC.1 + adC 0 0 0)), (0, .ref b)])
    (kk : ∀ (gC gR : Mm) (H : Heap) (locs : List Loc), Rel gC gR → Wl kC kR gC gR s H locs → W p l e room_1 s m #[Value.ref b] below meth c H locs 190 6824 Q (F0 m 1283 ls [])) : W p l e room_1 s m #[Value.ref b] below meth c H locs 190 6824 Q (F0 m 559 ls []) := by
  obtain ⟨gC1, gR1, r, h1, h2, hR1⟩ := hs gC gR (xs (x3 + 1).toNatClampNeg) (xs (x3 + 2).toNatClampNeg) hR
  obtain ⟨h1, hg1⟩ := h1; subst hg1
  obtain ⟨h2, hg2⟩ := h2; subst hg2
  refine lv_aload_n X.x X.bb dL_law_559 rfl (lv_at hl 2 rfl) ?_
  refine lv_aload_n X.x X.bb dL_law_560 rfl (lv_at hl 3 rfl) ?_
  refine lv_iload_n X.x X.bb dL_law_561 rfl (lv_at hl 0 rfl) ?_
  refine lv_iconst (v := 1) X.x X.bb dL_law_562 (by decide) ?_
  refine lv_iadd X.x X.bb dL_law_563 ?_
  refine va_sld X.x X.bb X.2.2.2.2.2.1 X.2.2.2.2.2.2.1 (Nat.not_le.mpr X.2.2.2.2.2.2.1) hW.2.2.1 (lw_in 1 hx3 (by omega) X.2.2.2.2.2.2.2.1 (by decide)) dL_law_564 ?_
  refine lv_aload_n X.x X.bb dL_law_565 rfl (lv_at hl 3 rfl) ?_
  refine lv_iload_n X.x X.bb dL_law_566 rfl (lv_at hl 0 rfl) ?_
  refine lv_iconst (v := 2) X.x X.bb dL_law_567 (by decide) ?_
  refine lv_iadd X.x X.bb dL_law_568 ?_
  refine va_sld X.x X.bb X.2.2.2.2.2.1 X.2.2.2.2.2.2.1 (Nat.not_le.mpr X.2.2.2.2.2.2.1) hW.2.2.1 (lw_in 2 hx3 (by omega) X.2.2.2.2.2.2.2.1 (by decide)) dL_law_569 ?_
  refine lw_callC (rv := some (.int r)) (As := [.int (xs (x3 + 1).toNatClampNeg), .int (xs (x3 + 2).toNatClampNeg)]) X hW (kX10_runwayTold l (fun _ => trivial) h1) mv_X10_runwayTold lkL_60 ⟨rfl, rfl⟩ ⟨Nat.le_of_ble_eq_true rfl, Nat.le_of_ble_eq_true rfl⟩ rfl rfl hl rfl (Nat.le_of_ble_eq_true rfl) dL_law_570 (fun H locs hW => ?_)
  refine lv_aload_n X.x X.bb dL_law_573 rfl (lv_at hl 1 rfl) ?_
  refine lv_aload_n X.x X.bb dL_law_574 rfl (lv_at hl 3 rfl) ?_
  refine lv_iload_n X.x X.bb dL_law_575 rfl (lv_at hl 0 rfl) ?_
  refine lv_iconst (v := 1) X.x X.bb dL_law_576 (by decide) ?_
  refine lv_iadd X.x X.bb dL_law_577 ?_
  refine va_sld X.x X.bb X.2.2.2.2.2.1 X.2.2.2.2.2.2.1 (Nat.not_le.mpr X.2.2.2.2.2.2.1) hW.2.2.1 (lw_in 1 hx3 (by omega) X.2.2.2.2.2.2.2.1 (by decide)) dL_law_578 ?_
  refine lv_aload_n X.x X.bb dL_law_579 rfl (lv_at hl 3 rfl) ?_
  refine lv_iload_n X.x X.bb dL_law_580 rfl (lv_at hl 0 rfl) ?_
  refine lv_iconst (v := 2) X.x X.bb dL_law_581 (by decide) ?_
  refine lv_iadd X.x X.bb dL_law_582 ?_
  refine va_sld X.x X.bb X.2.2.2.2.2.1 X.2.2.2.2.2.2.1 (Nat.not_le.mpr X.2.2.2.2.2.2.1) hW.2.2.1 (lw_in 2 hx3 (by omega) X.2.2.2.2.2.2.2.1 (by decide)) dL_law_583 ?_
  refine lw_callR (rv := some (.int r)) (As := [.int (xs (x3 + 1).toNatClampNeg), .int (xs (x3 + 2).toNatClampNeg)]) X hW (kX11_runwayTold l (fun _ => trivial) h2) mv_X11_runwayTold lkL_63 ⟨rfl, rfl⟩ ⟨Nat.le_of_ble_eq_true rfl, Nat.le_of_ble_eq_true rfl⟩ rfl rfl hl rfl (Nat.le_of_ble_eq_true rfl) dL_law_584 (fun H locs hW => ?_)
  refine lv_icmp_eq (tgt := 1283) X.x X.bb dL_law_587 (by decide) (fun _ => ?_) (fun z => absurd rfl z)
  exact kk gC1 gR1 H locs hR1 hW
set_option maxHeartbeats 4000000 in
set_option maxRecDepth 20000 in
theorem lw_c12 (X : Lw p l s m meth c b L xs kC kR) {i : Nat} {x3 : Int32} (hx3 : x3 = nI i) (hi : i + 6 ≤ L) {Rel : Mm → Mm → Prop} (hs : SH_ticks Rel) {gC gR : Mm} (hR : Rel gC gR) (hW : Wl kC kR gC gR s H locs) {ls : Array Slot} (hl : lv_has ls 4 [(3, .int x3), (2, .ref (kR.1 + adR 0 0 0)), (1, .ref (kC.1 + adC 0 0 0)), (0, .ref b)])
    (kk : ∀ (gC gR : Mm) (H : Heap) (locs : List Loc), Rel gC gR → Wl kC kR gC gR s H locs → W p l e room_1 s m #[Value.ref b] below meth c H locs 190 6824 Q (F0 m 1283 ls [])) : W p l e room_1 s m #[Value.ref b] below meth c H locs 190 6824 Q (F0 m 592 ls []) := by
  obtain ⟨gC1, gR1, r, h1, h2, hR1⟩ := hs gC gR (xs (x3 + 1).toNatClampNeg) (xs (x3 + 2).toNatClampNeg) hR
  obtain ⟨h1, hg1⟩ := h1; subst hg1
  obtain ⟨h2, hg2⟩ := h2; subst hg2
  refine lv_aload_n X.x X.bb dL_law_592 rfl (lv_at hl 2 rfl) ?_
  refine lv_aload_n X.x X.bb dL_law_593 rfl (lv_at hl 3 rfl) ?_
  refine lv_iload_n X.x X.bb dL_law_594 rfl (lv_at hl 0 rfl) ?_
  refine lv_iconst (v := 1) X.x X.bb dL_law_595 (by decide) ?_
  refine lv_iadd X.x X.bb dL_law_596 ?_
  refine va_sld X.x X.bb X.2.2.2.2.2.1 X.2.2.2.2.2.2.1 (Nat.not_le.mpr X.2.2.2.2.2.2.1) hW.2.2.1 (lw_in 1 hx3 (by omega) X.2.2.2.2.2.2.2.1 (by decide)) dL_law_597 ?_
  refine lv_aload_n X.x X.bb dL_law_598 rfl (lv_at hl 3 rfl) ?_
  refine lv_iload_n X.x X.bb dL_law_599 rfl (lv_at hl 0 rfl) ?_
  refine lv_iconst (v := 2) X.x X.bb dL_law_600 (by decide) ?_
  refine lv_iadd X.x X.bb dL_law_601 ?_
  refine va_sld X.x X.bb X.2.2.2.2.2.1 X.2.2.2.2.2.2.1 (Nat.not_le.mpr X.2.2.2.2.2.2.1) hW.2.2.1 (lw_in 2 hx3 (by omega) X.2.2.2.2.2.2.2.1 (by decide)) dL_law_602 ?_
  refine lw_callC (rv := some (.int r)) (As := [.int (xs (x3 + 1).toNatClampNeg), .int (xs (x3 + 2).toNatClampNeg)]) X hW (kX10_ticks l (fun _ => trivial) h1) mv_X10_ticks lkL_64 ⟨rfl, rfl⟩ ⟨Nat.le_of_ble_eq_true rfl, Nat.le_of_ble_eq_true rfl⟩ rfl rfl hl rfl (Nat.le_of_ble_eq_true rfl) dL_law_603 (fun H locs hW => ?_)
  refine lv_aload_n X.x X.bb dL_law_606 rfl (lv_at hl 1 rfl) ?_
  refine lv_aload_n X.x X.bb dL_law_607 rfl (lv_at hl 3 rfl) ?_
  refine lv_iload_n X.x X.bb dL_law_608 rfl (lv_at hl 0 rfl) ?_
  refine lv_iconst (v := 1) X.x X.bb dL_law_609 (by decide) ?_
  refine lv_iadd X.x X.bb dL_law_610 ?_
  refine va_sld X.x X.bb X.2.2.2.2.2.1 X.2.2.2.2.2.2.1 (Nat.not_le.mpr X.2.2.2.2.2.2.1) hW.2.2.1 (lw_in 1 hx3 (by omega) X.2.2.2.2.2.2.2.1 (by decide)) dL_law_611 ?_
  refine lv_aload_n X.x X.bb dL_law_612 rfl (lv_at hl 3 rfl) ?_
  refine lv_iload_n X.x X.bb dL_law_613 rfl (lv_at hl 0 rfl) ?_
  refine lv_iconst (v := 2) X.x X.bb dL_law_614 (by decide) ?_
  refine lv_iadd X.x X.bb dL_law_615 ?_
  refine va_sld X.x X.bb X.2.2.2.2.2.1 X.2.2.2.2.2.2.1 (Nat.not_le.mpr X.2.2.2.2.2.2.1) hW.2.2.1 (lw_in 2 hx3 (by omega) X.2.2.2.2.2.2.2.1 (by decide)) dL_law_616 ?_
  refine lw_callR (rv := some (.int r)) (As := [.int (xs (x3 + 1).toNatClampNeg), .int (xs (x3 + 2).toNatClampNeg)]) X hW (kX11_ticks_ l (fun _ => trivial) h2) mv_X11_ticks_ lkL_67 ⟨rfl, rfl⟩ ⟨Nat.le_of_ble_eq_true rfl, Nat.le_of_ble_eq_true rfl⟩ rfl rfl hl rfl (Nat.le_of_ble_eq_true rfl) dL_law_617 (fun H locs hW => ?_)
  refine lv_icmp_eq (tgt := 1283) X.x X.bb dL_law_620 (by decide) (fun _ => ?_) (fun z => absurd rfl z)
  exact kk gC1 gR1 H locs hR1 hW
set_option maxHeartbeats 4000000 in
set_option maxRecDepth 20000 in
theorem lw_c13 (X : Lw p l s m meth c b L xs kC kR) {i : Nat} {x3 : Int32} (hx3 : x3 = nI i) (hi : i + 6 ≤ L) {Rel : Mm → Mm → Prop} (hs : SH_kindTold Rel) {gC gR : Mm} (hR : Rel gC gR) (hW : Wl kC kR gC gR s H locs) {ls : Array Slot} (hl : lv_has ls 4 [(3, .int x3), (2, .ref (kR.1 + adR 0 0 0)), (1, .ref (kC.1 + adC 0 0 0)), (0, .ref b)])
    (kk : ∀ (gC gR : Mm) (H : Heap) (locs : List Loc), Rel gC gR → Wl kC kR gC gR s H locs → W p l e room_1 s m #[Value.ref b] below meth c H locs 190 6824 Q (F0 m 1283 ls [])) : W p l e room_1 s m #[Value.ref b] below meth c H locs 190 6824 Q (F0 m 625 ls []) := by
  obtain ⟨gC1, gR1, r, h1, h2, hR1⟩ := hs gC gR (xs (x3 + 1).toNatClampNeg) (xs (x3 + 2).toNatClampNeg) hR
  obtain ⟨h1, hg1⟩ := h1; subst hg1
  obtain ⟨h2, hg2⟩ := h2; subst hg2
  refine lv_aload_n X.x X.bb dL_law_625 rfl (lv_at hl 2 rfl) ?_
  refine lv_aload_n X.x X.bb dL_law_626 rfl (lv_at hl 3 rfl) ?_
  refine lv_iload_n X.x X.bb dL_law_627 rfl (lv_at hl 0 rfl) ?_
  refine lv_iconst (v := 1) X.x X.bb dL_law_628 (by decide) ?_
  refine lv_iadd X.x X.bb dL_law_629 ?_
  refine va_sld X.x X.bb X.2.2.2.2.2.1 X.2.2.2.2.2.2.1 (Nat.not_le.mpr X.2.2.2.2.2.2.1) hW.2.2.1 (lw_in 1 hx3 (by omega) X.2.2.2.2.2.2.2.1 (by decide)) dL_law_630 ?_
  refine lv_aload_n X.x X.bb dL_law_631 rfl (lv_at hl 3 rfl) ?_
  refine lv_iload_n X.x X.bb dL_law_632 rfl (lv_at hl 0 rfl) ?_
  refine lv_iconst (v := 2) X.x X.bb dL_law_633 (by decide) ?_
  refine lv_iadd X.x X.bb dL_law_634 ?_
  refine va_sld X.x X.bb X.2.2.2.2.2.1 X.2.2.2.2.2.2.1 (Nat.not_le.mpr X.2.2.2.2.2.2.1) hW.2.2.1 (lw_in 2 hx3 (by omega) X.2.2.2.2.2.2.2.1 (by decide)) dL_law_635 ?_
  refine lw_callC (rv := some (.int r)) (As := [.int (xs (x3 + 1).toNatClampNeg), .int (xs (x3 + 2).toNatClampNeg)]) X hW (kX10_kindTold l (fun _ => trivial) h1) mv_X10_kindTold lkL_68 ⟨rfl, rfl⟩ ⟨Nat.le_of_ble_eq_true rfl, Nat.le_of_ble_eq_true rfl⟩ rfl rfl hl rfl (Nat.le_of_ble_eq_true rfl) dL_law_636 (fun H locs hW => ?_)
  refine lv_aload_n X.x X.bb dL_law_639 rfl (lv_at hl 1 rfl) ?_
  refine lv_aload_n X.x X.bb dL_law_640 rfl (lv_at hl 3 rfl) ?_
  refine lv_iload_n X.x X.bb dL_law_641 rfl (lv_at hl 0 rfl) ?_
  refine lv_iconst (v := 1) X.x X.bb dL_law_642 (by decide) ?_
  refine lv_iadd X.x X.bb dL_law_643 ?_
  refine va_sld X.x X.bb X.2.2.2.2.2.1 X.2.2.2.2.2.2.1 (Nat.not_le.mpr X.2.2.2.2.2.2.1) hW.2.2.1 (lw_in 1 hx3 (by omega) X.2.2.2.2.2.2.2.1 (by decide)) dL_law_644 ?_
  refine lv_aload_n X.x X.bb dL_law_645 rfl (lv_at hl 3 rfl) ?_
  refine lv_iload_n X.x X.bb dL_law_646 rfl (lv_at hl 0 rfl) ?_
  refine lv_iconst (v := 2) X.x X.bb dL_law_647 (by decide) ?_
  refine lv_iadd X.x X.bb dL_law_648 ?_
  refine va_sld X.x X.bb X.2.2.2.2.2.1 X.2.2.2.2.2.2.1 (Nat.not_le.mpr X.2.2.2.2.2.2.1) hW.2.2.1 (lw_in 2 hx3 (by omega) X.2.2.2.2.2.2.2.1 (by decide)) dL_law_649 ?_
  refine lw_callR (rv := some (.int r)) (As := [.int (xs (x3 + 1).toNatClampNeg), .int (xs (x3 + 2).toNatClampNeg)]) X hW (kX11_kindTold l (fun _ => trivial) h2) mv_X11_kindTold lkL_71 ⟨rfl, rfl⟩ ⟨Nat.le_of_ble_eq_true rfl, Nat.le_of_ble_eq_true rfl⟩ rfl rfl hl rfl (Nat.le_of_ble_eq_true rfl) dL_law_650 (fun H locs hW => ?_)
  refine lv_icmp_eq (tgt := 1283) X.x X.bb dL_law_653 (by decide) (fun _ => ?_) (fun z => absurd rfl z)
  exact kk gC1 gR1 H locs hR1 hW
set_option maxHeartbeats 4000000 in
set_option maxRecDepth 20000 in
theorem lw_c14 (X : Lw p l s m meth c b L xs kC kR) {i : Nat} {x3 : Int32} (hx3 : x3 = nI i) (hi : i + 6 ≤ L) {Rel : Mm → Mm → Prop} (hs : SH_trucks Rel) {gC gR : Mm} (hR : Rel gC gR) (hW : Wl kC kR gC gR s H locs) {ls : Array Slot} (hl : lv_has ls 4 [(3, .int x3), (2, .ref (kR.1 + adR 0 0 0)), (1, .ref (kC.1 + adC 0 0 0)), (0, .ref b)])
    (kk : ∀ (gC gR : Mm) (H : Heap) (locs : List Loc), Rel gC gR → Wl kC kR gC gR s H locs → W p l e room_1 s m #[Value.ref b] below meth c H locs 190 6824 Q (F0 m 1283 ls [])) : W p l e room_1 s m #[Value.ref b] below meth c H locs 190 6824 Q (F0 m 658 ls []) := by
  obtain ⟨gC1, gR1, r, h1, h2, hR1⟩ := hs gC gR (xs (x3 + 1).toNatClampNeg) (xs (x3 + 2).toNatClampNeg) hR
  obtain ⟨h1, hg1⟩ := h1; subst hg1
  obtain ⟨h2, hg2⟩ := h2; subst hg2
  refine lv_aload_n X.x X.bb dL_law_658 rfl (lv_at hl 2 rfl) ?_
  refine lv_aload_n X.x X.bb dL_law_659 rfl (lv_at hl 3 rfl) ?_
  refine lv_iload_n X.x X.bb dL_law_660 rfl (lv_at hl 0 rfl) ?_
  refine lv_iconst (v := 1) X.x X.bb dL_law_661 (by decide) ?_
  refine lv_iadd X.x X.bb dL_law_662 ?_
  refine va_sld X.x X.bb X.2.2.2.2.2.1 X.2.2.2.2.2.2.1 (Nat.not_le.mpr X.2.2.2.2.2.2.1) hW.2.2.1 (lw_in 1 hx3 (by omega) X.2.2.2.2.2.2.2.1 (by decide)) dL_law_663 ?_
  refine lv_aload_n X.x X.bb dL_law_664 rfl (lv_at hl 3 rfl) ?_
  refine lv_iload_n X.x X.bb dL_law_665 rfl (lv_at hl 0 rfl) ?_
  refine lv_iconst (v := 2) X.x X.bb dL_law_666 (by decide) ?_
  refine lv_iadd X.x X.bb dL_law_667 ?_
  refine va_sld X.x X.bb X.2.2.2.2.2.1 X.2.2.2.2.2.2.1 (Nat.not_le.mpr X.2.2.2.2.2.2.1) hW.2.2.1 (lw_in 2 hx3 (by omega) X.2.2.2.2.2.2.2.1 (by decide)) dL_law_668 ?_
  refine lw_callC (rv := some (.int r)) (As := [.int (xs (x3 + 1).toNatClampNeg), .int (xs (x3 + 2).toNatClampNeg)]) X hW (kX10_trucks l (fun _ => trivial) h1) mv_X10_trucks lkL_72 ⟨rfl, rfl⟩ ⟨Nat.le_of_ble_eq_true rfl, Nat.le_of_ble_eq_true rfl⟩ rfl rfl hl rfl (Nat.le_of_ble_eq_true rfl) dL_law_669 (fun H locs hW => ?_)
  refine lv_aload_n X.x X.bb dL_law_672 rfl (lv_at hl 1 rfl) ?_
  refine lv_aload_n X.x X.bb dL_law_673 rfl (lv_at hl 3 rfl) ?_
  refine lv_iload_n X.x X.bb dL_law_674 rfl (lv_at hl 0 rfl) ?_
  refine lv_iconst (v := 1) X.x X.bb dL_law_675 (by decide) ?_
  refine lv_iadd X.x X.bb dL_law_676 ?_
  refine va_sld X.x X.bb X.2.2.2.2.2.1 X.2.2.2.2.2.2.1 (Nat.not_le.mpr X.2.2.2.2.2.2.1) hW.2.2.1 (lw_in 1 hx3 (by omega) X.2.2.2.2.2.2.2.1 (by decide)) dL_law_677 ?_
  refine lv_aload_n X.x X.bb dL_law_678 rfl (lv_at hl 3 rfl) ?_
  refine lv_iload_n X.x X.bb dL_law_679 rfl (lv_at hl 0 rfl) ?_
  refine lv_iconst (v := 2) X.x X.bb dL_law_680 (by decide) ?_
  refine lv_iadd X.x X.bb dL_law_681 ?_
  refine va_sld X.x X.bb X.2.2.2.2.2.1 X.2.2.2.2.2.2.1 (Nat.not_le.mpr X.2.2.2.2.2.2.1) hW.2.2.1 (lw_in 2 hx3 (by omega) X.2.2.2.2.2.2.2.1 (by decide)) dL_law_682 ?_
  refine lw_callR (rv := some (.int r)) (As := [.int (xs (x3 + 1).toNatClampNeg), .int (xs (x3 + 2).toNatClampNeg)]) X hW (kX11_trucks l (fun _ => trivial) h2) mv_X11_trucks lkL_75 ⟨rfl, rfl⟩ ⟨Nat.le_of_ble_eq_true rfl, Nat.le_of_ble_eq_true rfl⟩ rfl rfl hl rfl (Nat.le_of_ble_eq_true rfl) dL_law_683 (fun H locs hW => ?_)
  refine lv_icmp_eq (tgt := 1283) X.x X.bb dL_law_686 (by decide) (fun _ => ?_) (fun z => absurd rfl z)
  exact kk gC1 gR1 H locs hR1 hW
set_option maxHeartbeats 4000000 in
set_option maxRecDepth 20000 in
theorem lw_c15 (X : Lw p l s m meth c b L xs kC kR) {i : Nat} {x3 : Int32} (hx3 : x3 = nI i) (hi : i + 6 ≤ L) {Rel : Mm → Mm → Prop} (hs : SH_beside Rel) {gC gR : Mm} (hR : Rel gC gR) (hW : Wl kC kR gC gR s H locs) {ls : Array Slot} (hl : lv_has ls 4 [(3, .int x3), (2, .ref (kR.1 + adR 0 0 0)), (1, .ref (kC.1 + adC 0 0 0)), (0, .ref b)])
    (kk : ∀ (gC gR : Mm) (H : Heap) (locs : List Loc), Rel gC gR → Wl kC kR gC gR s H locs → W p l e room_1 s m #[Value.ref b] below meth c H locs 190 6824 Q (F0 m 1283 ls [])) : W p l e room_1 s m #[Value.ref b] below meth c H locs 190 6824 Q (F0 m 691 ls []) := by
  obtain ⟨gC1, gR1, r, h1, h2, hR1⟩ := hs gC gR (xs (x3 + 1).toNatClampNeg) (xs (x3 + 2).toNatClampNeg) hR
  refine lv_aload_n X.x X.bb dL_law_691 rfl (lv_at hl 2 rfl) ?_
  refine lv_aload_n X.x X.bb dL_law_692 rfl (lv_at hl 3 rfl) ?_
  refine lv_iload_n X.x X.bb dL_law_693 rfl (lv_at hl 0 rfl) ?_
  refine lv_iconst (v := 1) X.x X.bb dL_law_694 (by decide) ?_
  refine lv_iadd X.x X.bb dL_law_695 ?_
  refine va_sld X.x X.bb X.2.2.2.2.2.1 X.2.2.2.2.2.2.1 (Nat.not_le.mpr X.2.2.2.2.2.2.1) hW.2.2.1 (lw_in 1 hx3 (by omega) X.2.2.2.2.2.2.2.1 (by decide)) dL_law_696 ?_
  refine lv_aload_n X.x X.bb dL_law_697 rfl (lv_at hl 3 rfl) ?_
  refine lv_iload_n X.x X.bb dL_law_698 rfl (lv_at hl 0 rfl) ?_
  refine lv_iconst (v := 2) X.x X.bb dL_law_699 (by decide) ?_
  refine lv_iadd X.x X.bb dL_law_700 ?_
  refine va_sld X.x X.bb X.2.2.2.2.2.1 X.2.2.2.2.2.2.1 (Nat.not_le.mpr X.2.2.2.2.2.2.1) hW.2.2.1 (lw_in 2 hx3 (by omega) X.2.2.2.2.2.2.2.1 (by decide)) dL_law_701 ?_
  refine lw_callC (rv := some (.int r)) (As := [.int (xs (x3 + 1).toNatClampNeg), .int (xs (x3 + 2).toNatClampNeg)]) X hW (kX10_beside l (fun _ => trivial) h1) mv_X10_beside lkL_76 ⟨rfl, rfl⟩ ⟨Nat.le_of_ble_eq_true rfl, Nat.le_of_ble_eq_true rfl⟩ rfl rfl hl rfl (Nat.le_of_ble_eq_true rfl) dL_law_702 (fun H locs hW => ?_)
  refine lv_aload_n X.x X.bb dL_law_705 rfl (lv_at hl 1 rfl) ?_
  refine lv_aload_n X.x X.bb dL_law_706 rfl (lv_at hl 3 rfl) ?_
  refine lv_iload_n X.x X.bb dL_law_707 rfl (lv_at hl 0 rfl) ?_
  refine lv_iconst (v := 1) X.x X.bb dL_law_708 (by decide) ?_
  refine lv_iadd X.x X.bb dL_law_709 ?_
  refine va_sld X.x X.bb X.2.2.2.2.2.1 X.2.2.2.2.2.2.1 (Nat.not_le.mpr X.2.2.2.2.2.2.1) hW.2.2.1 (lw_in 1 hx3 (by omega) X.2.2.2.2.2.2.2.1 (by decide)) dL_law_710 ?_
  refine lv_aload_n X.x X.bb dL_law_711 rfl (lv_at hl 3 rfl) ?_
  refine lv_iload_n X.x X.bb dL_law_712 rfl (lv_at hl 0 rfl) ?_
  refine lv_iconst (v := 2) X.x X.bb dL_law_713 (by decide) ?_
  refine lv_iadd X.x X.bb dL_law_714 ?_
  refine va_sld X.x X.bb X.2.2.2.2.2.1 X.2.2.2.2.2.2.1 (Nat.not_le.mpr X.2.2.2.2.2.2.1) hW.2.2.1 (lw_in 2 hx3 (by omega) X.2.2.2.2.2.2.2.1 (by decide)) dL_law_715 ?_
  refine lw_callR (rv := some (.int r)) (As := [.int (xs (x3 + 1).toNatClampNeg), .int (xs (x3 + 2).toNatClampNeg)]) X hW (kX11_beside l (fun _ => trivial) h2) mv_X11_beside lkL_79 ⟨rfl, rfl⟩ ⟨Nat.le_of_ble_eq_true rfl, Nat.le_of_ble_eq_true rfl⟩ rfl rfl hl rfl (Nat.le_of_ble_eq_true rfl) dL_law_716 (fun H locs hW => ?_)
  refine lv_icmp_eq (tgt := 1283) X.x X.bb dL_law_719 (by decide) (fun _ => ?_) (fun z => absurd rfl z)
  exact kk gC1 gR1 H locs hR1 hW
set_option maxHeartbeats 4000000 in
set_option maxRecDepth 20000 in
theorem lw_c16 (X : Lw p l s m meth c b L xs kC kR) {i : Nat} {x3 : Int32} (hx3 : x3 = nI i) (hi : i + 6 ≤ L) {Rel : Mm → Mm → Prop} (hs : SH_plan Rel) {gC gR : Mm} (hR : Rel gC gR) (hW : Wl kC kR gC gR s H locs) {ls : Array Slot} (hl : lv_has ls 4 [(3, .int x3), (2, .ref (kR.1 + adR 0 0 0)), (1, .ref (kC.1 + adC 0 0 0)), (0, .ref b)])
    (kk : ∀ (gC gR : Mm) (H : Heap) (locs : List Loc), Rel gC gR → Wl kC kR gC gR s H locs → W p l e room_1 s m #[Value.ref b] below meth c H locs 190 6824 Q (F0 m 1283 ls [])) : W p l e room_1 s m #[Value.ref b] below meth c H locs 190 6824 Q (F0 m 724 ls []) := by
  obtain ⟨gC1, gR1, r, h1, h2, hR1⟩ := hs gC gR (xs (x3 + 1).toNatClampNeg) (xs (x3 + 2).toNatClampNeg) hR
  refine lv_aload_n X.x X.bb dL_law_724 rfl (lv_at hl 2 rfl) ?_
  refine lv_aload_n X.x X.bb dL_law_725 rfl (lv_at hl 3 rfl) ?_
  refine lv_iload_n X.x X.bb dL_law_726 rfl (lv_at hl 0 rfl) ?_
  refine lv_iconst (v := 1) X.x X.bb dL_law_727 (by decide) ?_
  refine lv_iadd X.x X.bb dL_law_728 ?_
  refine va_sld X.x X.bb X.2.2.2.2.2.1 X.2.2.2.2.2.2.1 (Nat.not_le.mpr X.2.2.2.2.2.2.1) hW.2.2.1 (lw_in 1 hx3 (by omega) X.2.2.2.2.2.2.2.1 (by decide)) dL_law_729 ?_
  refine lv_aload_n X.x X.bb dL_law_730 rfl (lv_at hl 3 rfl) ?_
  refine lv_iload_n X.x X.bb dL_law_731 rfl (lv_at hl 0 rfl) ?_
  refine lv_iconst (v := 2) X.x X.bb dL_law_732 (by decide) ?_
  refine lv_iadd X.x X.bb dL_law_733 ?_
  refine va_sld X.x X.bb X.2.2.2.2.2.1 X.2.2.2.2.2.2.1 (Nat.not_le.mpr X.2.2.2.2.2.2.1) hW.2.2.1 (lw_in 2 hx3 (by omega) X.2.2.2.2.2.2.2.1 (by decide)) dL_law_734 ?_
  refine lw_callC (rv := some (.int r)) (As := [.int (xs (x3 + 1).toNatClampNeg), .int (xs (x3 + 2).toNatClampNeg)]) X hW (kX10_plan l (fun _ => trivial) h1) mv_X10_plan lkL_80 ⟨rfl, rfl⟩ ⟨Nat.le_of_ble_eq_true rfl, Nat.le_of_ble_eq_true rfl⟩ rfl rfl hl rfl (Nat.le_of_ble_eq_true rfl) dL_law_735 (fun H locs hW => ?_)
  refine lv_aload_n X.x X.bb dL_law_738 rfl (lv_at hl 1 rfl) ?_
  refine lv_aload_n X.x X.bb dL_law_739 rfl (lv_at hl 3 rfl) ?_
  refine lv_iload_n X.x X.bb dL_law_740 rfl (lv_at hl 0 rfl) ?_
  refine lv_iconst (v := 1) X.x X.bb dL_law_741 (by decide) ?_
  refine lv_iadd X.x X.bb dL_law_742 ?_
  refine va_sld X.x X.bb X.2.2.2.2.2.1 X.2.2.2.2.2.2.1 (Nat.not_le.mpr X.2.2.2.2.2.2.1) hW.2.2.1 (lw_in 1 hx3 (by omega) X.2.2.2.2.2.2.2.1 (by decide)) dL_law_743 ?_
  refine lv_aload_n X.x X.bb dL_law_744 rfl (lv_at hl 3 rfl) ?_
  refine lv_iload_n X.x X.bb dL_law_745 rfl (lv_at hl 0 rfl) ?_
  refine lv_iconst (v := 2) X.x X.bb dL_law_746 (by decide) ?_
  refine lv_iadd X.x X.bb dL_law_747 ?_
  refine va_sld X.x X.bb X.2.2.2.2.2.1 X.2.2.2.2.2.2.1 (Nat.not_le.mpr X.2.2.2.2.2.2.1) hW.2.2.1 (lw_in 2 hx3 (by omega) X.2.2.2.2.2.2.2.1 (by decide)) dL_law_748 ?_
  refine lw_callR (rv := some (.int r)) (As := [.int (xs (x3 + 1).toNatClampNeg), .int (xs (x3 + 2).toNatClampNeg)]) X hW (kX11_plan l (fun _ => trivial) h2) mv_X11_plan lkL_83 ⟨rfl, rfl⟩ ⟨Nat.le_of_ble_eq_true rfl, Nat.le_of_ble_eq_true rfl⟩ rfl rfl hl rfl (Nat.le_of_ble_eq_true rfl) dL_law_749 (fun H locs hW => ?_)
  refine lv_icmp_eq (tgt := 1283) X.x X.bb dL_law_752 (by decide) (fun _ => ?_) (fun z => absurd rfl z)
  exact kk gC1 gR1 H locs hR1 hW
set_option maxHeartbeats 4000000 in
set_option maxRecDepth 20000 in
theorem lw_c17 (X : Lw p l s m meth c b L xs kC kR) {i : Nat} {x3 : Int32} (hx3 : x3 = nI i) (hi : i + 6 ≤ L) {Rel : Mm → Mm → Prop} (hs : SH_planned Rel) {gC gR : Mm} (hR : Rel gC gR) (hW : Wl kC kR gC gR s H locs) {ls : Array Slot} (hl : lv_has ls 4 [(3, .int x3), (2, .ref (kR.1 + adR 0 0 0)), (1, .ref (kC.1 + adC 0 0 0)), (0, .ref b)])
    (kk : ∀ (gC gR : Mm) (H : Heap) (locs : List Loc), Rel gC gR → Wl kC kR gC gR s H locs → W p l e room_1 s m #[Value.ref b] below meth c H locs 190 6824 Q (F0 m 1283 ls [])) : W p l e room_1 s m #[Value.ref b] below meth c H locs 190 6824 Q (F0 m 757 ls []) := by
  obtain ⟨gC1, gR1, r, h1, h2, hR1⟩ := hs gC gR (xs (x3 + 1).toNatClampNeg) hR
  obtain ⟨h1, hg1⟩ := h1; subst hg1
  obtain ⟨h2, hg2⟩ := h2; subst hg2
  refine lv_aload_n X.x X.bb dL_law_757 rfl (lv_at hl 2 rfl) ?_
  refine lv_aload_n X.x X.bb dL_law_758 rfl (lv_at hl 3 rfl) ?_
  refine lv_iload_n X.x X.bb dL_law_759 rfl (lv_at hl 0 rfl) ?_
  refine lv_iconst (v := 1) X.x X.bb dL_law_760 (by decide) ?_
  refine lv_iadd X.x X.bb dL_law_761 ?_
  refine va_sld X.x X.bb X.2.2.2.2.2.1 X.2.2.2.2.2.2.1 (Nat.not_le.mpr X.2.2.2.2.2.2.1) hW.2.2.1 (lw_in 1 hx3 (by omega) X.2.2.2.2.2.2.2.1 (by decide)) dL_law_762 ?_
  refine lw_callC (rv := some (.int r)) (As := [.int (xs (x3 + 1).toNatClampNeg)]) X hW (kX10_planned l (fun _ => trivial) h1) mv_X10_planned lkL_84 ⟨rfl, rfl⟩ ⟨Nat.le_of_ble_eq_true rfl, Nat.le_of_ble_eq_true rfl⟩ rfl rfl hl rfl (Nat.le_of_ble_eq_true rfl) dL_law_763 (fun H locs hW => ?_)
  refine lv_aload_n X.x X.bb dL_law_766 rfl (lv_at hl 1 rfl) ?_
  refine lv_aload_n X.x X.bb dL_law_767 rfl (lv_at hl 3 rfl) ?_
  refine lv_iload_n X.x X.bb dL_law_768 rfl (lv_at hl 0 rfl) ?_
  refine lv_iconst (v := 1) X.x X.bb dL_law_769 (by decide) ?_
  refine lv_iadd X.x X.bb dL_law_770 ?_
  refine va_sld X.x X.bb X.2.2.2.2.2.1 X.2.2.2.2.2.2.1 (Nat.not_le.mpr X.2.2.2.2.2.2.1) hW.2.2.1 (lw_in 1 hx3 (by omega) X.2.2.2.2.2.2.2.1 (by decide)) dL_law_771 ?_
  refine lw_callR (rv := some (.int r)) (As := [.int (xs (x3 + 1).toNatClampNeg)]) X hW (kX11_planned l (fun _ => trivial) h2) mv_X11_planned lkL_87 ⟨rfl, rfl⟩ ⟨Nat.le_of_ble_eq_true rfl, Nat.le_of_ble_eq_true rfl⟩ rfl rfl hl rfl (Nat.le_of_ble_eq_true rfl) dL_law_772 (fun H locs hW => ?_)
  refine lv_icmp_eq (tgt := 1283) X.x X.bb dL_law_775 (by decide) (fun _ => ?_) (fun z => absurd rfl z)
  exact kk gC1 gR1 H locs hR1 hW
set_option maxHeartbeats 4000000 in
set_option maxRecDepth 20000 in
theorem lw_c18 (X : Lw p l s m meth c b L xs kC kR) {i : Nat} {x3 : Int32} (hx3 : x3 = nI i) (hi : i + 6 ≤ L) {Rel : Mm → Mm → Prop} (hs : SH_settle Rel) {gC gR : Mm} (hR : Rel gC gR) (hW : Wl kC kR gC gR s H locs) {ls : Array Slot} (hl : lv_has ls 4 [(3, .int x3), (2, .ref (kR.1 + adR 0 0 0)), (1, .ref (kC.1 + adC 0 0 0)), (0, .ref b)])
    (kk : ∀ (gC gR : Mm) (H : Heap) (locs : List Loc), Rel gC gR → Wl kC kR gC gR s H locs → W p l e room_1 s m #[Value.ref b] below meth c H locs 190 6824 Q (F0 m 1283 ls [])) : W p l e room_1 s m #[Value.ref b] below meth c H locs 190 6824 Q (F0 m 780 ls []) := by
  obtain ⟨gC1, gR1, r, h1, h2, hR1⟩ := hs gC gR  hR
  refine lv_aload_n X.x X.bb dL_law_780 rfl (lv_at hl 2 rfl) ?_
  refine lw_callC (rv := some (.int r)) (As := []) X hW (kX10_settle l (fun _ => trivial) h1) mv_X10_settle lkL_88 ⟨rfl, rfl⟩ ⟨Nat.le_of_ble_eq_true rfl, Nat.le_of_ble_eq_true rfl⟩ rfl rfl hl rfl (Nat.le_of_ble_eq_true rfl) dL_law_781 (fun H locs hW => ?_)
  refine lv_aload_n X.x X.bb dL_law_784 rfl (lv_at hl 1 rfl) ?_
  refine lw_callR (rv := some (.int r)) (As := []) X hW (kX11_settle l (fun _ => trivial) h2) mv_X11_settle lkL_92 ⟨rfl, rfl⟩ ⟨Nat.le_of_ble_eq_true rfl, Nat.le_of_ble_eq_true rfl⟩ rfl rfl hl rfl (Nat.le_of_ble_eq_true rfl) dL_law_785 (fun H locs hW => ?_)
  refine lv_icmp_eq (tgt := 1283) X.x X.bb dL_law_788 (by decide) (fun _ => ?_) (fun z => absurd rfl z)
  exact kk gC1 gR1 H locs hR1 hW
set_option maxHeartbeats 4000000 in
set_option maxRecDepth 20000 in
theorem lw_c19 (X : Lw p l s m meth c b L xs kC kR) {i : Nat} {x3 : Int32} (hx3 : x3 = nI i) (hi : i + 6 ≤ L) {Rel : Mm → Mm → Prop} (hs : SH_estimate Rel) {gC gR : Mm} (hR : Rel gC gR) (hW : Wl kC kR gC gR s H locs) {ls : Array Slot} (hl : lv_has ls 4 [(3, .int x3), (2, .ref (kR.1 + adR 0 0 0)), (1, .ref (kC.1 + adC 0 0 0)), (0, .ref b)])
    (kk : ∀ (gC gR : Mm) (H : Heap) (locs : List Loc), Rel gC gR → Wl kC kR gC gR s H locs → W p l e room_1 s m #[Value.ref b] below meth c H locs 190 6824 Q (F0 m 1283 ls [])) : W p l e room_1 s m #[Value.ref b] below meth c H locs 190 6824 Q (F0 m 793 ls []) := by
  obtain ⟨gC1, gR1, r, h1, h2, hR1⟩ := hs gC gR (xs (x3 + 1).toNatClampNeg) (xs (x3 + 2).toNatClampNeg) hR
  refine lv_aload_n X.x X.bb dL_law_793 rfl (lv_at hl 2 rfl) ?_
  refine lv_aload_n X.x X.bb dL_law_794 rfl (lv_at hl 3 rfl) ?_
  refine lv_iload_n X.x X.bb dL_law_795 rfl (lv_at hl 0 rfl) ?_
  refine lv_iconst (v := 1) X.x X.bb dL_law_796 (by decide) ?_
  refine lv_iadd X.x X.bb dL_law_797 ?_
  refine va_sld X.x X.bb X.2.2.2.2.2.1 X.2.2.2.2.2.2.1 (Nat.not_le.mpr X.2.2.2.2.2.2.1) hW.2.2.1 (lw_in 1 hx3 (by omega) X.2.2.2.2.2.2.2.1 (by decide)) dL_law_798 ?_
  refine lv_aload_n X.x X.bb dL_law_799 rfl (lv_at hl 3 rfl) ?_
  refine lv_iload_n X.x X.bb dL_law_800 rfl (lv_at hl 0 rfl) ?_
  refine lv_iconst (v := 2) X.x X.bb dL_law_801 (by decide) ?_
  refine lv_iadd X.x X.bb dL_law_802 ?_
  refine va_sld X.x X.bb X.2.2.2.2.2.1 X.2.2.2.2.2.2.1 (Nat.not_le.mpr X.2.2.2.2.2.2.1) hW.2.2.1 (lw_in 2 hx3 (by omega) X.2.2.2.2.2.2.2.1 (by decide)) dL_law_803 ?_
  refine lw_callC (rv := some (.int r)) (As := [.int (xs (x3 + 1).toNatClampNeg), .int (xs (x3 + 2).toNatClampNeg)]) X hW (kX10_estimate l (fun _ => trivial) h1) mv_X10_estimate lkL_93 ⟨rfl, rfl⟩ ⟨Nat.le_of_ble_eq_true rfl, Nat.le_of_ble_eq_true rfl⟩ rfl rfl hl rfl (Nat.le_of_ble_eq_true rfl) dL_law_804 (fun H locs hW => ?_)
  refine lv_aload_n X.x X.bb dL_law_807 rfl (lv_at hl 1 rfl) ?_
  refine lv_aload_n X.x X.bb dL_law_808 rfl (lv_at hl 3 rfl) ?_
  refine lv_iload_n X.x X.bb dL_law_809 rfl (lv_at hl 0 rfl) ?_
  refine lv_iconst (v := 1) X.x X.bb dL_law_810 (by decide) ?_
  refine lv_iadd X.x X.bb dL_law_811 ?_
  refine va_sld X.x X.bb X.2.2.2.2.2.1 X.2.2.2.2.2.2.1 (Nat.not_le.mpr X.2.2.2.2.2.2.1) hW.2.2.1 (lw_in 1 hx3 (by omega) X.2.2.2.2.2.2.2.1 (by decide)) dL_law_812 ?_
  refine lv_aload_n X.x X.bb dL_law_813 rfl (lv_at hl 3 rfl) ?_
  refine lv_iload_n X.x X.bb dL_law_814 rfl (lv_at hl 0 rfl) ?_
  refine lv_iconst (v := 2) X.x X.bb dL_law_815 (by decide) ?_
  refine lv_iadd X.x X.bb dL_law_816 ?_
  refine va_sld X.x X.bb X.2.2.2.2.2.1 X.2.2.2.2.2.2.1 (Nat.not_le.mpr X.2.2.2.2.2.2.1) hW.2.2.1 (lw_in 2 hx3 (by omega) X.2.2.2.2.2.2.2.1 (by decide)) dL_law_817 ?_
  refine lw_callR (rv := some (.int r)) (As := [.int (xs (x3 + 1).toNatClampNeg), .int (xs (x3 + 2).toNatClampNeg)]) X hW (kX11_estimate l (fun _ => trivial) h2) mv_X11_estimate lkL_96 ⟨rfl, rfl⟩ ⟨Nat.le_of_ble_eq_true rfl, Nat.le_of_ble_eq_true rfl⟩ rfl rfl hl rfl (Nat.le_of_ble_eq_true rfl) dL_law_818 (fun H locs hW => ?_)
  refine lv_icmp_eq (tgt := 1283) X.x X.bb dL_law_821 (by decide) (fun _ => ?_) (fun z => absurd rfl z)
  exact kk gC1 gR1 H locs hR1 hW
set_option maxHeartbeats 4000000 in
set_option maxRecDepth 20000 in
theorem lw_c20 (X : Lw p l s m meth c b L xs kC kR) {i : Nat} {x3 : Int32} (hx3 : x3 = nI i) (hi : i + 6 ≤ L) {Rel : Mm → Mm → Prop} (hs : SH_expects Rel) {gC gR : Mm} (hR : Rel gC gR) (hW : Wl kC kR gC gR s H locs) {ls : Array Slot} (hl : lv_has ls 4 [(3, .int x3), (2, .ref (kR.1 + adR 0 0 0)), (1, .ref (kC.1 + adC 0 0 0)), (0, .ref b)])
    (kk : ∀ (gC gR : Mm) (H : Heap) (locs : List Loc), Rel gC gR → Wl kC kR gC gR s H locs → W p l e room_1 s m #[Value.ref b] below meth c H locs 190 6824 Q (F0 m 1283 ls [])) : W p l e room_1 s m #[Value.ref b] below meth c H locs 190 6824 Q (F0 m 826 ls []) := by
  obtain ⟨gC1, gR1, r, h1, h2, hR1⟩ := hs gC gR (xs (x3 + 1).toNatClampNeg) (xs (x3 + 2).toNatClampNeg) hR
  obtain ⟨h1, hg1⟩ := h1; subst hg1
  obtain ⟨h2, hg2⟩ := h2; subst hg2
  refine lv_aload_n X.x X.bb dL_law_826 rfl (lv_at hl 2 rfl) ?_
  refine lv_aload_n X.x X.bb dL_law_827 rfl (lv_at hl 3 rfl) ?_
  refine lv_iload_n X.x X.bb dL_law_828 rfl (lv_at hl 0 rfl) ?_
  refine lv_iconst (v := 1) X.x X.bb dL_law_829 (by decide) ?_
  refine lv_iadd X.x X.bb dL_law_830 ?_
  refine va_sld X.x X.bb X.2.2.2.2.2.1 X.2.2.2.2.2.2.1 (Nat.not_le.mpr X.2.2.2.2.2.2.1) hW.2.2.1 (lw_in 1 hx3 (by omega) X.2.2.2.2.2.2.2.1 (by decide)) dL_law_831 ?_
  refine lv_aload_n X.x X.bb dL_law_832 rfl (lv_at hl 3 rfl) ?_
  refine lv_iload_n X.x X.bb dL_law_833 rfl (lv_at hl 0 rfl) ?_
  refine lv_iconst (v := 2) X.x X.bb dL_law_834 (by decide) ?_
  refine lv_iadd X.x X.bb dL_law_835 ?_
  refine va_sld X.x X.bb X.2.2.2.2.2.1 X.2.2.2.2.2.2.1 (Nat.not_le.mpr X.2.2.2.2.2.2.1) hW.2.2.1 (lw_in 2 hx3 (by omega) X.2.2.2.2.2.2.2.1 (by decide)) dL_law_836 ?_
  refine lw_callC (rv := some (.int r)) (As := [.int (xs (x3 + 1).toNatClampNeg), .int (xs (x3 + 2).toNatClampNeg)]) X hW (kX10_expects l (fun _ => trivial) h1) mv_X10_expects lkL_97 ⟨rfl, rfl⟩ ⟨Nat.le_of_ble_eq_true rfl, Nat.le_of_ble_eq_true rfl⟩ rfl rfl hl rfl (Nat.le_of_ble_eq_true rfl) dL_law_837 (fun H locs hW => ?_)
  refine lv_aload_n X.x X.bb dL_law_840 rfl (lv_at hl 1 rfl) ?_
  refine lv_aload_n X.x X.bb dL_law_841 rfl (lv_at hl 3 rfl) ?_
  refine lv_iload_n X.x X.bb dL_law_842 rfl (lv_at hl 0 rfl) ?_
  refine lv_iconst (v := 1) X.x X.bb dL_law_843 (by decide) ?_
  refine lv_iadd X.x X.bb dL_law_844 ?_
  refine va_sld X.x X.bb X.2.2.2.2.2.1 X.2.2.2.2.2.2.1 (Nat.not_le.mpr X.2.2.2.2.2.2.1) hW.2.2.1 (lw_in 1 hx3 (by omega) X.2.2.2.2.2.2.2.1 (by decide)) dL_law_845 ?_
  refine lv_aload_n X.x X.bb dL_law_846 rfl (lv_at hl 3 rfl) ?_
  refine lv_iload_n X.x X.bb dL_law_847 rfl (lv_at hl 0 rfl) ?_
  refine lv_iconst (v := 2) X.x X.bb dL_law_848 (by decide) ?_
  refine lv_iadd X.x X.bb dL_law_849 ?_
  refine va_sld X.x X.bb X.2.2.2.2.2.1 X.2.2.2.2.2.2.1 (Nat.not_le.mpr X.2.2.2.2.2.2.1) hW.2.2.1 (lw_in 2 hx3 (by omega) X.2.2.2.2.2.2.2.1 (by decide)) dL_law_850 ?_
  refine lw_callR (rv := some (.int r)) (As := [.int (xs (x3 + 1).toNatClampNeg), .int (xs (x3 + 2).toNatClampNeg)]) X hW (kX11_expects l (fun _ => trivial) h2) mv_X11_expects lkL_100 ⟨rfl, rfl⟩ ⟨Nat.le_of_ble_eq_true rfl, Nat.le_of_ble_eq_true rfl⟩ rfl rfl hl rfl (Nat.le_of_ble_eq_true rfl) dL_law_851 (fun H locs hW => ?_)
  refine lv_icmp_eq (tgt := 1283) X.x X.bb dL_law_854 (by decide) (fun _ => ?_) (fun z => absurd rfl z)
  exact kk gC1 gR1 H locs hR1 hW
set_option maxHeartbeats 4000000 in
set_option maxRecDepth 20000 in
theorem lw_c21 (X : Lw p l s m meth c b L xs kC kR) {i : Nat} {x3 : Int32} (hx3 : x3 = nI i) (hi : i + 6 ≤ L) {Rel : Mm → Mm → Prop} (hs : SH_misses Rel) {gC gR : Mm} (hR : Rel gC gR) (hW : Wl kC kR gC gR s H locs) {ls : Array Slot} (hl : lv_has ls 4 [(3, .int x3), (2, .ref (kR.1 + adR 0 0 0)), (1, .ref (kC.1 + adC 0 0 0)), (0, .ref b)])
    (kk : ∀ (gC gR : Mm) (H : Heap) (locs : List Loc), Rel gC gR → Wl kC kR gC gR s H locs → W p l e room_1 s m #[Value.ref b] below meth c H locs 190 6824 Q (F0 m 1283 ls [])) : W p l e room_1 s m #[Value.ref b] below meth c H locs 190 6824 Q (F0 m 859 ls []) := by
  obtain ⟨gC1, gR1, r, h1, h2, hR1⟩ := hs gC gR (xs (x3 + 1).toNatClampNeg) (xs (x3 + 2).toNatClampNeg) hR
  obtain ⟨h1, hg1⟩ := h1; subst hg1
  obtain ⟨h2, hg2⟩ := h2; subst hg2
  refine lv_aload_n X.x X.bb dL_law_859 rfl (lv_at hl 2 rfl) ?_
  refine lv_aload_n X.x X.bb dL_law_860 rfl (lv_at hl 3 rfl) ?_
  refine lv_iload_n X.x X.bb dL_law_861 rfl (lv_at hl 0 rfl) ?_
  refine lv_iconst (v := 1) X.x X.bb dL_law_862 (by decide) ?_
  refine lv_iadd X.x X.bb dL_law_863 ?_
  refine va_sld X.x X.bb X.2.2.2.2.2.1 X.2.2.2.2.2.2.1 (Nat.not_le.mpr X.2.2.2.2.2.2.1) hW.2.2.1 (lw_in 1 hx3 (by omega) X.2.2.2.2.2.2.2.1 (by decide)) dL_law_864 ?_
  refine lv_aload_n X.x X.bb dL_law_865 rfl (lv_at hl 3 rfl) ?_
  refine lv_iload_n X.x X.bb dL_law_866 rfl (lv_at hl 0 rfl) ?_
  refine lv_iconst (v := 2) X.x X.bb dL_law_867 (by decide) ?_
  refine lv_iadd X.x X.bb dL_law_868 ?_
  refine va_sld X.x X.bb X.2.2.2.2.2.1 X.2.2.2.2.2.2.1 (Nat.not_le.mpr X.2.2.2.2.2.2.1) hW.2.2.1 (lw_in 2 hx3 (by omega) X.2.2.2.2.2.2.2.1 (by decide)) dL_law_869 ?_
  refine lw_callC (rv := some (.int r)) (As := [.int (xs (x3 + 1).toNatClampNeg), .int (xs (x3 + 2).toNatClampNeg)]) X hW (kX10_misses l (fun _ => trivial) h1) mv_X10_misses lkL_101 ⟨rfl, rfl⟩ ⟨Nat.le_of_ble_eq_true rfl, Nat.le_of_ble_eq_true rfl⟩ rfl rfl hl rfl (Nat.le_of_ble_eq_true rfl) dL_law_870 (fun H locs hW => ?_)
  refine lv_aload_n X.x X.bb dL_law_873 rfl (lv_at hl 1 rfl) ?_
  refine lv_aload_n X.x X.bb dL_law_874 rfl (lv_at hl 3 rfl) ?_
  refine lv_iload_n X.x X.bb dL_law_875 rfl (lv_at hl 0 rfl) ?_
  refine lv_iconst (v := 1) X.x X.bb dL_law_876 (by decide) ?_
  refine lv_iadd X.x X.bb dL_law_877 ?_
  refine va_sld X.x X.bb X.2.2.2.2.2.1 X.2.2.2.2.2.2.1 (Nat.not_le.mpr X.2.2.2.2.2.2.1) hW.2.2.1 (lw_in 1 hx3 (by omega) X.2.2.2.2.2.2.2.1 (by decide)) dL_law_878 ?_
  refine lv_aload_n X.x X.bb dL_law_879 rfl (lv_at hl 3 rfl) ?_
  refine lv_iload_n X.x X.bb dL_law_880 rfl (lv_at hl 0 rfl) ?_
  refine lv_iconst (v := 2) X.x X.bb dL_law_881 (by decide) ?_
  refine lv_iadd X.x X.bb dL_law_882 ?_
  refine va_sld X.x X.bb X.2.2.2.2.2.1 X.2.2.2.2.2.2.1 (Nat.not_le.mpr X.2.2.2.2.2.2.1) hW.2.2.1 (lw_in 2 hx3 (by omega) X.2.2.2.2.2.2.2.1 (by decide)) dL_law_883 ?_
  refine lw_callR (rv := some (.int r)) (As := [.int (xs (x3 + 1).toNatClampNeg), .int (xs (x3 + 2).toNatClampNeg)]) X hW (kX11_misses l (fun _ => trivial) h2) mv_X11_misses lkL_104 ⟨rfl, rfl⟩ ⟨Nat.le_of_ble_eq_true rfl, Nat.le_of_ble_eq_true rfl⟩ rfl rfl hl rfl (Nat.le_of_ble_eq_true rfl) dL_law_884 (fun H locs hW => ?_)
  refine lv_icmp_eq (tgt := 1283) X.x X.bb dL_law_887 (by decide) (fun _ => ?_) (fun z => absurd rfl z)
  exact kk gC1 gR1 H locs hR1 hW
set_option maxHeartbeats 4000000 in
set_option maxRecDepth 20000 in
theorem lw_c22 (X : Lw p l s m meth c b L xs kC kR) {i : Nat} {x3 : Int32} (hx3 : x3 = nI i) (hi : i + 6 ≤ L) {Rel : Mm → Mm → Prop} (hs : SH_feedTape Rel) {gC gR : Mm} (hR : Rel gC gR) (hW : Wl kC kR gC gR s H locs) {ls : Array Slot} (hl : lv_has ls 4 [(3, .int x3), (2, .ref (kR.1 + adR 0 0 0)), (1, .ref (kC.1 + adC 0 0 0)), (0, .ref b)])
    (kk : ∀ (gC gR : Mm) (H : Heap) (locs : List Loc), Rel gC gR → Wl kC kR gC gR s H locs → W p l e room_1 s m #[Value.ref b] below meth c H locs 190 6824 Q (F0 m 1283 ls [])) : W p l e room_1 s m #[Value.ref b] below meth c H locs 190 6824 Q (F0 m 892 ls []) := by
  obtain ⟨gC1, gR1, r, h1, h2, hR1⟩ := hs gC gR ((((xs (x3 + 1).toNatClampNeg).toInt64) <<< ((32 : Int32).toInt64 &&& 63)) ||| (((xs (x3 + 2).toNatClampNeg).toInt64) &&& (4294967295 : Int64))) (xs (x3 + 3).toNatClampNeg) hR
  refine lv_aload_n X.x X.bb dL_law_892 rfl (lv_at hl 2 rfl) ?_
  refine lv_aload_n X.x X.bb dL_law_893 rfl (lv_at hl 3 rfl) ?_
  refine lv_iload_n X.x X.bb dL_law_894 rfl (lv_at hl 0 rfl) ?_
  refine lv_iconst (v := 1) X.x X.bb dL_law_895 (by decide) ?_
  refine lv_iadd X.x X.bb dL_law_896 ?_
  refine va_sld X.x X.bb X.2.2.2.2.2.1 X.2.2.2.2.2.2.1 (Nat.not_le.mpr X.2.2.2.2.2.2.1) hW.2.2.1 (lw_in 1 hx3 (by omega) X.2.2.2.2.2.2.2.1 (by decide)) dL_law_897 ?_
  refine lv_i2l X.x X.bb dL_law_898 rfl ?_
  refine lv_bipush (v := 32) X.x X.bb dL_law_899 (by decide) ?_
  refine lv_lshl X.x X.bb dL_law_901 rfl ?_
  refine lv_aload_n X.x X.bb dL_law_902 rfl (lv_at hl 3 rfl) ?_
  refine lv_iload_n X.x X.bb dL_law_903 rfl (lv_at hl 0 rfl) ?_
  refine lv_iconst (v := 2) X.x X.bb dL_law_904 (by decide) ?_
  refine lv_iadd X.x X.bb dL_law_905 ?_
  refine va_sld X.x X.bb X.2.2.2.2.2.1 X.2.2.2.2.2.2.1 (Nat.not_le.mpr X.2.2.2.2.2.2.1) hW.2.2.1 (lw_in 2 hx3 (by omega) X.2.2.2.2.2.2.2.1 (by decide)) dL_law_906 ?_
  refine lv_i2l X.x X.bb dL_law_907 rfl ?_
  refine lv_ldc2 X.x X.bb X.o (X.t _ lcL_105) dL_law_908 ?_
  refine lv_land X.x X.bb dL_law_911 ?_
  refine lv_lor X.x X.bb dL_law_912 ?_
  refine lv_aload_n X.x X.bb dL_law_913 rfl (lv_at hl 3 rfl) ?_
  refine lv_iload_n X.x X.bb dL_law_914 rfl (lv_at hl 0 rfl) ?_
  refine lv_iconst (v := 3) X.x X.bb dL_law_915 (by decide) ?_
  refine lv_iadd X.x X.bb dL_law_916 ?_
  refine va_sld X.x X.bb X.2.2.2.2.2.1 X.2.2.2.2.2.2.1 (Nat.not_le.mpr X.2.2.2.2.2.2.1) hW.2.2.1 (lw_in 3 hx3 (by omega) X.2.2.2.2.2.2.2.1 (by decide)) dL_law_917 ?_
  refine lw_callC (rv := some (.int r)) (As := [.long ((((xs (x3 + 1).toNatClampNeg).toInt64) <<< ((32 : Int32).toInt64 &&& 63)) ||| (((xs (x3 + 2).toNatClampNeg).toInt64) &&& (4294967295 : Int64))), .int (xs (x3 + 3).toNatClampNeg)]) X hW (kX10_feedTape l (fun _ => trivial) h1) mv_X10_feedTape lkL_107 ⟨rfl, rfl⟩ ⟨Nat.le_of_ble_eq_true rfl, Nat.le_of_ble_eq_true rfl⟩ rfl rfl hl rfl (Nat.le_of_ble_eq_true rfl) dL_law_918 (fun H locs hW => ?_)
  refine lv_aload_n X.x X.bb dL_law_921 rfl (lv_at hl 1 rfl) ?_
  refine lv_aload_n X.x X.bb dL_law_922 rfl (lv_at hl 3 rfl) ?_
  refine lv_iload_n X.x X.bb dL_law_923 rfl (lv_at hl 0 rfl) ?_
  refine lv_iconst (v := 1) X.x X.bb dL_law_924 (by decide) ?_
  refine lv_iadd X.x X.bb dL_law_925 ?_
  refine va_sld X.x X.bb X.2.2.2.2.2.1 X.2.2.2.2.2.2.1 (Nat.not_le.mpr X.2.2.2.2.2.2.1) hW.2.2.1 (lw_in 1 hx3 (by omega) X.2.2.2.2.2.2.2.1 (by decide)) dL_law_926 ?_
  refine lv_i2l X.x X.bb dL_law_927 rfl ?_
  refine lv_bipush (v := 32) X.x X.bb dL_law_928 (by decide) ?_
  refine lv_lshl X.x X.bb dL_law_930 rfl ?_
  refine lv_aload_n X.x X.bb dL_law_931 rfl (lv_at hl 3 rfl) ?_
  refine lv_iload_n X.x X.bb dL_law_932 rfl (lv_at hl 0 rfl) ?_
  refine lv_iconst (v := 2) X.x X.bb dL_law_933 (by decide) ?_
  refine lv_iadd X.x X.bb dL_law_934 ?_
  refine va_sld X.x X.bb X.2.2.2.2.2.1 X.2.2.2.2.2.2.1 (Nat.not_le.mpr X.2.2.2.2.2.2.1) hW.2.2.1 (lw_in 2 hx3 (by omega) X.2.2.2.2.2.2.2.1 (by decide)) dL_law_935 ?_
  refine lv_i2l X.x X.bb dL_law_936 rfl ?_
  refine lv_ldc2 X.x X.bb X.o (X.t _ lcL_105) dL_law_937 ?_
  refine lv_land X.x X.bb dL_law_940 ?_
  refine lv_lor X.x X.bb dL_law_941 ?_
  refine lv_aload_n X.x X.bb dL_law_942 rfl (lv_at hl 3 rfl) ?_
  refine lv_iload_n X.x X.bb dL_law_943 rfl (lv_at hl 0 rfl) ?_
  refine lv_iconst (v := 3) X.x X.bb dL_law_944 (by decide) ?_
  refine lv_iadd X.x X.bb dL_law_945 ?_
  refine va_sld X.x X.bb X.2.2.2.2.2.1 X.2.2.2.2.2.2.1 (Nat.not_le.mpr X.2.2.2.2.2.2.1) hW.2.2.1 (lw_in 3 hx3 (by omega) X.2.2.2.2.2.2.2.1 (by decide)) dL_law_946 ?_
  refine lw_callR (rv := some (.int r)) (As := [.long ((((xs (x3 + 1).toNatClampNeg).toInt64) <<< ((32 : Int32).toInt64 &&& 63)) ||| (((xs (x3 + 2).toNatClampNeg).toInt64) &&& (4294967295 : Int64))), .int (xs (x3 + 3).toNatClampNeg)]) X hW (kX11_feedTape l (fun _ => trivial) h2) mv_X11_feedTape lkL_111 ⟨rfl, rfl⟩ ⟨Nat.le_of_ble_eq_true rfl, Nat.le_of_ble_eq_true rfl⟩ rfl rfl hl rfl (Nat.le_of_ble_eq_true rfl) dL_law_947 (fun H locs hW => ?_)
  refine lv_icmp_eq (tgt := 1283) X.x X.bb dL_law_950 (by decide) (fun _ => ?_) (fun z => absurd rfl z)
  exact kk gC1 gR1 H locs hR1 hW
set_option maxHeartbeats 4000000 in
set_option maxRecDepth 20000 in
theorem lw_c23 (X : Lw p l s m meth c b L xs kC kR) {i : Nat} {x3 : Int32} (hx3 : x3 = nI i) (hi : i + 6 ≤ L) {Rel : Mm → Mm → Prop} (hs : SH_text Rel) {gC gR : Mm} (hR : Rel gC gR) (hW : Wl kC kR gC gR s H locs) {ls : Array Slot} (hl : lv_has ls 4 [(3, .int x3), (2, .ref (kR.1 + adR 0 0 0)), (1, .ref (kC.1 + adC 0 0 0)), (0, .ref b)])
    (kk : ∀ (gC gR : Mm) (H : Heap) (locs : List Loc), Rel gC gR → Wl kC kR gC gR s H locs → W p l e room_1 s m #[Value.ref b] below meth c H locs 190 6824 Q (F0 m 1283 ls [])) : W p l e room_1 s m #[Value.ref b] below meth c H locs 190 6824 Q (F0 m 955 ls []) := by
  obtain ⟨gC1, gR1, r, h1, h2, hR1⟩ := hs gC gR  hR
  refine lv_aload_n X.x X.bb dL_law_955 rfl (lv_at hl 2 rfl) ?_
  refine lw_callC (rv := some (.int r)) (As := []) X hW (kX10_text l (fun _ => trivial) h1) mv_X10_text lkL_112 ⟨rfl, rfl⟩ ⟨Nat.le_of_ble_eq_true rfl, Nat.le_of_ble_eq_true rfl⟩ rfl rfl hl rfl (Nat.le_of_ble_eq_true rfl) dL_law_956 (fun H locs hW => ?_)
  refine lv_aload_n X.x X.bb dL_law_959 rfl (lv_at hl 1 rfl) ?_
  refine lw_callR (rv := some (.int r)) (As := []) X hW (kX11_text l (fun _ => trivial) h2) mv_X11_text lkL_115 ⟨rfl, rfl⟩ ⟨Nat.le_of_ble_eq_true rfl, Nat.le_of_ble_eq_true rfl⟩ rfl rfl hl rfl (Nat.le_of_ble_eq_true rfl) dL_law_960 (fun H locs hW => ?_)
  refine lv_icmp_eq (tgt := 1283) X.x X.bb dL_law_963 (by decide) (fun _ => ?_) (fun z => absurd rfl z)
  exact kk gC1 gR1 H locs hR1 hW
set_option maxHeartbeats 4000000 in
set_option maxRecDepth 20000 in
theorem lw_c24 (X : Lw p l s m meth c b L xs kC kR) {i : Nat} {x3 : Int32} (hx3 : x3 = nI i) (hi : i + 6 ≤ L) {Rel : Mm → Mm → Prop} (hs : SH_force Rel) {gC gR : Mm} (hR : Rel gC gR) (hW : Wl kC kR gC gR s H locs) {ls : Array Slot} (hl : lv_has ls 4 [(3, .int x3), (2, .ref (kR.1 + adR 0 0 0)), (1, .ref (kC.1 + adC 0 0 0)), (0, .ref b)])
    (kk : ∀ (gC gR : Mm) (H : Heap) (locs : List Loc), Rel gC gR → Wl kC kR gC gR s H locs → W p l e room_1 s m #[Value.ref b] below meth c H locs 190 6824 Q (F0 m 1283 ls [])) : W p l e room_1 s m #[Value.ref b] below meth c H locs 190 6824 Q (F0 m 968 ls []) := by
  obtain ⟨gC1, gR1, r, h1, h2, hR1⟩ := hs gC gR (xs (x3 + 1).toNatClampNeg) hR
  refine lv_aload_n X.x X.bb dL_law_968 rfl (lv_at hl 2 rfl) ?_
  refine lv_aload_n X.x X.bb dL_law_969 rfl (lv_at hl 3 rfl) ?_
  refine lv_iload_n X.x X.bb dL_law_970 rfl (lv_at hl 0 rfl) ?_
  refine lv_iconst (v := 1) X.x X.bb dL_law_971 (by decide) ?_
  refine lv_iadd X.x X.bb dL_law_972 ?_
  refine va_sld X.x X.bb X.2.2.2.2.2.1 X.2.2.2.2.2.2.1 (Nat.not_le.mpr X.2.2.2.2.2.2.1) hW.2.2.1 (lw_in 1 hx3 (by omega) X.2.2.2.2.2.2.2.1 (by decide)) dL_law_973 ?_
  refine lw_callC (rv := some (.int r)) (As := [.int (xs (x3 + 1).toNatClampNeg)]) X hW (kX10_force l (fun _ => trivial) h1) mv_X10_force lkL_116 ⟨rfl, rfl⟩ ⟨Nat.le_of_ble_eq_true rfl, Nat.le_of_ble_eq_true rfl⟩ rfl rfl hl rfl (Nat.le_of_ble_eq_true rfl) dL_law_974 (fun H locs hW => ?_)
  refine lv_aload_n X.x X.bb dL_law_977 rfl (lv_at hl 1 rfl) ?_
  refine lv_aload_n X.x X.bb dL_law_978 rfl (lv_at hl 3 rfl) ?_
  refine lv_iload_n X.x X.bb dL_law_979 rfl (lv_at hl 0 rfl) ?_
  refine lv_iconst (v := 1) X.x X.bb dL_law_980 (by decide) ?_
  refine lv_iadd X.x X.bb dL_law_981 ?_
  refine va_sld X.x X.bb X.2.2.2.2.2.1 X.2.2.2.2.2.2.1 (Nat.not_le.mpr X.2.2.2.2.2.2.1) hW.2.2.1 (lw_in 1 hx3 (by omega) X.2.2.2.2.2.2.2.1 (by decide)) dL_law_982 ?_
  refine lw_callR (rv := some (.int r)) (As := [.int (xs (x3 + 1).toNatClampNeg)]) X hW (kX11_force l (fun _ => trivial) h2) mv_X11_force lkL_119 ⟨rfl, rfl⟩ ⟨Nat.le_of_ble_eq_true rfl, Nat.le_of_ble_eq_true rfl⟩ rfl rfl hl rfl (Nat.le_of_ble_eq_true rfl) dL_law_983 (fun H locs hW => ?_)
  refine lv_icmp_eq (tgt := 1283) X.x X.bb dL_law_986 (by decide) (fun _ => ?_) (fun z => absurd rfl z)
  exact kk gC1 gR1 H locs hR1 hW
set_option maxHeartbeats 4000000 in
set_option maxRecDepth 20000 in
theorem lw_c25 (X : Lw p l s m meth c b L xs kC kR) {i : Nat} {x3 : Int32} (hx3 : x3 = nI i) (hi : i + 6 ≤ L) {Rel : Mm → Mm → Prop} (hs : SH_tells Rel) {gC gR : Mm} (hR : Rel gC gR) (hW : Wl kC kR gC gR s H locs) {ls : Array Slot} (hl : lv_has ls 4 [(3, .int x3), (2, .ref (kR.1 + adR 0 0 0)), (1, .ref (kC.1 + adC 0 0 0)), (0, .ref b)])
    (kk : ∀ (gC gR : Mm) (H : Heap) (locs : List Loc), Rel gC gR → Wl kC kR gC gR s H locs → W p l e room_1 s m #[Value.ref b] below meth c H locs 190 6824 Q (F0 m 1283 ls [])) : W p l e room_1 s m #[Value.ref b] below meth c H locs 190 6824 Q (F0 m 991 ls []) := by
  obtain ⟨gC1, gR1, r, h1, h2, hR1⟩ := hs gC gR (xs (x3 + 1).toNatClampNeg) (xs (x3 + 2).toNatClampNeg) hR
  refine lv_aload_n X.x X.bb dL_law_991 rfl (lv_at hl 2 rfl) ?_
  refine lv_aload_n X.x X.bb dL_law_992 rfl (lv_at hl 3 rfl) ?_
  refine lv_iload_n X.x X.bb dL_law_993 rfl (lv_at hl 0 rfl) ?_
  refine lv_iconst (v := 1) X.x X.bb dL_law_994 (by decide) ?_
  refine lv_iadd X.x X.bb dL_law_995 ?_
  refine va_sld X.x X.bb X.2.2.2.2.2.1 X.2.2.2.2.2.2.1 (Nat.not_le.mpr X.2.2.2.2.2.2.1) hW.2.2.1 (lw_in 1 hx3 (by omega) X.2.2.2.2.2.2.2.1 (by decide)) dL_law_996 ?_
  refine lv_aload_n X.x X.bb dL_law_997 rfl (lv_at hl 3 rfl) ?_
  refine lv_iload_n X.x X.bb dL_law_998 rfl (lv_at hl 0 rfl) ?_
  refine lv_iconst (v := 2) X.x X.bb dL_law_999 (by decide) ?_
  refine lv_iadd X.x X.bb dL_law_1000 ?_
  refine va_sld X.x X.bb X.2.2.2.2.2.1 X.2.2.2.2.2.2.1 (Nat.not_le.mpr X.2.2.2.2.2.2.1) hW.2.2.1 (lw_in 2 hx3 (by omega) X.2.2.2.2.2.2.2.1 (by decide)) dL_law_1001 ?_
  refine lw_callC (rv := some (.long r)) (As := [.int (xs (x3 + 1).toNatClampNeg), .int (xs (x3 + 2).toNatClampNeg)]) X hW (kX10_tells l (fun _ => trivial) h1) mv_X10_tells lkL_120 ⟨rfl, rfl⟩ ⟨Nat.le_of_ble_eq_true rfl, Nat.le_of_ble_eq_true rfl⟩ rfl rfl hl rfl (Nat.le_of_ble_eq_true rfl) dL_law_1002 (fun H locs hW => ?_)
  refine lv_aload_n X.x X.bb dL_law_1005 rfl (lv_at hl 1 rfl) ?_
  refine lv_aload_n X.x X.bb dL_law_1006 rfl (lv_at hl 3 rfl) ?_
  refine lv_iload_n X.x X.bb dL_law_1007 rfl (lv_at hl 0 rfl) ?_
  refine lv_iconst (v := 1) X.x X.bb dL_law_1008 (by decide) ?_
  refine lv_iadd X.x X.bb dL_law_1009 ?_
  refine va_sld X.x X.bb X.2.2.2.2.2.1 X.2.2.2.2.2.2.1 (Nat.not_le.mpr X.2.2.2.2.2.2.1) hW.2.2.1 (lw_in 1 hx3 (by omega) X.2.2.2.2.2.2.2.1 (by decide)) dL_law_1010 ?_
  refine lv_aload_n X.x X.bb dL_law_1011 rfl (lv_at hl 3 rfl) ?_
  refine lv_iload_n X.x X.bb dL_law_1012 rfl (lv_at hl 0 rfl) ?_
  refine lv_iconst (v := 2) X.x X.bb dL_law_1013 (by decide) ?_
  refine lv_iadd X.x X.bb dL_law_1014 ?_
  refine va_sld X.x X.bb X.2.2.2.2.2.1 X.2.2.2.2.2.2.1 (Nat.not_le.mpr X.2.2.2.2.2.2.1) hW.2.2.1 (lw_in 2 hx3 (by omega) X.2.2.2.2.2.2.2.1 (by decide)) dL_law_1015 ?_
  refine lw_callR (rv := some (.long r)) (As := [.int (xs (x3 + 1).toNatClampNeg), .int (xs (x3 + 2).toNatClampNeg)]) X hW (kX11_tells l (fun _ => trivial) h2) mv_X11_tells lkL_124 ⟨rfl, rfl⟩ ⟨Nat.le_of_ble_eq_true rfl, Nat.le_of_ble_eq_true rfl⟩ rfl rfl hl rfl (Nat.le_of_ble_eq_true rfl) dL_law_1016 (fun H locs hW => ?_)
  refine W.lcmp X.x X.bb dL_law_1019 ?_
  refine lv_if_eq (tgt := 1283) X.x X.bb dL_law_1020 (by decide) (fun _ => ?_) (fun z => absurd (lg_cmp_self r) z)
  exact kk gC1 gR1 H locs hR1 hW
set_option maxHeartbeats 4000000 in
set_option maxRecDepth 20000 in
theorem lw_c26 (X : Lw p l s m meth c b L xs kC kR) {i : Nat} {x3 : Int32} (hx3 : x3 = nI i) (hi : i + 6 ≤ L) {Rel : Mm → Mm → Prop} (hs : SH_count Rel) {gC gR : Mm} (hR : Rel gC gR) (hW : Wl kC kR gC gR s H locs) {ls : Array Slot} (hl : lv_has ls 4 [(3, .int x3), (2, .ref (kR.1 + adR 0 0 0)), (1, .ref (kC.1 + adC 0 0 0)), (0, .ref b)])
    (kk : ∀ (gC gR : Mm) (H : Heap) (locs : List Loc), Rel gC gR → Wl kC kR gC gR s H locs → W p l e room_1 s m #[Value.ref b] below meth c H locs 190 6824 Q (F0 m 1283 ls [])) : W p l e room_1 s m #[Value.ref b] below meth c H locs 190 6824 Q (F0 m 1025 ls []) := by
  obtain ⟨gC1, gR1, r, h1, h2, hR1⟩ := hs gC gR (xs (x3 + 1).toNatClampNeg) hR
  obtain ⟨h1, hg1⟩ := h1; subst hg1
  obtain ⟨h2, hg2⟩ := h2; subst hg2
  refine lv_aload_n X.x X.bb dL_law_1025 rfl (lv_at hl 2 rfl) ?_
  refine lv_aload_n X.x X.bb dL_law_1026 rfl (lv_at hl 3 rfl) ?_
  refine lv_iload_n X.x X.bb dL_law_1027 rfl (lv_at hl 0 rfl) ?_
  refine lv_iconst (v := 1) X.x X.bb dL_law_1028 (by decide) ?_
  refine lv_iadd X.x X.bb dL_law_1029 ?_
  refine va_sld X.x X.bb X.2.2.2.2.2.1 X.2.2.2.2.2.2.1 (Nat.not_le.mpr X.2.2.2.2.2.2.1) hW.2.2.1 (lw_in 1 hx3 (by omega) X.2.2.2.2.2.2.2.1 (by decide)) dL_law_1030 ?_
  refine lw_callC (rv := some (.int r)) (As := [.int (xs (x3 + 1).toNatClampNeg)]) X hW (kX10_count l (fun _ => trivial) h1) mv_X10_count lkL_125 ⟨rfl, rfl⟩ ⟨Nat.le_of_ble_eq_true rfl, Nat.le_of_ble_eq_true rfl⟩ rfl rfl hl rfl (Nat.le_of_ble_eq_true rfl) dL_law_1031 (fun H locs hW => ?_)
  refine lv_aload_n X.x X.bb dL_law_1034 rfl (lv_at hl 1 rfl) ?_
  refine lv_aload_n X.x X.bb dL_law_1035 rfl (lv_at hl 3 rfl) ?_
  refine lv_iload_n X.x X.bb dL_law_1036 rfl (lv_at hl 0 rfl) ?_
  refine lv_iconst (v := 1) X.x X.bb dL_law_1037 (by decide) ?_
  refine lv_iadd X.x X.bb dL_law_1038 ?_
  refine va_sld X.x X.bb X.2.2.2.2.2.1 X.2.2.2.2.2.2.1 (Nat.not_le.mpr X.2.2.2.2.2.2.1) hW.2.2.1 (lw_in 1 hx3 (by omega) X.2.2.2.2.2.2.2.1 (by decide)) dL_law_1039 ?_
  refine lw_callR (rv := some (.int r)) (As := [.int (xs (x3 + 1).toNatClampNeg)]) X hW (kX11_count l (fun _ => trivial) h2) mv_X11_count lkL_128 ⟨rfl, rfl⟩ ⟨Nat.le_of_ble_eq_true rfl, Nat.le_of_ble_eq_true rfl⟩ rfl rfl hl rfl (Nat.le_of_ble_eq_true rfl) dL_law_1040 (fun H locs hW => ?_)
  refine lv_icmp_eq (tgt := 1283) X.x X.bb dL_law_1043 (by decide) (fun _ => ?_) (fun z => absurd rfl z)
  exact kk gC1 gR1 H locs hR1 hW
set_option maxHeartbeats 4000000 in
set_option maxRecDepth 20000 in
theorem lw_c27 (X : Lw p l s m meth c b L xs kC kR) {i : Nat} {x3 : Int32} (hx3 : x3 = nI i) (hi : i + 6 ≤ L) {Rel : Mm → Mm → Prop} (hs : SH_sheet Rel) {gC gR : Mm} (hR : Rel gC gR) (hW : Wl kC kR gC gR s H locs) {ls : Array Slot} (hl : lv_has ls 4 [(3, .int x3), (2, .ref (kR.1 + adR 0 0 0)), (1, .ref (kC.1 + adC 0 0 0)), (0, .ref b)])
    (kk : ∀ (gC gR : Mm) (H : Heap) (locs : List Loc), Rel gC gR → Wl kC kR gC gR s H locs → W p l e room_1 s m #[Value.ref b] below meth c H locs 190 6824 Q (F0 m 1283 ls [])) : W p l e room_1 s m #[Value.ref b] below meth c H locs 190 6824 Q (F0 m 1048 ls []) := by
  obtain ⟨gC1, gR1, r, h1, h2, hR1⟩ := hs gC gR (xs (x3 + 1).toNatClampNeg) (xs (x3 + 2).toNatClampNeg) (xs (x3 + 3).toNatClampNeg) hR
  refine lv_aload_n X.x X.bb dL_law_1048 rfl (lv_at hl 2 rfl) ?_
  refine lv_aload_n X.x X.bb dL_law_1049 rfl (lv_at hl 3 rfl) ?_
  refine lv_iload_n X.x X.bb dL_law_1050 rfl (lv_at hl 0 rfl) ?_
  refine lv_iconst (v := 1) X.x X.bb dL_law_1051 (by decide) ?_
  refine lv_iadd X.x X.bb dL_law_1052 ?_
  refine va_sld X.x X.bb X.2.2.2.2.2.1 X.2.2.2.2.2.2.1 (Nat.not_le.mpr X.2.2.2.2.2.2.1) hW.2.2.1 (lw_in 1 hx3 (by omega) X.2.2.2.2.2.2.2.1 (by decide)) dL_law_1053 ?_
  refine lv_aload_n X.x X.bb dL_law_1054 rfl (lv_at hl 3 rfl) ?_
  refine lv_iload_n X.x X.bb dL_law_1055 rfl (lv_at hl 0 rfl) ?_
  refine lv_iconst (v := 2) X.x X.bb dL_law_1056 (by decide) ?_
  refine lv_iadd X.x X.bb dL_law_1057 ?_
  refine va_sld X.x X.bb X.2.2.2.2.2.1 X.2.2.2.2.2.2.1 (Nat.not_le.mpr X.2.2.2.2.2.2.1) hW.2.2.1 (lw_in 2 hx3 (by omega) X.2.2.2.2.2.2.2.1 (by decide)) dL_law_1058 ?_
  refine lv_aload_n X.x X.bb dL_law_1059 rfl (lv_at hl 3 rfl) ?_
  refine lv_iload_n X.x X.bb dL_law_1060 rfl (lv_at hl 0 rfl) ?_
  refine lv_iconst (v := 3) X.x X.bb dL_law_1061 (by decide) ?_
  refine lv_iadd X.x X.bb dL_law_1062 ?_
  refine va_sld X.x X.bb X.2.2.2.2.2.1 X.2.2.2.2.2.2.1 (Nat.not_le.mpr X.2.2.2.2.2.2.1) hW.2.2.1 (lw_in 3 hx3 (by omega) X.2.2.2.2.2.2.2.1 (by decide)) dL_law_1063 ?_
  refine lw_callC (rv := some (.int r)) (As := [.int (xs (x3 + 1).toNatClampNeg), .int (xs (x3 + 2).toNatClampNeg), .int (xs (x3 + 3).toNatClampNeg)]) X hW (kX10_sheet l (fun _ => trivial) h1) mv_X10_sheet lkL_129 ⟨rfl, rfl⟩ ⟨Nat.le_of_ble_eq_true rfl, Nat.le_of_ble_eq_true rfl⟩ rfl rfl hl rfl (Nat.le_of_ble_eq_true rfl) dL_law_1064 (fun H locs hW => ?_)
  refine lv_aload_n X.x X.bb dL_law_1067 rfl (lv_at hl 1 rfl) ?_
  refine lv_aload_n X.x X.bb dL_law_1068 rfl (lv_at hl 3 rfl) ?_
  refine lv_iload_n X.x X.bb dL_law_1069 rfl (lv_at hl 0 rfl) ?_
  refine lv_iconst (v := 1) X.x X.bb dL_law_1070 (by decide) ?_
  refine lv_iadd X.x X.bb dL_law_1071 ?_
  refine va_sld X.x X.bb X.2.2.2.2.2.1 X.2.2.2.2.2.2.1 (Nat.not_le.mpr X.2.2.2.2.2.2.1) hW.2.2.1 (lw_in 1 hx3 (by omega) X.2.2.2.2.2.2.2.1 (by decide)) dL_law_1072 ?_
  refine lv_aload_n X.x X.bb dL_law_1073 rfl (lv_at hl 3 rfl) ?_
  refine lv_iload_n X.x X.bb dL_law_1074 rfl (lv_at hl 0 rfl) ?_
  refine lv_iconst (v := 2) X.x X.bb dL_law_1075 (by decide) ?_
  refine lv_iadd X.x X.bb dL_law_1076 ?_
  refine va_sld X.x X.bb X.2.2.2.2.2.1 X.2.2.2.2.2.2.1 (Nat.not_le.mpr X.2.2.2.2.2.2.1) hW.2.2.1 (lw_in 2 hx3 (by omega) X.2.2.2.2.2.2.2.1 (by decide)) dL_law_1077 ?_
  refine lv_aload_n X.x X.bb dL_law_1078 rfl (lv_at hl 3 rfl) ?_
  refine lv_iload_n X.x X.bb dL_law_1079 rfl (lv_at hl 0 rfl) ?_
  refine lv_iconst (v := 3) X.x X.bb dL_law_1080 (by decide) ?_
  refine lv_iadd X.x X.bb dL_law_1081 ?_
  refine va_sld X.x X.bb X.2.2.2.2.2.1 X.2.2.2.2.2.2.1 (Nat.not_le.mpr X.2.2.2.2.2.2.1) hW.2.2.1 (lw_in 3 hx3 (by omega) X.2.2.2.2.2.2.2.1 (by decide)) dL_law_1082 ?_
  refine lw_callR (rv := some (.int r)) (As := [.int (xs (x3 + 1).toNatClampNeg), .int (xs (x3 + 2).toNatClampNeg), .int (xs (x3 + 3).toNatClampNeg)]) X hW (kX11_sheet l (fun _ => trivial) h2) mv_X11_sheet lkL_133 ⟨rfl, rfl⟩ ⟨Nat.le_of_ble_eq_true rfl, Nat.le_of_ble_eq_true rfl⟩ rfl rfl hl rfl (Nat.le_of_ble_eq_true rfl) dL_law_1083 (fun H locs hW => ?_)
  refine lv_icmp_eq (tgt := 1283) X.x X.bb dL_law_1086 (by decide) (fun _ => ?_) (fun z => absurd rfl z)
  exact kk gC1 gR1 H locs hR1 hW
set_option maxHeartbeats 4000000 in
set_option maxRecDepth 20000 in
theorem lw_c28 (X : Lw p l s m meth c b L xs kC kR) {i : Nat} {x3 : Int32} (hx3 : x3 = nI i) (hi : i + 6 ≤ L) {Rel : Mm → Mm → Prop} (hs : SH_cell Rel) {gC gR : Mm} (hR : Rel gC gR) (hW : Wl kC kR gC gR s H locs) {ls : Array Slot} (hl : lv_has ls 4 [(3, .int x3), (2, .ref (kR.1 + adR 0 0 0)), (1, .ref (kC.1 + adC 0 0 0)), (0, .ref b)])
    (kk : ∀ (gC gR : Mm) (H : Heap) (locs : List Loc), Rel gC gR → Wl kC kR gC gR s H locs → W p l e room_1 s m #[Value.ref b] below meth c H locs 190 6824 Q (F0 m 1283 ls [])) : W p l e room_1 s m #[Value.ref b] below meth c H locs 190 6824 Q (F0 m 1091 ls []) := by
  obtain ⟨gC1, gR1, r, h1, h2, hR1⟩ := hs gC gR (xs (x3 + 1).toNatClampNeg) (xs (x3 + 2).toNatClampNeg) (xs (x3 + 3).toNatClampNeg) hR
  refine lv_aload_n X.x X.bb dL_law_1091 rfl (lv_at hl 2 rfl) ?_
  refine lv_aload_n X.x X.bb dL_law_1092 rfl (lv_at hl 3 rfl) ?_
  refine lv_iload_n X.x X.bb dL_law_1093 rfl (lv_at hl 0 rfl) ?_
  refine lv_iconst (v := 1) X.x X.bb dL_law_1094 (by decide) ?_
  refine lv_iadd X.x X.bb dL_law_1095 ?_
  refine va_sld X.x X.bb X.2.2.2.2.2.1 X.2.2.2.2.2.2.1 (Nat.not_le.mpr X.2.2.2.2.2.2.1) hW.2.2.1 (lw_in 1 hx3 (by omega) X.2.2.2.2.2.2.2.1 (by decide)) dL_law_1096 ?_
  refine lv_aload_n X.x X.bb dL_law_1097 rfl (lv_at hl 3 rfl) ?_
  refine lv_iload_n X.x X.bb dL_law_1098 rfl (lv_at hl 0 rfl) ?_
  refine lv_iconst (v := 2) X.x X.bb dL_law_1099 (by decide) ?_
  refine lv_iadd X.x X.bb dL_law_1100 ?_
  refine va_sld X.x X.bb X.2.2.2.2.2.1 X.2.2.2.2.2.2.1 (Nat.not_le.mpr X.2.2.2.2.2.2.1) hW.2.2.1 (lw_in 2 hx3 (by omega) X.2.2.2.2.2.2.2.1 (by decide)) dL_law_1101 ?_
  refine lv_aload_n X.x X.bb dL_law_1102 rfl (lv_at hl 3 rfl) ?_
  refine lv_iload_n X.x X.bb dL_law_1103 rfl (lv_at hl 0 rfl) ?_
  refine lv_iconst (v := 3) X.x X.bb dL_law_1104 (by decide) ?_
  refine lv_iadd X.x X.bb dL_law_1105 ?_
  refine va_sld X.x X.bb X.2.2.2.2.2.1 X.2.2.2.2.2.2.1 (Nat.not_le.mpr X.2.2.2.2.2.2.1) hW.2.2.1 (lw_in 3 hx3 (by omega) X.2.2.2.2.2.2.2.1 (by decide)) dL_law_1106 ?_
  refine lw_callC (rv := some (.int r)) (As := [.int (xs (x3 + 1).toNatClampNeg), .int (xs (x3 + 2).toNatClampNeg), .int (xs (x3 + 3).toNatClampNeg)]) X hW (kX10_cell l (fun _ => trivial) h1) mv_X10_cell lkL_134 ⟨rfl, rfl⟩ ⟨Nat.le_of_ble_eq_true rfl, Nat.le_of_ble_eq_true rfl⟩ rfl rfl hl rfl (Nat.le_of_ble_eq_true rfl) dL_law_1107 (fun H locs hW => ?_)
  refine lv_aload_n X.x X.bb dL_law_1110 rfl (lv_at hl 1 rfl) ?_
  refine lv_aload_n X.x X.bb dL_law_1111 rfl (lv_at hl 3 rfl) ?_
  refine lv_iload_n X.x X.bb dL_law_1112 rfl (lv_at hl 0 rfl) ?_
  refine lv_iconst (v := 1) X.x X.bb dL_law_1113 (by decide) ?_
  refine lv_iadd X.x X.bb dL_law_1114 ?_
  refine va_sld X.x X.bb X.2.2.2.2.2.1 X.2.2.2.2.2.2.1 (Nat.not_le.mpr X.2.2.2.2.2.2.1) hW.2.2.1 (lw_in 1 hx3 (by omega) X.2.2.2.2.2.2.2.1 (by decide)) dL_law_1115 ?_
  refine lv_aload_n X.x X.bb dL_law_1116 rfl (lv_at hl 3 rfl) ?_
  refine lv_iload_n X.x X.bb dL_law_1117 rfl (lv_at hl 0 rfl) ?_
  refine lv_iconst (v := 2) X.x X.bb dL_law_1118 (by decide) ?_
  refine lv_iadd X.x X.bb dL_law_1119 ?_
  refine va_sld X.x X.bb X.2.2.2.2.2.1 X.2.2.2.2.2.2.1 (Nat.not_le.mpr X.2.2.2.2.2.2.1) hW.2.2.1 (lw_in 2 hx3 (by omega) X.2.2.2.2.2.2.2.1 (by decide)) dL_law_1120 ?_
  refine lv_aload_n X.x X.bb dL_law_1121 rfl (lv_at hl 3 rfl) ?_
  refine lv_iload_n X.x X.bb dL_law_1122 rfl (lv_at hl 0 rfl) ?_
  refine lv_iconst (v := 3) X.x X.bb dL_law_1123 (by decide) ?_
  refine lv_iadd X.x X.bb dL_law_1124 ?_
  refine va_sld X.x X.bb X.2.2.2.2.2.1 X.2.2.2.2.2.2.1 (Nat.not_le.mpr X.2.2.2.2.2.2.1) hW.2.2.1 (lw_in 3 hx3 (by omega) X.2.2.2.2.2.2.2.1 (by decide)) dL_law_1125 ?_
  refine lw_callR (rv := some (.int r)) (As := [.int (xs (x3 + 1).toNatClampNeg), .int (xs (x3 + 2).toNatClampNeg), .int (xs (x3 + 3).toNatClampNeg)]) X hW (kX11_cell l (fun _ => trivial) h2) mv_X11_cell lkL_137 ⟨rfl, rfl⟩ ⟨Nat.le_of_ble_eq_true rfl, Nat.le_of_ble_eq_true rfl⟩ rfl rfl hl rfl (Nat.le_of_ble_eq_true rfl) dL_law_1126 (fun H locs hW => ?_)
  refine lv_icmp_eq (tgt := 1283) X.x X.bb dL_law_1129 (by decide) (fun _ => ?_) (fun z => absurd rfl z)
  exact kk gC1 gR1 H locs hR1 hW
set_option maxHeartbeats 4000000 in
set_option maxRecDepth 20000 in
theorem lw_c29 (X : Lw p l s m meth c b L xs kC kR) {i : Nat} {x3 : Int32} (hx3 : x3 = nI i) (hi : i + 6 ≤ L) {Rel : Mm → Mm → Prop} (hs : SH_copy Rel) {gC gR : Mm} (hR : Rel gC gR) (hW : Wl kC kR gC gR s H locs) {ls : Array Slot} (hl : lv_has ls 4 [(3, .int x3), (2, .ref (kR.1 + adR 0 0 0)), (1, .ref (kC.1 + adC 0 0 0)), (0, .ref b)])
    (kk : ∀ (gC gR : Mm) (H : Heap) (locs : List Loc), Rel gC gR → Wl kC kR gC gR s H locs → W p l e room_1 s m #[Value.ref b] below meth c H locs 190 6824 Q (F0 m 1283 ls [])) : W p l e room_1 s m #[Value.ref b] below meth c H locs 190 6824 Q (F0 m 1134 ls []) := by
  obtain ⟨gC1, gR1, r, h1, h2, hR1⟩ := hs gC gR (xs (x3 + 1).toNatClampNeg) (xs (x3 + 2).toNatClampNeg) (xs (x3 + 3).toNatClampNeg) (xs (x3 + 4).toNatClampNeg) (xs (x3 + 5).toNatClampNeg) hR
  refine lv_aload_n X.x X.bb dL_law_1134 rfl (lv_at hl 2 rfl) ?_
  refine lv_aload_n X.x X.bb dL_law_1135 rfl (lv_at hl 3 rfl) ?_
  refine lv_iload_n X.x X.bb dL_law_1136 rfl (lv_at hl 0 rfl) ?_
  refine lv_iconst (v := 1) X.x X.bb dL_law_1137 (by decide) ?_
  refine lv_iadd X.x X.bb dL_law_1138 ?_
  refine va_sld X.x X.bb X.2.2.2.2.2.1 X.2.2.2.2.2.2.1 (Nat.not_le.mpr X.2.2.2.2.2.2.1) hW.2.2.1 (lw_in 1 hx3 (by omega) X.2.2.2.2.2.2.2.1 (by decide)) dL_law_1139 ?_
  refine lv_aload_n X.x X.bb dL_law_1140 rfl (lv_at hl 3 rfl) ?_
  refine lv_iload_n X.x X.bb dL_law_1141 rfl (lv_at hl 0 rfl) ?_
  refine lv_iconst (v := 2) X.x X.bb dL_law_1142 (by decide) ?_
  refine lv_iadd X.x X.bb dL_law_1143 ?_
  refine va_sld X.x X.bb X.2.2.2.2.2.1 X.2.2.2.2.2.2.1 (Nat.not_le.mpr X.2.2.2.2.2.2.1) hW.2.2.1 (lw_in 2 hx3 (by omega) X.2.2.2.2.2.2.2.1 (by decide)) dL_law_1144 ?_
  refine lv_aload_n X.x X.bb dL_law_1145 rfl (lv_at hl 3 rfl) ?_
  refine lv_iload_n X.x X.bb dL_law_1146 rfl (lv_at hl 0 rfl) ?_
  refine lv_iconst (v := 3) X.x X.bb dL_law_1147 (by decide) ?_
  refine lv_iadd X.x X.bb dL_law_1148 ?_
  refine va_sld X.x X.bb X.2.2.2.2.2.1 X.2.2.2.2.2.2.1 (Nat.not_le.mpr X.2.2.2.2.2.2.1) hW.2.2.1 (lw_in 3 hx3 (by omega) X.2.2.2.2.2.2.2.1 (by decide)) dL_law_1149 ?_
  refine lv_aload_n X.x X.bb dL_law_1150 rfl (lv_at hl 3 rfl) ?_
  refine lv_iload_n X.x X.bb dL_law_1151 rfl (lv_at hl 0 rfl) ?_
  refine lv_iconst (v := 4) X.x X.bb dL_law_1152 (by decide) ?_
  refine lv_iadd X.x X.bb dL_law_1153 ?_
  refine va_sld X.x X.bb X.2.2.2.2.2.1 X.2.2.2.2.2.2.1 (Nat.not_le.mpr X.2.2.2.2.2.2.1) hW.2.2.1 (lw_in 4 hx3 (by omega) X.2.2.2.2.2.2.2.1 (by decide)) dL_law_1154 ?_
  refine lv_aload_n X.x X.bb dL_law_1155 rfl (lv_at hl 3 rfl) ?_
  refine lv_iload_n X.x X.bb dL_law_1156 rfl (lv_at hl 0 rfl) ?_
  refine lv_iconst (v := 5) X.x X.bb dL_law_1157 (by decide) ?_
  refine lv_iadd X.x X.bb dL_law_1158 ?_
  refine va_sld X.x X.bb X.2.2.2.2.2.1 X.2.2.2.2.2.2.1 (Nat.not_le.mpr X.2.2.2.2.2.2.1) hW.2.2.1 (lw_in 5 hx3 (by omega) X.2.2.2.2.2.2.2.1 (by decide)) dL_law_1159 ?_
  refine lw_callC (rv := some (.int r)) (As := [.int (xs (x3 + 1).toNatClampNeg), .int (xs (x3 + 2).toNatClampNeg), .int (xs (x3 + 3).toNatClampNeg), .int (xs (x3 + 4).toNatClampNeg), .int (xs (x3 + 5).toNatClampNeg)]) X hW (kX10_copy l (fun _ => trivial) h1) mv_X10_copy lkL_138 ⟨rfl, rfl⟩ ⟨Nat.le_of_ble_eq_true rfl, Nat.le_of_ble_eq_true rfl⟩ rfl rfl hl rfl (Nat.le_of_ble_eq_true rfl) dL_law_1160 (fun H locs hW => ?_)
  refine lv_aload_n X.x X.bb dL_law_1163 rfl (lv_at hl 1 rfl) ?_
  refine lv_aload_n X.x X.bb dL_law_1164 rfl (lv_at hl 3 rfl) ?_
  refine lv_iload_n X.x X.bb dL_law_1165 rfl (lv_at hl 0 rfl) ?_
  refine lv_iconst (v := 1) X.x X.bb dL_law_1166 (by decide) ?_
  refine lv_iadd X.x X.bb dL_law_1167 ?_
  refine va_sld X.x X.bb X.2.2.2.2.2.1 X.2.2.2.2.2.2.1 (Nat.not_le.mpr X.2.2.2.2.2.2.1) hW.2.2.1 (lw_in 1 hx3 (by omega) X.2.2.2.2.2.2.2.1 (by decide)) dL_law_1168 ?_
  refine lv_aload_n X.x X.bb dL_law_1169 rfl (lv_at hl 3 rfl) ?_
  refine lv_iload_n X.x X.bb dL_law_1170 rfl (lv_at hl 0 rfl) ?_
  refine lv_iconst (v := 2) X.x X.bb dL_law_1171 (by decide) ?_
  refine lv_iadd X.x X.bb dL_law_1172 ?_
  refine va_sld X.x X.bb X.2.2.2.2.2.1 X.2.2.2.2.2.2.1 (Nat.not_le.mpr X.2.2.2.2.2.2.1) hW.2.2.1 (lw_in 2 hx3 (by omega) X.2.2.2.2.2.2.2.1 (by decide)) dL_law_1173 ?_
  refine lv_aload_n X.x X.bb dL_law_1174 rfl (lv_at hl 3 rfl) ?_
  refine lv_iload_n X.x X.bb dL_law_1175 rfl (lv_at hl 0 rfl) ?_
  refine lv_iconst (v := 3) X.x X.bb dL_law_1176 (by decide) ?_
  refine lv_iadd X.x X.bb dL_law_1177 ?_
  refine va_sld X.x X.bb X.2.2.2.2.2.1 X.2.2.2.2.2.2.1 (Nat.not_le.mpr X.2.2.2.2.2.2.1) hW.2.2.1 (lw_in 3 hx3 (by omega) X.2.2.2.2.2.2.2.1 (by decide)) dL_law_1178 ?_
  refine lv_aload_n X.x X.bb dL_law_1179 rfl (lv_at hl 3 rfl) ?_
  refine lv_iload_n X.x X.bb dL_law_1180 rfl (lv_at hl 0 rfl) ?_
  refine lv_iconst (v := 4) X.x X.bb dL_law_1181 (by decide) ?_
  refine lv_iadd X.x X.bb dL_law_1182 ?_
  refine va_sld X.x X.bb X.2.2.2.2.2.1 X.2.2.2.2.2.2.1 (Nat.not_le.mpr X.2.2.2.2.2.2.1) hW.2.2.1 (lw_in 4 hx3 (by omega) X.2.2.2.2.2.2.2.1 (by decide)) dL_law_1183 ?_
  refine lv_aload_n X.x X.bb dL_law_1184 rfl (lv_at hl 3 rfl) ?_
  refine lv_iload_n X.x X.bb dL_law_1185 rfl (lv_at hl 0 rfl) ?_
  refine lv_iconst (v := 5) X.x X.bb dL_law_1186 (by decide) ?_
  refine lv_iadd X.x X.bb dL_law_1187 ?_
  refine va_sld X.x X.bb X.2.2.2.2.2.1 X.2.2.2.2.2.2.1 (Nat.not_le.mpr X.2.2.2.2.2.2.1) hW.2.2.1 (lw_in 5 hx3 (by omega) X.2.2.2.2.2.2.2.1 (by decide)) dL_law_1188 ?_
  refine lw_callR (rv := some (.int r)) (As := [.int (xs (x3 + 1).toNatClampNeg), .int (xs (x3 + 2).toNatClampNeg), .int (xs (x3 + 3).toNatClampNeg), .int (xs (x3 + 4).toNatClampNeg), .int (xs (x3 + 5).toNatClampNeg)]) X hW (kX11_copy l (fun _ => trivial) h2) mv_X11_copy lkL_142 ⟨rfl, rfl⟩ ⟨Nat.le_of_ble_eq_true rfl, Nat.le_of_ble_eq_true rfl⟩ rfl rfl hl rfl (Nat.le_of_ble_eq_true rfl) dL_law_1189 (fun H locs hW => ?_)
  refine lv_icmp_eq (tgt := 1283) X.x X.bb dL_law_1192 (by decide) (fun _ => ?_) (fun z => absurd rfl z)
  exact kk gC1 gR1 H locs hR1 hW
set_option maxHeartbeats 4000000 in
set_option maxRecDepth 20000 in
theorem lw_c30 (X : Lw p l s m meth c b L xs kC kR) {i : Nat} {x3 : Int32} (hx3 : x3 = nI i) (hi : i + 6 ≤ L) {Rel : Mm → Mm → Prop} (hs : SH_visits Rel) {gC gR : Mm} (hR : Rel gC gR) (hW : Wl kC kR gC gR s H locs) {ls : Array Slot} (hl : lv_has ls 4 [(3, .int x3), (2, .ref (kR.1 + adR 0 0 0)), (1, .ref (kC.1 + adC 0 0 0)), (0, .ref b)])
    (kk : ∀ (gC gR : Mm) (H : Heap) (locs : List Loc), Rel gC gR → Wl kC kR gC gR s H locs → W p l e room_1 s m #[Value.ref b] below meth c H locs 190 6824 Q (F0 m 1283 ls [])) : W p l e room_1 s m #[Value.ref b] below meth c H locs 190 6824 Q (F0 m 1197 ls []) := by
  obtain ⟨gC1, gR1, r, h1, h2, hR1⟩ := hs gC gR (xs (x3 + 1).toNatClampNeg) (xs (x3 + 2).toNatClampNeg) (xs (x3 + 3).toNatClampNeg) (xs (x3 + 4).toNatClampNeg) hR
  refine lv_aload_n X.x X.bb dL_law_1197 rfl (lv_at hl 2 rfl) ?_
  refine lv_aload_n X.x X.bb dL_law_1198 rfl (lv_at hl 3 rfl) ?_
  refine lv_iload_n X.x X.bb dL_law_1199 rfl (lv_at hl 0 rfl) ?_
  refine lv_iconst (v := 1) X.x X.bb dL_law_1200 (by decide) ?_
  refine lv_iadd X.x X.bb dL_law_1201 ?_
  refine va_sld X.x X.bb X.2.2.2.2.2.1 X.2.2.2.2.2.2.1 (Nat.not_le.mpr X.2.2.2.2.2.2.1) hW.2.2.1 (lw_in 1 hx3 (by omega) X.2.2.2.2.2.2.2.1 (by decide)) dL_law_1202 ?_
  refine lv_aload_n X.x X.bb dL_law_1203 rfl (lv_at hl 3 rfl) ?_
  refine lv_iload_n X.x X.bb dL_law_1204 rfl (lv_at hl 0 rfl) ?_
  refine lv_iconst (v := 2) X.x X.bb dL_law_1205 (by decide) ?_
  refine lv_iadd X.x X.bb dL_law_1206 ?_
  refine va_sld X.x X.bb X.2.2.2.2.2.1 X.2.2.2.2.2.2.1 (Nat.not_le.mpr X.2.2.2.2.2.2.1) hW.2.2.1 (lw_in 2 hx3 (by omega) X.2.2.2.2.2.2.2.1 (by decide)) dL_law_1207 ?_
  refine lv_aload_n X.x X.bb dL_law_1208 rfl (lv_at hl 3 rfl) ?_
  refine lv_iload_n X.x X.bb dL_law_1209 rfl (lv_at hl 0 rfl) ?_
  refine lv_iconst (v := 3) X.x X.bb dL_law_1210 (by decide) ?_
  refine lv_iadd X.x X.bb dL_law_1211 ?_
  refine va_sld X.x X.bb X.2.2.2.2.2.1 X.2.2.2.2.2.2.1 (Nat.not_le.mpr X.2.2.2.2.2.2.1) hW.2.2.1 (lw_in 3 hx3 (by omega) X.2.2.2.2.2.2.2.1 (by decide)) dL_law_1212 ?_
  refine lv_aload_n X.x X.bb dL_law_1213 rfl (lv_at hl 3 rfl) ?_
  refine lv_iload_n X.x X.bb dL_law_1214 rfl (lv_at hl 0 rfl) ?_
  refine lv_iconst (v := 4) X.x X.bb dL_law_1215 (by decide) ?_
  refine lv_iadd X.x X.bb dL_law_1216 ?_
  refine va_sld X.x X.bb X.2.2.2.2.2.1 X.2.2.2.2.2.2.1 (Nat.not_le.mpr X.2.2.2.2.2.2.1) hW.2.2.1 (lw_in 4 hx3 (by omega) X.2.2.2.2.2.2.2.1 (by decide)) dL_law_1217 ?_
  refine lw_callC (rv := some (.int r)) (As := [.int (xs (x3 + 1).toNatClampNeg), .int (xs (x3 + 2).toNatClampNeg), .int (xs (x3 + 3).toNatClampNeg), .int (xs (x3 + 4).toNatClampNeg)]) X hW (kX10_visits l (fun _ => trivial) h1) mv_X10_visits lkL_143 ⟨rfl, rfl⟩ ⟨Nat.le_of_ble_eq_true rfl, Nat.le_of_ble_eq_true rfl⟩ rfl rfl hl rfl (Nat.le_of_ble_eq_true rfl) dL_law_1218 (fun H locs hW => ?_)
  refine lv_aload_n X.x X.bb dL_law_1221 rfl (lv_at hl 1 rfl) ?_
  refine lv_aload_n X.x X.bb dL_law_1222 rfl (lv_at hl 3 rfl) ?_
  refine lv_iload_n X.x X.bb dL_law_1223 rfl (lv_at hl 0 rfl) ?_
  refine lv_iconst (v := 1) X.x X.bb dL_law_1224 (by decide) ?_
  refine lv_iadd X.x X.bb dL_law_1225 ?_
  refine va_sld X.x X.bb X.2.2.2.2.2.1 X.2.2.2.2.2.2.1 (Nat.not_le.mpr X.2.2.2.2.2.2.1) hW.2.2.1 (lw_in 1 hx3 (by omega) X.2.2.2.2.2.2.2.1 (by decide)) dL_law_1226 ?_
  refine lv_aload_n X.x X.bb dL_law_1227 rfl (lv_at hl 3 rfl) ?_
  refine lv_iload_n X.x X.bb dL_law_1228 rfl (lv_at hl 0 rfl) ?_
  refine lv_iconst (v := 2) X.x X.bb dL_law_1229 (by decide) ?_
  refine lv_iadd X.x X.bb dL_law_1230 ?_
  refine va_sld X.x X.bb X.2.2.2.2.2.1 X.2.2.2.2.2.2.1 (Nat.not_le.mpr X.2.2.2.2.2.2.1) hW.2.2.1 (lw_in 2 hx3 (by omega) X.2.2.2.2.2.2.2.1 (by decide)) dL_law_1231 ?_
  refine lv_aload_n X.x X.bb dL_law_1232 rfl (lv_at hl 3 rfl) ?_
  refine lv_iload_n X.x X.bb dL_law_1233 rfl (lv_at hl 0 rfl) ?_
  refine lv_iconst (v := 3) X.x X.bb dL_law_1234 (by decide) ?_
  refine lv_iadd X.x X.bb dL_law_1235 ?_
  refine va_sld X.x X.bb X.2.2.2.2.2.1 X.2.2.2.2.2.2.1 (Nat.not_le.mpr X.2.2.2.2.2.2.1) hW.2.2.1 (lw_in 3 hx3 (by omega) X.2.2.2.2.2.2.2.1 (by decide)) dL_law_1236 ?_
  refine lv_aload_n X.x X.bb dL_law_1237 rfl (lv_at hl 3 rfl) ?_
  refine lv_iload_n X.x X.bb dL_law_1238 rfl (lv_at hl 0 rfl) ?_
  refine lv_iconst (v := 4) X.x X.bb dL_law_1239 (by decide) ?_
  refine lv_iadd X.x X.bb dL_law_1240 ?_
  refine va_sld X.x X.bb X.2.2.2.2.2.1 X.2.2.2.2.2.2.1 (Nat.not_le.mpr X.2.2.2.2.2.2.1) hW.2.2.1 (lw_in 4 hx3 (by omega) X.2.2.2.2.2.2.2.1 (by decide)) dL_law_1241 ?_
  refine lw_callR (rv := some (.int r)) (As := [.int (xs (x3 + 1).toNatClampNeg), .int (xs (x3 + 2).toNatClampNeg), .int (xs (x3 + 3).toNatClampNeg), .int (xs (x3 + 4).toNatClampNeg)]) X hW (kX11_visits l (fun _ => trivial) h2) mv_X11_visits lkL_146 ⟨rfl, rfl⟩ ⟨Nat.le_of_ble_eq_true rfl, Nat.le_of_ble_eq_true rfl⟩ rfl rfl hl rfl (Nat.le_of_ble_eq_true rfl) dL_law_1242 (fun H locs hW => ?_)
  refine lv_icmp_eq (tgt := 1283) X.x X.bb dL_law_1245 (by decide) (fun _ => ?_) (fun z => absurd rfl z)
  exact kk gC1 gR1 H locs hR1 hW
set_option maxHeartbeats 4000000 in
set_option maxRecDepth 20000 in
theorem lw_c31 (X : Lw p l s m meth c b L xs kC kR) {i : Nat} {x3 : Int32} (hx3 : x3 = nI i) (hi : i + 6 ≤ L) {Rel : Mm → Mm → Prop} (hs : SH_taken Rel) {gC gR : Mm} (hR : Rel gC gR) (hW : Wl kC kR gC gR s H locs) {ls : Array Slot} (hl : lv_has ls 4 [(3, .int x3), (2, .ref (kR.1 + adR 0 0 0)), (1, .ref (kC.1 + adC 0 0 0)), (0, .ref b)])
    (kk : ∀ (gC gR : Mm) (H : Heap) (locs : List Loc), Rel gC gR → Wl kC kR gC gR s H locs → W p l e room_1 s m #[Value.ref b] below meth c H locs 190 6824 Q (F0 m 1283 ls [])) : W p l e room_1 s m #[Value.ref b] below meth c H locs 190 6824 Q (F0 m 1250 ls []) := by
  obtain ⟨gC1, gR1, r, h1, h2, hR1⟩ := hs gC gR (xs (x3 + 1).toNatClampNeg) (xs (x3 + 2).toNatClampNeg) hR
  obtain ⟨h1, hg1⟩ := h1; subst hg1
  obtain ⟨h2, hg2⟩ := h2; subst hg2
  refine lv_aload_n X.x X.bb dL_law_1250 rfl (lv_at hl 2 rfl) ?_
  refine lv_aload_n X.x X.bb dL_law_1251 rfl (lv_at hl 3 rfl) ?_
  refine lv_iload_n X.x X.bb dL_law_1252 rfl (lv_at hl 0 rfl) ?_
  refine lv_iconst (v := 1) X.x X.bb dL_law_1253 (by decide) ?_
  refine lv_iadd X.x X.bb dL_law_1254 ?_
  refine va_sld X.x X.bb X.2.2.2.2.2.1 X.2.2.2.2.2.2.1 (Nat.not_le.mpr X.2.2.2.2.2.2.1) hW.2.2.1 (lw_in 1 hx3 (by omega) X.2.2.2.2.2.2.2.1 (by decide)) dL_law_1255 ?_
  refine lv_aload_n X.x X.bb dL_law_1256 rfl (lv_at hl 3 rfl) ?_
  refine lv_iload_n X.x X.bb dL_law_1257 rfl (lv_at hl 0 rfl) ?_
  refine lv_iconst (v := 2) X.x X.bb dL_law_1258 (by decide) ?_
  refine lv_iadd X.x X.bb dL_law_1259 ?_
  refine va_sld X.x X.bb X.2.2.2.2.2.1 X.2.2.2.2.2.2.1 (Nat.not_le.mpr X.2.2.2.2.2.2.1) hW.2.2.1 (lw_in 2 hx3 (by omega) X.2.2.2.2.2.2.2.1 (by decide)) dL_law_1260 ?_
  refine lw_callC (rv := some (.int r)) (As := [.int (xs (x3 + 1).toNatClampNeg), .int (xs (x3 + 2).toNatClampNeg)]) X hW (kX10_taken l (fun _ => trivial) h1) mv_X10_taken lkL_147 ⟨rfl, rfl⟩ ⟨Nat.le_of_ble_eq_true rfl, Nat.le_of_ble_eq_true rfl⟩ rfl rfl hl rfl (Nat.le_of_ble_eq_true rfl) dL_law_1261 (fun H locs hW => ?_)
  refine lv_aload_n X.x X.bb dL_law_1264 rfl (lv_at hl 1 rfl) ?_
  refine lv_aload_n X.x X.bb dL_law_1265 rfl (lv_at hl 3 rfl) ?_
  refine lv_iload_n X.x X.bb dL_law_1266 rfl (lv_at hl 0 rfl) ?_
  refine lv_iconst (v := 1) X.x X.bb dL_law_1267 (by decide) ?_
  refine lv_iadd X.x X.bb dL_law_1268 ?_
  refine va_sld X.x X.bb X.2.2.2.2.2.1 X.2.2.2.2.2.2.1 (Nat.not_le.mpr X.2.2.2.2.2.2.1) hW.2.2.1 (lw_in 1 hx3 (by omega) X.2.2.2.2.2.2.2.1 (by decide)) dL_law_1269 ?_
  refine lv_aload_n X.x X.bb dL_law_1270 rfl (lv_at hl 3 rfl) ?_
  refine lv_iload_n X.x X.bb dL_law_1271 rfl (lv_at hl 0 rfl) ?_
  refine lv_iconst (v := 2) X.x X.bb dL_law_1272 (by decide) ?_
  refine lv_iadd X.x X.bb dL_law_1273 ?_
  refine va_sld X.x X.bb X.2.2.2.2.2.1 X.2.2.2.2.2.2.1 (Nat.not_le.mpr X.2.2.2.2.2.2.1) hW.2.2.1 (lw_in 2 hx3 (by omega) X.2.2.2.2.2.2.2.1 (by decide)) dL_law_1274 ?_
  refine lw_callR (rv := some (.int r)) (As := [.int (xs (x3 + 1).toNatClampNeg), .int (xs (x3 + 2).toNatClampNeg)]) X hW (kX11_taken l (fun _ => trivial) h2) mv_X11_taken lkL_150 ⟨rfl, rfl⟩ ⟨Nat.le_of_ble_eq_true rfl, Nat.le_of_ble_eq_true rfl⟩ rfl rfl hl rfl (Nat.le_of_ble_eq_true rfl) dL_law_1275 (fun H locs hW => ?_)
  refine lv_icmp_eq (tgt := 1283) X.x X.bb dL_law_1278 (by decide) (fun _ => ?_) (fun z => absurd rfl z)
  exact kk gC1 gR1 H locs hR1 hW
set_option maxHeartbeats 4000000 in
set_option maxRecDepth 20000 in
/-- the law's loop -/
theorem lw_loop (X : Lw p l s m meth c b L xs kC kR) (hgv : (Jvm.Cond.and given_1 narrow_1).before #[Value.ref b] s = true) {Rel : Mm → Mm → Prop} (hs : SH_all Rel) :
    ∀ (fu i : Nat) (x3 : Int32), i ≤ L + 6 → L + 7 ≤ i + fu → x3 = nI i → ∀ (gC gR : Mm), Rel gC gR → ∀ (H : Heap) (locs : List Loc) (ls : Array Slot), Wl kC kR gC gR s H locs → lv_has ls 4 [(3, .int x3), (2, .ref (kR.1 + adR 0 0 0)), (1, .ref (kC.1 + adC 0 0 0)), (0, .ref b)] → W p l e room_1 s m #[Value.ref b] below meth c H locs 190 6824 (lw_Z below #[Value.ref b] s) (F0 m 18 ls []) := by
  intro fu
  induction fu with
  | zero => intro i x3 h1 h2; omega
  | succ fu ih =>
    intro i x3 hi hfu hx3 gC gR hR H locs ls hW hl
    obtain ⟨s0, s1, s2, s3, s4, s5, s6, s7, s8, s9, s10, s11, s12, s13, s14, s15, s16, s17, s18, s19, s20, s21, s22, s23, s24, s25, s26, s27, s28, s29, s30, s31⟩ := hs
    have hL := X.2.2.2.2.2.2.2.1
    refine lv_iload_n X.x X.bb dL_law_18 rfl (lv_at hl 0 rfl) ?_
    refine lv_aload_n X.x X.bb dL_law_19 rfl (lv_at hl 3 rfl) ?_
    refine va_slen X.x X.bb X.2.2.2.2.2.1 X.2.2.2.2.2.2.1 (Nat.not_le.mpr X.2.2.2.2.2.2.1) hW.2.2.1 dL_law_20 ?_
    refine lv_bipush (v := 6) X.x X.bb dL_law_21 (by decide) ?_
    refine lv_isub X.x X.bb dL_law_23 ?_
    refine lv_icmp_gt (tgt := 1289) X.x X.bb dL_law_24 (by decide) (fun q => ?_) (fun q => ?_)
    · refine lv_iconst (v := 1) X.x X.bb dL_law_1289 (by decide) ?_
      refine va_forget hW.2.2.1.2.2 ?_
      refine W.widen (k := 600000) (n := 7302250) (Nat.le_of_ble_eq_true rfl) (Nat.le_of_ble_eq_true rfl) ?_
      exact lw_ret X.x X.bb X.2.2.2.2.2.2.2.2.1 X.2.2.2.2.2.2.2.2.2 dL_law_1290
    · have hi6 : i + 6 ≤ L := lw_lt hx3 hL hi q
      have again : ∀ (gC gR : Mm) (H : Heap) (locs : List Loc), Rel gC gR → Wl kC kR gC gR s H locs → W p l e room_1 s m #[Value.ref b] below meth c H locs 190 6824 (lw_Z below #[Value.ref b] s) (F0 m 1283 ls []) := by
        intro gC gR H locs hR hW
        obtain ⟨x4, ex4⟩ : ∃ y : Int32, y = x3 + 6 := ⟨_, rfl⟩
        refine lv_iinc (v := x4) (lv' := [(3, .int x4), (2, .ref (kR.1 + adR 0 0 0)), (1, .ref (kC.1 + adC 0 0 0)), (0, .ref b)]) X.x X.bb dL_law_1283 hl (k := 0) rfl (by rw [ex4]; rfl) (by decide) rfl (fun ls hl => ?_)
        refine lv_goto (tgt := 18) X.x X.bb dL_law_1286 (by decide) ?_
        exact ih (i + 6) x4 (by omega) (by omega) (by rw [ex4, hx3]; exact nI_add i 6) gC gR hR H locs ls hW hl
      refine lv_aload_n X.x X.bb dL_law_27 rfl (lv_at hl 3 rfl) ?_
      refine lv_iload_n X.x X.bb dL_law_28 rfl (lv_at hl 0 rfl) ?_
      refine va_sld X.x X.bb X.2.2.2.2.2.1 X.2.2.2.2.2.2.1 (Nat.not_le.mpr X.2.2.2.2.2.2.1) hW.2.2.1 (by rw [hx3]; exact vp_in_nI (by omega) (by omega)) dL_law_29 ?_
      refine lv_bipush (v := 31) X.x X.bb dL_law_30 (by decide) ?_
      refine lv_iand X.x X.bb dL_law_32 ?_
      refine lv_topi (fun y5 _ => ?_)
      by_cases c0 : y5 = (0 : Int32)
      · refine lv_tableIn (off := 143) (tgt := 176) X.x X.bb dL_law_33 (by rw [c0]; decide) (by rw [c0]; decide) (by rw [c0]; rfl) (by decide) ?_
        exact lw_c0 X hx3 hi6 s0 hR hW hl again
      by_cases c1 : y5 = (1 : Int32)
      · refine lv_tableIn (off := 166) (tgt := 199) X.x X.bb dL_law_33 (by rw [c1]; decide) (by rw [c1]; decide) (by rw [c1]; rfl) (by decide) ?_
        exact lw_c1 X hx3 hi6 s1 hR hW hl again
      by_cases c2 : y5 = (2 : Int32)
      · refine lv_tableIn (off := 199) (tgt := 232) X.x X.bb dL_law_33 (by rw [c2]; decide) (by rw [c2]; decide) (by rw [c2]; rfl) (by decide) ?_
        exact lw_c2 X hx3 hi6 s2 hR hW hl again
      by_cases c3 : y5 = (3 : Int32)
      · refine lv_tableIn (off := 252) (tgt := 285) X.x X.bb dL_law_33 (by rw [c3]; decide) (by rw [c3]; decide) (by rw [c3]; rfl) (by decide) ?_
        exact lw_c3 X hx3 hi6 s3 hR hW hl again
      by_cases c4 : y5 = (4 : Int32)
      · refine lv_tableIn (off := 285) (tgt := 318) X.x X.bb dL_law_33 (by rw [c4]; decide) (by rw [c4]; decide) (by rw [c4]; rfl) (by decide) ?_
        exact lw_c4 X hx3 hi6 s4 hR hW hl again
      by_cases c5 : y5 = (5 : Int32)
      · refine lv_tableIn (off := 318) (tgt := 351) X.x X.bb dL_law_33 (by rw [c5]; decide) (by rw [c5]; decide) (by rw [c5]; rfl) (by decide) ?_
        exact lw_c5 X hx3 hi6 s5 hR hW hl again
      by_cases c6 : y5 = (6 : Int32)
      · refine lv_tableIn (off := 371) (tgt := 404) X.x X.bb dL_law_33 (by rw [c6]; decide) (by rw [c6]; decide) (by rw [c6]; rfl) (by decide) ?_
        exact lw_c6 X hx3 hi6 s6 hR hW hl again
      by_cases c7 : y5 = (7 : Int32)
      · refine lv_tableIn (off := 394) (tgt := 427) X.x X.bb dL_law_33 (by rw [c7]; decide) (by rw [c7]; decide) (by rw [c7]; rfl) (by decide) ?_
        exact lw_c7 X hx3 hi6 s7 hR hW hl again
      by_cases c8 : y5 = (8 : Int32)
      · refine lv_tableIn (off := 427) (tgt := 460) X.x X.bb dL_law_33 (by rw [c8]; decide) (by rw [c8]; decide) (by rw [c8]; rfl) (by decide) ?_
        exact lw_c8 X hx3 hi6 s8 hR hW hl again
      by_cases c9 : y5 = (9 : Int32)
      · refine lv_tableIn (off := 460) (tgt := 493) X.x X.bb dL_law_33 (by rw [c9]; decide) (by rw [c9]; decide) (by rw [c9]; rfl) (by decide) ?_
        exact lw_c9 X hx3 hi6 s9 hR hW hl again
      by_cases c10 : y5 = (10 : Int32)
      · refine lv_tableIn (off := 493) (tgt := 526) X.x X.bb dL_law_33 (by rw [c10]; decide) (by rw [c10]; decide) (by rw [c10]; rfl) (by decide) ?_
        exact lw_c10 X hx3 hi6 s10 hR hW hl again
      by_cases c11 : y5 = (11 : Int32)
      · refine lv_tableIn (off := 526) (tgt := 559) X.x X.bb dL_law_33 (by rw [c11]; decide) (by rw [c11]; decide) (by rw [c11]; rfl) (by decide) ?_
        exact lw_c11 X hx3 hi6 s11 hR hW hl again
      by_cases c12 : y5 = (12 : Int32)
      · refine lv_tableIn (off := 559) (tgt := 592) X.x X.bb dL_law_33 (by rw [c12]; decide) (by rw [c12]; decide) (by rw [c12]; rfl) (by decide) ?_
        exact lw_c12 X hx3 hi6 s12 hR hW hl again
      by_cases c13 : y5 = (13 : Int32)
      · refine lv_tableIn (off := 592) (tgt := 625) X.x X.bb dL_law_33 (by rw [c13]; decide) (by rw [c13]; decide) (by rw [c13]; rfl) (by decide) ?_
        exact lw_c13 X hx3 hi6 s13 hR hW hl again
      by_cases c14 : y5 = (14 : Int32)
      · refine lv_tableIn (off := 625) (tgt := 658) X.x X.bb dL_law_33 (by rw [c14]; decide) (by rw [c14]; decide) (by rw [c14]; rfl) (by decide) ?_
        exact lw_c14 X hx3 hi6 s14 hR hW hl again
      by_cases c15 : y5 = (15 : Int32)
      · refine lv_tableIn (off := 658) (tgt := 691) X.x X.bb dL_law_33 (by rw [c15]; decide) (by rw [c15]; decide) (by rw [c15]; rfl) (by decide) ?_
        exact lw_c15 X hx3 hi6 s15 hR hW hl again
      by_cases c16 : y5 = (16 : Int32)
      · refine lv_tableIn (off := 691) (tgt := 724) X.x X.bb dL_law_33 (by rw [c16]; decide) (by rw [c16]; decide) (by rw [c16]; rfl) (by decide) ?_
        exact lw_c16 X hx3 hi6 s16 hR hW hl again
      by_cases c17 : y5 = (17 : Int32)
      · refine lv_tableIn (off := 724) (tgt := 757) X.x X.bb dL_law_33 (by rw [c17]; decide) (by rw [c17]; decide) (by rw [c17]; rfl) (by decide) ?_
        exact lw_c17 X hx3 hi6 s17 hR hW hl again
      by_cases c18 : y5 = (18 : Int32)
      · refine lv_tableIn (off := 747) (tgt := 780) X.x X.bb dL_law_33 (by rw [c18]; decide) (by rw [c18]; decide) (by rw [c18]; rfl) (by decide) ?_
        exact lw_c18 X hx3 hi6 s18 hR hW hl again
      by_cases c19 : y5 = (19 : Int32)
      · refine lv_tableIn (off := 760) (tgt := 793) X.x X.bb dL_law_33 (by rw [c19]; decide) (by rw [c19]; decide) (by rw [c19]; rfl) (by decide) ?_
        exact lw_c19 X hx3 hi6 s19 hR hW hl again
      by_cases c20 : y5 = (20 : Int32)
      · refine lv_tableIn (off := 793) (tgt := 826) X.x X.bb dL_law_33 (by rw [c20]; decide) (by rw [c20]; decide) (by rw [c20]; rfl) (by decide) ?_
        exact lw_c20 X hx3 hi6 s20 hR hW hl again
      by_cases c21 : y5 = (21 : Int32)
      · refine lv_tableIn (off := 826) (tgt := 859) X.x X.bb dL_law_33 (by rw [c21]; decide) (by rw [c21]; decide) (by rw [c21]; rfl) (by decide) ?_
        exact lw_c21 X hx3 hi6 s21 hR hW hl again
      by_cases c22 : y5 = (22 : Int32)
      · refine lv_tableIn (off := 859) (tgt := 892) X.x X.bb dL_law_33 (by rw [c22]; decide) (by rw [c22]; decide) (by rw [c22]; rfl) (by decide) ?_
        exact lw_c22 X hx3 hi6 s22 hR hW hl again
      by_cases c23 : y5 = (23 : Int32)
      · refine lv_tableIn (off := 922) (tgt := 955) X.x X.bb dL_law_33 (by rw [c23]; decide) (by rw [c23]; decide) (by rw [c23]; rfl) (by decide) ?_
        exact lw_c23 X hx3 hi6 s23 hR hW hl again
      by_cases c24 : y5 = (24 : Int32)
      · refine lv_tableIn (off := 935) (tgt := 968) X.x X.bb dL_law_33 (by rw [c24]; decide) (by rw [c24]; decide) (by rw [c24]; rfl) (by decide) ?_
        exact lw_c24 X hx3 hi6 s24 hR hW hl again
      by_cases c25 : y5 = (25 : Int32)
      · refine lv_tableIn (off := 958) (tgt := 991) X.x X.bb dL_law_33 (by rw [c25]; decide) (by rw [c25]; decide) (by rw [c25]; rfl) (by decide) ?_
        exact lw_c25 X hx3 hi6 s25 hR hW hl again
      by_cases c26 : y5 = (26 : Int32)
      · refine lv_tableIn (off := 992) (tgt := 1025) X.x X.bb dL_law_33 (by rw [c26]; decide) (by rw [c26]; decide) (by rw [c26]; rfl) (by decide) ?_
        exact lw_c26 X hx3 hi6 s26 hR hW hl again
      by_cases c27 : y5 = (27 : Int32)
      · refine lv_tableIn (off := 1015) (tgt := 1048) X.x X.bb dL_law_33 (by rw [c27]; decide) (by rw [c27]; decide) (by rw [c27]; rfl) (by decide) ?_
        exact lw_c27 X hx3 hi6 s27 hR hW hl again
      by_cases c28 : y5 = (28 : Int32)
      · refine lv_tableIn (off := 1058) (tgt := 1091) X.x X.bb dL_law_33 (by rw [c28]; decide) (by rw [c28]; decide) (by rw [c28]; rfl) (by decide) ?_
        exact lw_c28 X hx3 hi6 s28 hR hW hl again
      by_cases c29 : y5 = (29 : Int32)
      · refine lv_tableIn (off := 1101) (tgt := 1134) X.x X.bb dL_law_33 (by rw [c29]; decide) (by rw [c29]; decide) (by rw [c29]; rfl) (by decide) ?_
        exact lw_c29 X hx3 hi6 s29 hR hW hl again
      by_cases c30 : y5 = (30 : Int32)
      · refine lv_tableIn (off := 1164) (tgt := 1197) X.x X.bb dL_law_33 (by rw [c30]; decide) (by rw [c30]; decide) (by rw [c30]; rfl) (by decide) ?_
        exact lw_c30 X hx3 hi6 s30 hR hW hl again
      by_cases c31 : y5 = (31 : Int32)
      · refine lv_tableIn (off := 1217) (tgt := 1250) X.x X.bb dL_law_33 (by rw [c31]; decide) (by rw [c31]; decide) (by rw [c31]; rfl) (by decide) ?_
        exact lw_c31 X hx3 hi6 s31 hR hW hl again
      refine lv_tableOut (tgt := 1283) X.x X.bb dL_law_33 (by have q0 := lv_neT c0 (a := 0) rfl; have q1 := lv_neT c1 (a := 1) rfl; have q2 := lv_neT c2 (a := 2) rfl; have q3 := lv_neT c3 (a := 3) rfl; have q4 := lv_neT c4 (a := 4) rfl; have q5 := lv_neT c5 (a := 5) rfl; have q6 := lv_neT c6 (a := 6) rfl; have q7 := lv_neT c7 (a := 7) rfl; have q8 := lv_neT c8 (a := 8) rfl; have q9 := lv_neT c9 (a := 9) rfl; have q10 := lv_neT c10 (a := 10) rfl; have q11 := lv_neT c11 (a := 11) rfl; have q12 := lv_neT c12 (a := 12) rfl; have q13 := lv_neT c13 (a := 13) rfl; have q14 := lv_neT c14 (a := 14) rfl; have q15 := lv_neT c15 (a := 15) rfl; have q16 := lv_neT c16 (a := 16) rfl; have q17 := lv_neT c17 (a := 17) rfl; have q18 := lv_neT c18 (a := 18) rfl; have q19 := lv_neT c19 (a := 19) rfl; have q20 := lv_neT c20 (a := 20) rfl; have q21 := lv_neT c21 (a := 21) rfl; have q22 := lv_neT c22 (a := 22) rfl; have q23 := lv_neT c23 (a := 23) rfl; have q24 := lv_neT c24 (a := 24) rfl; have q25 := lv_neT c25 (a := 25) rfl; have q26 := lv_neT c26 (a := 26) rfl; have q27 := lv_neT c27 (a := 27) rfl; have q28 := lv_neT c28 (a := 28) rfl; have q29 := lv_neT c29 (a := 29) rfl; have q30 := lv_neT c30 (a := 30) rfl; have q31 := lv_neT c31 (a := 31) rfl; omega) (by decide) ?_
      exact again gC gR H locs hR hW
end LW
