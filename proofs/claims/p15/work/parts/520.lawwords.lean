-- ===== end of PART A; then your names; then what follows =====
/-! THE CLAIM OUT OF ONE WALK OF THE LAW'S BODY. Your part is whole_start (and what it stands on); all else here is the same for every law, but numbers. -/
def R_law : String := "RegisterMillLaw"
def lw_P (b : Addr) (xs : List Int32) (args : Array Value) (s : State) : Prop := args = #[.ref b] ∧ s.IntsAt b xs ∧ xs.length ≤ 2048 ∧ (Jvm.Cond.and given_1 narrow_1).before args s = true
def lw_Q (_ : Array Value) (s : State) (o : Outcome) (t : State) : Prop := o = .returned (some (.int 1)) ∧ Framed s o t [] 601024 7293034
def lw_Z (below : List Frame) (a : Array Value) (s : State) : State → Prop := fun t => ∃ o, t.status = .running ∧ Ended t below o ∧ lw_Q a s o t
/-- the law's own end, with 1 on the stack, nothing written that was there before, its room as the claim has it -/
theorem lw_ret {p : Program} {l : Launch} {e : Env} {s : State} {m : MethodId} {below : List Frame} {meth : Method} {c : Code} {b : Nat} (hx : p.tables.exec = Jvm.exec) (hb : c.code = code) (hr : meth.sig.returnType = ret) (hlocks : meth.locks = false) {pc : Nat} {H : Heap} {ls : Array Slot} (hdg : decode code pc = .ok (.ireturn, 1)) : W p l e room_1 s m #[Value.ref b] below meth c H [] 601024 7293034 (lw_Z below #[Value.ref b] s) (F0 m pc ls [.int 1]) := by
  intro T hT X
  obtain ⟨fs, hret, hrun, hended, hW, hframe⟩ := X.leave (v := some (.int 1)) (hlocks := hlocks) (fun h => by rw [hr] at h; cases h)
  have hmeth' : T.vm.method? m = some meth := X.method'
  refine ⟨T.setFrames fs, ?_, .returned (some (.int 1)), hrun, hended, rfl, ⟨_, rfl⟩, hW, hframe⟩
  jvm_step X.here [X.here.top, hx, hb, hdg, hmeth', hr, ret, narrow_b1]
  (try refine ⟨rfl, ?_⟩); (try refine ⟨rfl, ?_⟩)
  first | (intro acts; rw [hret _ acts rfl rfl rfl]) | rw [hret _ _ rfl rfl rfl]
  exact Steps.refl _
/-- what holds at the law's entry: the machine, the code, the tables' words (any of lw_tbl by 'hts w (by decide +kernel)'), the script of L ints xs at the cell b, what the Statement gives of the start (any of its parts by flat_of_before) -/
def lw_At (p : Program) (s : State) (m : MethodId) (meth : Method) (c : Code) (b L : Nat) (xs : Nat → Int32) : Prop :=
  p.tables.exec = Jvm.exec ∧ c.code = code ∧ meth.sig.returnType = ret ∧ c.maxLocals = 7 ∧ s.vm.findClass R_law = some m.cls ∧ (∀ w ∈ lw_tbl, w.before #[Value.ref b] s = true) ∧ va_X b L xs s s.heap ∧ b < s.heap.size ∧ meth.locks = false ∧ (Jvm.Cond.and given_1 narrow_1).before #[Value.ref b] s = true
theorem gzS_lw_tbl : GoodIn lw_tbl vzS := goodIn_sub (by decide +kernel) gz_good
theorem tm_1 : ∀ w ∈ tables_1_1, w ∈ lw_tbl := fun w h => List.mem_append_right _ (List.mem_append_left _ h)
theorem tm_2 : ∀ w ∈ tables_1_2, w ∈ lw_tbl := fun w h => List.mem_append_right _ (List.mem_append_right _ (List.mem_append_left _ h))
theorem tm_3 : ∀ w ∈ tables_1_3, w ∈ lw_tbl := fun w h => List.mem_append_right _ (List.mem_append_right _ (List.mem_append_right _ (List.mem_append_left _ h)))
theorem tm_4 : ∀ w ∈ tables_1_4, w ∈ lw_tbl := fun w h => List.mem_append_right _ (List.mem_append_right _ (List.mem_append_right _ (List.mem_append_right _ (List.mem_append_left _ h))))
theorem tm_5 : ∀ w ∈ tables_1_5, w ∈ lw_tbl := fun w h => List.mem_append_right _ (List.mem_append_right _ (List.mem_append_right _ (List.mem_append_right _ (List.mem_append_right _ (List.mem_append_left _ h)))))
theorem tm_6 : ∀ w ∈ tables_1_6, w ∈ lw_tbl := fun w h => List.mem_append_right _ (List.mem_append_right _ (List.mem_append_right _ (List.mem_append_right _ (List.mem_append_right _ (List.mem_append_right _ (List.mem_append_left _ h))))))
theorem tm_7 : ∀ w ∈ tables_1_7, w ∈ lw_tbl := fun w h => List.mem_append_right _ (List.mem_append_right _ (List.mem_append_right _ (List.mem_append_right _ (List.mem_append_right _ (List.mem_append_right _ (List.mem_append_right _ (h)))))))
set_option maxRecDepth 20000 in
theorem tw_0 : (Cond.code yX0_init cX0_init 2 none) ∈ lw_tbl := tm_1 _ (List.mem_of_getElem? (i := 98) rfl)
set_option maxRecDepth 20000 in
theorem tw_1 : (Cond.methodLink RX0 3 objectInit) ∈ lw_tbl := tm_1 _ (List.mem_of_getElem? (i := 99) rfl)
set_option maxRecDepth 20000 in
theorem tw_2 : (Cond.instanceMethod objectInit) ∈ lw_tbl := tm_1 _ (List.mem_of_getElem? (i := 27) rfl)
set_option maxRecDepth 20000 in
theorem tw_3 : (Cond.code objectInit ⟨#[0xb1]⟩ 1 none) ∈ lw_tbl := tm_1 _ (List.mem_of_getElem? (i := 28) rfl)
set_option maxRecDepth 20000 in
theorem tw_4 : (Cond.arrayClass .boolean) ∈ lw_tbl := tm_1 _ (List.mem_of_getElem? (i := 110) rfl)
set_option maxRecDepth 20000 in
theorem tw_5 : (Cond.fieldLink RX0 9 "RegisterMill$Checker" "passed" "[Z") ∈ lw_tbl := tm_1 _ (List.mem_of_getElem? (i := 101) rfl)
set_option maxRecDepth 20000 in
theorem tw_6 : (Cond.fieldLink RX0 15 "RegisterMill$Checker" "program" "LRegisterMill$Program;") ∈ lw_tbl := tm_1 _ (List.mem_of_getElem? (i := 100) rfl)
set_option maxRecDepth 20000 in
theorem tw_7 : (Cond.laysFinal RX0 "RegisterMill$Checker" "program" "LRegisterMill$Program;") ∈ lw_tbl := tm_1 _ (List.mem_of_getElem? (i := 103) rfl)
set_option maxRecDepth 20000 in
theorem tw_8 : (Cond.laysFinal RX0 "RegisterMill$Checker" "passed" "[Z") ∈ lw_tbl := tm_1 _ (List.mem_of_getElem? (i := 105) rfl)
set_option maxRecDepth 20000 in
theorem tw_9 : (Cond.lays RX0 "RegisterMill$Checker" "lowest" "I") ∈ lw_tbl := tm_1 _ (List.mem_of_getElem? (i := 107) rfl)
set_option maxRecDepth 20000 in
theorem tw_10 : (Cond.code yX0_leastWaiting cX0_leastWaiting 4 (some .int)) ∈ lw_tbl := tm_2 _ (List.mem_of_getElem? (i := 180) rfl)
set_option maxRecDepth 20000 in
theorem tw_11 : (Cond.fieldLink RX0 39 "RegisterMill$Checker" "lowest" "I") ∈ lw_tbl := tm_1 _ (List.mem_of_getElem? (i := 102) rfl)
set_option maxRecDepth 20000 in
theorem tw_12 : (Cond.fieldLink RX0 36 "RegisterMill$Program" "depths" "[I") ∈ lw_tbl := tm_1 _ (List.mem_of_getElem? (i := 63) rfl)
set_option maxRecDepth 20000 in
theorem tw_13 : (Cond.laysFinal RX6 "RegisterMill$Program" "args" "[I") ∈ lw_tbl := tm_1 _ (List.mem_of_getElem? (i := 72) rfl)
set_option maxRecDepth 20000 in
theorem tw_14 : (Cond.laysFinal RX6 "RegisterMill$Program" "locals" "[I") ∈ lw_tbl := tm_1 _ (List.mem_of_getElem? (i := 74) rfl)
set_option maxRecDepth 20000 in
theorem tw_15 : (Cond.laysFinal RX6 "RegisterMill$Program" "starts" "[I") ∈ lw_tbl := tm_1 _ (List.mem_of_getElem? (i := 76) rfl)
set_option maxRecDepth 20000 in
theorem tw_16 : (Cond.laysFinal RX6 "RegisterMill$Program" "lengths" "[I") ∈ lw_tbl := tm_1 _ (List.mem_of_getElem? (i := 78) rfl)
set_option maxRecDepth 20000 in
theorem tw_17 : (Cond.laysFinal RX6 "RegisterMill$Program" "ops" "[I") ∈ lw_tbl := tm_1 _ (List.mem_of_getElem? (i := 80) rfl)
set_option maxRecDepth 20000 in
theorem tw_18 : (Cond.laysFinal RX6 "RegisterMill$Program" "numbers" "[I") ∈ lw_tbl := tm_1 _ (List.mem_of_getElem? (i := 82) rfl)
set_option maxRecDepth 20000 in
theorem tw_19 : (Cond.laysFinal RX6 "RegisterMill$Program" "depths" "[I") ∈ lw_tbl := tm_1 _ (List.mem_of_getElem? (i := 84) rfl)
set_option maxRecDepth 20000 in
theorem tw_20 : (Cond.lays RX6 "RegisterMill$Program" "funcs" "I") ∈ lw_tbl := tm_1 _ (List.mem_of_getElem? (i := 86) rfl)
set_option maxRecDepth 20000 in
theorem tw_21 : (Cond.lays RX6 "RegisterMill$Program" "words" "I") ∈ lw_tbl := tm_1 _ (List.mem_of_getElem? (i := 88) rfl)
set_option maxRecDepth 20000 in
theorem tw_22 : (Cond.lays RX6 "RegisterMill$Program" "checked" "Z") ∈ lw_tbl := tm_1 _ (List.mem_of_getElem? (i := 90) rfl)
set_option maxRecDepth 20000 in
theorem tw_23 : (Cond.code yX6_hasFunc cX6_hasFunc 2 (some .boolean)) ∈ lw_tbl := tm_2 _ (List.mem_of_getElem? (i := 192) rfl)
set_option maxRecDepth 20000 in
theorem tw_24 : (Cond.fieldLink RX6 33 "RegisterMill$Program" "funcs" "I") ∈ lw_tbl := tm_1 _ (List.mem_of_getElem? (i := 66) rfl)
set_option maxRecDepth 20000 in
theorem tw_25 : (Cond.code yX0_isFormed cX0_isFormed 4 (some .boolean)) ∈ lw_tbl := tm_2 _ (List.mem_of_getElem? (i := 188) rfl)
set_option maxRecDepth 20000 in
theorem tw_26 : (Cond.fieldLink RX0 68 "RegisterMill$Program" "locals" "[I") ∈ lw_tbl := tm_1 _ (List.mem_of_getElem? (i := 42) rfl)
set_option maxRecDepth 20000 in
theorem tw_27 : (Cond.fieldLink RX0 25 "RegisterMill$Program" "lengths" "[I") ∈ lw_tbl := tm_1 _ (List.mem_of_getElem? (i := 51) rfl)
set_option maxRecDepth 20000 in
theorem tw_28 : (Cond.methodLink RX0 71 yX6_hasFunc) ∈ lw_tbl := tm_2 _ (List.mem_of_getElem? (i := 189) rfl)
set_option maxRecDepth 20000 in
theorem tw_29 : (Cond.instanceMethod yX6_hasFunc) ∈ lw_tbl := tm_2 _ (List.mem_of_getElem? (i := 190) rfl)
set_option maxRecDepth 20000 in
theorem tw_30 : (Cond.selects RX6 yX6_hasFunc yX6_hasFunc) ∈ lw_tbl := tm_2 _ (List.mem_of_getElem? (i := 191) rfl)
set_option maxRecDepth 20000 in
theorem tw_31 : (Cond.initialized RX6) ∈ lw_tbl := tm_1 _ (List.mem_of_getElem? (i := 2) rfl)
set_option maxRecDepth 20000 in
theorem tw_32 : (Cond.code yX6_takes cX6_takes 3 (some .int)) ∈ lw_tbl := tm_2 _ (List.mem_of_getElem? (i := 196) rfl)
set_option maxRecDepth 20000 in
theorem tw_33 : (Cond.fieldLink RX6 9 "RegisterMill$Program" "args" "[I") ∈ lw_tbl := tm_1 _ (List.mem_of_getElem? (i := 35) rfl)
set_option maxRecDepth 20000 in
theorem tw_34 : (Cond.code yX0_reach cX0_reach 5 (some .boolean)) ∈ lw_tbl := tm_2 _ (List.mem_of_getElem? (i := 204) rfl)
set_option maxRecDepth 20000 in
theorem tw_35 : (Cond.fieldLink RX0 33 "RegisterMill$Program" "starts" "[I") ∈ lw_tbl := tm_1 _ (List.mem_of_getElem? (i := 46) rfl)
set_option maxRecDepth 20000 in
theorem tw_36 : (Cond.methodLink RX0 75 Lib.Math.min.name) ∈ lw_tbl := tm_2 _ (List.mem_of_getElem? (i := 205) rfl)
set_option maxRecDepth 20000 in
theorem tw_37 : (Cond.static Lib.Math.min.name) ∈ lw_tbl := tm_2 _ (List.mem_of_getElem? (i := 206) rfl)
set_option maxRecDepth 20000 in
theorem tw_38 : (Cond.initialized "java/lang/Math") ∈ lw_tbl := tm_1 _ (List.mem_of_getElem? (i := 14) rfl)
set_option maxRecDepth 20000 in
theorem tw_39 : (Cond.fieldLink RX0 49 "RegisterMill$Program" "ops" "[I") ∈ lw_tbl := tm_1 _ (List.mem_of_getElem? (i := 56) rfl)
set_option maxRecDepth 20000 in
theorem tw_40 : (Cond.fieldLink RX0 52 "RegisterMill$Program" "numbers" "[I") ∈ lw_tbl := tm_1 _ (List.mem_of_getElem? (i := 60) rfl)
set_option maxRecDepth 20000 in
theorem tw_41 : (Cond.methodLink RX0 55 yX0_isFormed) ∈ lw_tbl := tm_2 _ (List.mem_of_getElem? (i := 185) rfl)
set_option maxRecDepth 20000 in
theorem tw_42 : (Cond.instanceMethod yX0_isFormed) ∈ lw_tbl := tm_2 _ (List.mem_of_getElem? (i := 187) rfl)
set_option maxRecDepth 20000 in
theorem tw_43 : (Cond.selects RX0 yX0_isFormed yX0_isFormed) ∈ lw_tbl := List.mem_append_left _ (List.mem_of_getElem? (i := 3) rfl)
set_option maxRecDepth 20000 in
theorem tw_44 : (Cond.initialized RX0) ∈ lw_tbl := tm_1 _ (List.mem_of_getElem? (i := 3) rfl)
set_option maxRecDepth 20000 in
theorem tw_45 : (Cond.methodLink RX0 59 yX6_takes) ∈ lw_tbl := tm_2 _ (List.mem_of_getElem? (i := 193) rfl)
set_option maxRecDepth 20000 in
theorem tw_46 : (Cond.instanceMethod yX6_takes) ∈ lw_tbl := tm_2 _ (List.mem_of_getElem? (i := 194) rfl)
set_option maxRecDepth 20000 in
theorem tw_47 : (Cond.selects RX6 yX6_takes yX6_takes) ∈ lw_tbl := tm_2 _ (List.mem_of_getElem? (i := 195) rfl)
set_option maxRecDepth 20000 in
theorem tw_48 : (Cond.methodLink RX0 65 yX0_reach) ∈ lw_tbl := tm_2 _ (List.mem_of_getElem? (i := 201) rfl)
set_option maxRecDepth 20000 in
theorem tw_49 : (Cond.instanceMethod yX0_reach) ∈ lw_tbl := tm_2 _ (List.mem_of_getElem? (i := 203) rfl)
set_option maxRecDepth 20000 in
theorem tw_50 : (Cond.selects RX0 yX0_reach yX0_reach) ∈ lw_tbl := List.mem_append_left _ (List.mem_of_getElem? (i := 4) rfl)
set_option maxRecDepth 20000 in
theorem tw_51 : (Cond.code yX0_faultOfWord cX0_faultOfWord 8 (some .int)) ∈ lw_tbl := tm_2 _ (List.mem_of_getElem? (i := 184) rfl)
set_option maxRecDepth 20000 in
theorem tw_52 : (Cond.methodLink RX0 42 yX0_leastWaiting) ∈ lw_tbl := tm_2 _ (List.mem_of_getElem? (i := 177) rfl)
set_option maxRecDepth 20000 in
theorem tw_53 : (Cond.instanceMethod yX0_leastWaiting) ∈ lw_tbl := tm_2 _ (List.mem_of_getElem? (i := 179) rfl)
set_option maxRecDepth 20000 in
theorem tw_54 : (Cond.selects RX0 yX0_leastWaiting yX0_leastWaiting) ∈ lw_tbl := List.mem_append_left _ (List.mem_of_getElem? (i := 1) rfl)
set_option maxRecDepth 20000 in
theorem tw_55 : (Cond.methodLink RX0 46 yX0_faultOfWord) ∈ lw_tbl := tm_2 _ (List.mem_of_getElem? (i := 181) rfl)
set_option maxRecDepth 20000 in
theorem tw_56 : (Cond.instanceMethod yX0_faultOfWord) ∈ lw_tbl := tm_2 _ (List.mem_of_getElem? (i := 183) rfl)
set_option maxRecDepth 20000 in
theorem tw_57 : (Cond.selects RX0 yX0_faultOfWord yX0_faultOfWord) ∈ lw_tbl := List.mem_append_left _ (List.mem_of_getElem? (i := 2) rfl)
set_option maxRecDepth 20000 in
theorem tw_58 : (Cond.code yX0_faultOfFunc cX0_faultOfFunc 7 (some .int)) ∈ lw_tbl := tm_2 _ (List.mem_of_getElem? (i := 176) rfl)
set_option maxRecDepth 20000 in
theorem tw_59 : (Cond.fieldLink RX0 19 "RegisterMill$Program" "funcs" "I") ∈ lw_tbl := tm_1 _ (List.mem_of_getElem? (i := 65) rfl)
set_option maxRecDepth 20000 in
theorem tw_60 : (Cond.methodLink RX0 29 yX0_faultOfFunc) ∈ lw_tbl := tm_2 _ (List.mem_of_getElem? (i := 173) rfl)
set_option maxRecDepth 20000 in
theorem tw_61 : (Cond.instanceMethod yX0_faultOfFunc) ∈ lw_tbl := tm_2 _ (List.mem_of_getElem? (i := 175) rfl)
set_option maxRecDepth 20000 in
theorem tw_62 : (Cond.selects RX0 yX0_faultOfFunc yX0_faultOfFunc) ∈ lw_tbl := List.mem_append_left _ (List.mem_of_getElem? (i := 0) rfl)
set_option maxRecDepth 20000 in
theorem tw_63 : (Cond.code yX0_firstFault cX0_firstFault 3 (some .int)) ∈ lw_tbl := tm_2 _ (List.mem_of_getElem? (i := 172) rfl)
set_option maxRecDepth 20000 in
theorem tw_64 : (Cond.code yX1_init cX1_init 1 none) ∈ lw_tbl := tm_1 _ (List.mem_of_getElem? (i := 213) rfl)
set_option maxRecDepth 20000 in
theorem tw_65 : (Cond.methodLink RX1 3 objectInit) ∈ lw_tbl := tm_1 _ (List.mem_of_getElem? (i := 214) rfl)
set_option maxRecDepth 20000 in
theorem tw_66 : (Cond.arrayClass .int) ∈ lw_tbl := tm_1 _ (List.mem_of_getElem? (i := 93) rfl)
set_option maxRecDepth 20000 in
theorem tw_67 : (Cond.fieldLink RX1 9 "RegisterMill$Code" "starts" "[I") ∈ lw_tbl := tm_1 _ (List.mem_of_getElem? (i := 215) rfl)
set_option maxRecDepth 20000 in
theorem tw_68 : (Cond.fieldLink RX1 15 "RegisterMill$Code" "sizes" "[I") ∈ lw_tbl := tm_1 _ (List.mem_of_getElem? (i := 216) rfl)
set_option maxRecDepth 20000 in
theorem tw_69 : (Cond.fieldLink RX1 18 "RegisterMill$Code" "parts" "[I") ∈ lw_tbl := tm_1 _ (List.mem_of_getElem? (i := 222) rfl)
set_option maxRecDepth 20000 in
theorem tw_70 : (Cond.laysFinal RX1 "RegisterMill$Code" "starts" "[I") ∈ lw_tbl := tm_1 _ (List.mem_of_getElem? (i := 223) rfl)
set_option maxRecDepth 20000 in
theorem tw_71 : (Cond.laysFinal RX1 "RegisterMill$Code" "sizes" "[I") ∈ lw_tbl := tm_1 _ (List.mem_of_getElem? (i := 225) rfl)
set_option maxRecDepth 20000 in
theorem tw_72 : (Cond.lays RX1 "RegisterMill$Code" "total" "I") ∈ lw_tbl := tm_1 _ (List.mem_of_getElem? (i := 227) rfl)
set_option maxRecDepth 20000 in
theorem tw_73 : (Cond.lays RX1 "RegisterMill$Code" "parts" "[I") ∈ lw_tbl := tm_1 _ (List.mem_of_getElem? (i := 229) rfl)
set_option maxRecDepth 20000 in
theorem tw_74 : (Cond.code yJ7_copyOf_59c91 cJ7_copyOf_59c91 3 (some (.array .int))) ∈ lw_tbl := tm_3 _ (List.mem_of_getElem? (i := 142) rfl)
set_option maxRecDepth 20000 in
theorem tw_75 : (Cond.methodLink RJ7 316 ⟨"[I", "clone", "()Ljava/lang/Object;"⟩) ∈ lw_tbl := tm_3 _ (List.mem_of_getElem? (i := 143) rfl)
set_option maxRecDepth 20000 in
theorem tw_76 : (Cond.sameMethod "[I" "java/lang/Object" "clone" "()Ljava/lang/Object;") ∈ lw_tbl := tm_3 _ (List.mem_of_getElem? (i := 144) rfl)
set_option maxRecDepth 20000 in
theorem tw_77 : (Cond.native ⟨"java/lang/Object", "clone", "()Ljava/lang/Object;"⟩) ∈ lw_tbl := tm_3 _ (List.mem_of_getElem? (i := 145) rfl)
set_option maxRecDepth 20000 in
theorem tw_78 : (Cond.instanceMethod ⟨"java/lang/Object", "clone", "()Ljava/lang/Object;"⟩) ∈ lw_tbl := tm_3 _ (List.mem_of_getElem? (i := 146) rfl)
set_option maxRecDepth 20000 in
theorem tw_79 : (Cond.selects "[I" ⟨"[I", "clone", "()Ljava/lang/Object;"⟩ ⟨"java/lang/Object", "clone", "()Ljava/lang/Object;"⟩) ∈ lw_tbl := tm_3 _ (List.mem_of_getElem? (i := 147) rfl)
set_option maxRecDepth 20000 in
theorem tw_80 : (Cond.classLink RJ7 317 "[I") ∈ lw_tbl := tm_3 _ (List.mem_of_getElem? (i := 149) rfl)
set_option maxRecDepth 20000 in
theorem tw_81 : (Cond.methodLink RJ7 304 Lib.Math.min.name) ∈ lw_tbl := tm_3 _ (List.mem_of_getElem? (i := 150) rfl)
set_option maxRecDepth 20000 in
theorem tw_82 : (Cond.initialized "java/lang/System") ∈ lw_tbl := tm_1 _ (List.mem_of_getElem? (i := 16) rfl)
set_option maxRecDepth 20000 in
theorem tw_83 : (Cond.fieldLink RX1 21 "RegisterMill$Code" "total" "I") ∈ lw_tbl := tm_1 _ (List.mem_of_getElem? (i := 219) rfl)
set_option maxRecDepth 20000 in
theorem tw_84 : (Cond.methodLink RX1 25 Lib.Math.max.name) ∈ lw_tbl := tm_3 _ (List.mem_of_getElem? (i := 137) rfl)
set_option maxRecDepth 20000 in
theorem tw_85 : (Cond.static Lib.Math.max.name) ∈ lw_tbl := tm_3 _ (List.mem_of_getElem? (i := 138) rfl)
set_option maxRecDepth 20000 in
theorem tw_86 : (Cond.methodLink RX1 31 yJ7_copyOf_59c91) ∈ lw_tbl := tm_3 _ (List.mem_of_getElem? (i := 140) rfl)
set_option maxRecDepth 20000 in
theorem tw_87 : (Cond.static yJ7_copyOf_59c91) ∈ lw_tbl := tm_3 _ (List.mem_of_getElem? (i := 141) rfl)
set_option maxRecDepth 20000 in
theorem tw_88 : (Cond.initialized RJ7) ∈ lw_tbl := tm_1 _ (List.mem_of_getElem? (i := 15) rfl)
set_option maxRecDepth 20000 in
theorem tw_89 : (Cond.code yX1_open cX1_open 4 none) ∈ lw_tbl := tm_3 _ (List.mem_of_getElem? (i := 136) rfl)
set_option maxRecDepth 20000 in
theorem tw_90 : (Cond.code yX1_add cX1_add 6 none) ∈ lw_tbl := tm_3 _ (List.mem_of_getElem? (i := 173) rfl)
set_option maxRecDepth 20000 in
theorem tw_91 : (Cond.code yX1_addWork cX1_addWork 7 none) ∈ lw_tbl := tm_3 _ (List.mem_of_getElem? (i := 205) rfl)
set_option maxRecDepth 20000 in
theorem tw_92 : (Cond.methodLink RX1 37 yX1_add) ∈ lw_tbl := tm_3 _ (List.mem_of_getElem? (i := 206) rfl)
set_option maxRecDepth 20000 in
theorem tw_93 : (Cond.instanceMethod yX1_add) ∈ lw_tbl := tm_3 _ (List.mem_of_getElem? (i := 171) rfl)
set_option maxRecDepth 20000 in
theorem tw_94 : (Cond.selects RX1 yX1_add yX1_add) ∈ lw_tbl := tm_3 _ (List.mem_of_getElem? (i := 172) rfl)
set_option maxRecDepth 20000 in
theorem tw_95 : (Cond.initialized RX1) ∈ lw_tbl := tm_1 _ (List.mem_of_getElem? (i := 8) rfl)
set_option maxRecDepth 20000 in
theorem tw_96 : (Cond.code yX1_part cX1_part 4 (some .int)) ∈ lw_tbl := tm_4 _ (List.mem_of_getElem? (i := 69) rfl)
set_option maxRecDepth 20000 in
theorem tw_97 : (Cond.code yX1_aim cX1_aim 5 none) ∈ lw_tbl := tm_3 _ (List.mem_of_getElem? (i := 230) rfl)
set_option maxRecDepth 20000 in
theorem tw_98 : (Cond.code yX2_init cX2_init 1 none) ∈ lw_tbl := tm_1 _ (List.mem_of_getElem? (i := 187) rfl)
set_option maxRecDepth 20000 in
theorem tw_99 : (Cond.methodLink RX2 3 objectInit) ∈ lw_tbl := tm_1 _ (List.mem_of_getElem? (i := 188) rfl)
set_option maxRecDepth 20000 in
theorem tw_100 : (Cond.fieldLink RX2 9 "RegisterMill$Homes" "firsts" "[I") ∈ lw_tbl := tm_1 _ (List.mem_of_getElem? (i := 189) rfl)
set_option maxRecDepth 20000 in
theorem tw_101 : (Cond.fieldLink RX2 15 "RegisterMill$Homes" "lasts" "[I") ∈ lw_tbl := tm_1 _ (List.mem_of_getElem? (i := 190) rfl)
set_option maxRecDepth 20000 in
theorem tw_102 : (Cond.fieldLink RX2 18 "RegisterMill$Homes" "registers" "[I") ∈ lw_tbl := tm_1 _ (List.mem_of_getElem? (i := 191) rfl)
set_option maxRecDepth 20000 in
theorem tw_103 : (Cond.fieldLink RX2 21 "RegisterMill$Homes" "slotNumbers" "[I") ∈ lw_tbl := tm_1 _ (List.mem_of_getElem? (i := 192) rfl)
set_option maxRecDepth 20000 in
theorem tw_104 : (Cond.fieldLink RX2 24 "RegisterMill$Homes" "slotCounts" "[I") ∈ lw_tbl := tm_1 _ (List.mem_of_getElem? (i := 193) rfl)
set_option maxRecDepth 20000 in
theorem tw_105 : (Cond.fieldLink RX2 27 "RegisterMill$Homes" "holders" "[I") ∈ lw_tbl := tm_1 _ (List.mem_of_getElem? (i := 195) rfl)
set_option maxRecDepth 20000 in
theorem tw_106 : (Cond.laysFinal RX2 "RegisterMill$Homes" "firsts" "[I") ∈ lw_tbl := tm_1 _ (List.mem_of_getElem? (i := 196) rfl)
set_option maxRecDepth 20000 in
theorem tw_107 : (Cond.laysFinal RX2 "RegisterMill$Homes" "lasts" "[I") ∈ lw_tbl := tm_1 _ (List.mem_of_getElem? (i := 198) rfl)
set_option maxRecDepth 20000 in
theorem tw_108 : (Cond.laysFinal RX2 "RegisterMill$Homes" "registers" "[I") ∈ lw_tbl := tm_1 _ (List.mem_of_getElem? (i := 200) rfl)
set_option maxRecDepth 20000 in
theorem tw_109 : (Cond.laysFinal RX2 "RegisterMill$Homes" "slotNumbers" "[I") ∈ lw_tbl := tm_1 _ (List.mem_of_getElem? (i := 202) rfl)
set_option maxRecDepth 20000 in
theorem tw_110 : (Cond.laysFinal RX2 "RegisterMill$Homes" "slotCounts" "[I") ∈ lw_tbl := tm_1 _ (List.mem_of_getElem? (i := 204) rfl)
set_option maxRecDepth 20000 in
theorem tw_111 : (Cond.laysFinal RX2 "RegisterMill$Homes" "holders" "[I") ∈ lw_tbl := tm_1 _ (List.mem_of_getElem? (i := 206) rfl)
set_option maxRecDepth 20000 in
theorem tw_112 : (Cond.code yX2_registerOf cX2_registerOf 3 (some .int)) ∈ lw_tbl := tm_3 _ (List.mem_of_getElem? (i := 169) rfl)
set_option maxRecDepth 20000 in
theorem tw_113 : (Cond.code yX2_slotOf cX2_slotOf 3 (some .int)) ∈ lw_tbl := tm_3 _ (List.mem_of_getElem? (i := 165) rfl)
set_option maxRecDepth 20000 in
theorem tw_114 : (Cond.code yX2_tell cX2_tell 5 (some .int)) ∈ lw_tbl := tm_4 _ (List.mem_of_getElem? (i := 6) rfl)
set_option maxRecDepth 20000 in
theorem tw_115 : (Cond.code yJ7_fill_53178 cJ7_fill_53178 4 none) ∈ lw_tbl := tm_2 _ (List.mem_of_getElem? (i := 234) rfl)
set_option maxRecDepth 20000 in
theorem tw_116 : (Cond.code yX2_forget cX2_forget 3 none) ∈ lw_tbl := tm_3 _ (List.mem_of_getElem? (i := 109) rfl)
set_option maxRecDepth 20000 in
theorem tw_117 : (Cond.methodLink RX2 59 yJ7_fill_53178) ∈ lw_tbl := tm_3 _ (List.mem_of_getElem? (i := 110) rfl)
set_option maxRecDepth 20000 in
theorem tw_118 : (Cond.static yJ7_fill_53178) ∈ lw_tbl := tm_2 _ (List.mem_of_getElem? (i := 233) rfl)
set_option maxRecDepth 20000 in
theorem tw_119 : (Cond.code yX5_readSet cX5_readSet 4 (some .int)) ∈ lw_tbl := tm_3 _ (List.mem_of_getElem? (i := 65) rfl)
set_option maxRecDepth 20000 in
theorem tw_120 : (Cond.fieldLink RX5 24 "RegisterMill$Places" "readCounts" "[I") ∈ lw_tbl := tm_1 _ (List.mem_of_getElem? (i := 134) rfl)
set_option maxRecDepth 20000 in
theorem tw_121 : (Cond.fieldLink RX5 29 "RegisterMill$Places" "reads" "[[I") ∈ lw_tbl := tm_1 _ (List.mem_of_getElem? (i := 136) rfl)
set_option maxRecDepth 20000 in
theorem tw_122 : (Cond.laysFinal RX5 "RegisterMill$Places" "kinds" "[I") ∈ lw_tbl := tm_1 _ (List.mem_of_getElem? (i := 146) rfl)
set_option maxRecDepth 20000 in
theorem tw_123 : (Cond.laysFinal RX5 "RegisterMill$Places" "numbers" "[I") ∈ lw_tbl := tm_1 _ (List.mem_of_getElem? (i := 148) rfl)
set_option maxRecDepth 20000 in
theorem tw_124 : (Cond.laysFinal RX5 "RegisterMill$Places" "goals" "[I") ∈ lw_tbl := tm_1 _ (List.mem_of_getElem? (i := 150) rfl)
set_option maxRecDepth 20000 in
theorem tw_125 : (Cond.laysFinal RX5 "RegisterMill$Places" "written" "[I") ∈ lw_tbl := tm_1 _ (List.mem_of_getElem? (i := 152) rfl)
set_option maxRecDepth 20000 in
theorem tw_126 : (Cond.laysFinal RX5 "RegisterMill$Places" "readCounts" "[I") ∈ lw_tbl := tm_1 _ (List.mem_of_getElem? (i := 154) rfl)
set_option maxRecDepth 20000 in
theorem tw_127 : (Cond.laysFinal RX5 "RegisterMill$Places" "reads" "[[I") ∈ lw_tbl := tm_1 _ (List.mem_of_getElem? (i := 156) rfl)
set_option maxRecDepth 20000 in
theorem tw_128 : (Cond.lays RX5 "RegisterMill$Places" "total" "I") ∈ lw_tbl := tm_1 _ (List.mem_of_getElem? (i := 158) rfl)
set_option maxRecDepth 20000 in
theorem tw_129 : (Cond.laysFinal RX5 "RegisterMill$Places" "newNumbers" "[I") ∈ lw_tbl := tm_1 _ (List.mem_of_getElem? (i := 160) rfl)
set_option maxRecDepth 20000 in
theorem tw_130 : (Cond.laysFinal RX5 "RegisterMill$Places" "blockStarts" "[Z") ∈ lw_tbl := tm_1 _ (List.mem_of_getElem? (i := 162) rfl)
set_option maxRecDepth 20000 in
theorem tw_131 : (Cond.laysFinal RX5 "RegisterMill$Places" "copyOf" "[I") ∈ lw_tbl := tm_1 _ (List.mem_of_getElem? (i := 164) rfl)
set_option maxRecDepth 20000 in
theorem tw_132 : (Cond.code yX5_writtenSet cX5_writtenSet 2 (some .int)) ∈ lw_tbl := tm_3 _ (List.mem_of_getElem? (i := 61) rfl)
set_option maxRecDepth 20000 in
theorem tw_133 : (Cond.fieldLink RX5 9 "RegisterMill$Places" "kinds" "[I") ∈ lw_tbl := tm_1 _ (List.mem_of_getElem? (i := 125) rfl)
set_option maxRecDepth 20000 in
theorem tw_134 : (Cond.fieldLink RX5 21 "RegisterMill$Places" "written" "[I") ∈ lw_tbl := tm_1 _ (List.mem_of_getElem? (i := 132) rfl)
set_option maxRecDepth 20000 in
theorem tw_135 : (Cond.methodLink RX5 92 yX5_readSet) ∈ lw_tbl := tm_3 _ (List.mem_of_getElem? (i := 62) rfl)
set_option maxRecDepth 20000 in
theorem tw_136 : (Cond.instanceMethod yX5_readSet) ∈ lw_tbl := tm_3 _ (List.mem_of_getElem? (i := 63) rfl)
set_option maxRecDepth 20000 in
theorem tw_137 : (Cond.selects RX5 yX5_readSet yX5_readSet) ∈ lw_tbl := tm_3 _ (List.mem_of_getElem? (i := 64) rfl)
set_option maxRecDepth 20000 in
theorem tw_138 : (Cond.initialized RX5) ∈ lw_tbl := tm_1 _ (List.mem_of_getElem? (i := 5) rfl)
set_option maxRecDepth 20000 in
theorem tw_139 : (Cond.code yX2_widen cX2_widen 5 none) ∈ lw_tbl := tm_3 _ (List.mem_of_getElem? (i := 116) rfl)
set_option maxRecDepth 20000 in
theorem tw_140 : (Cond.code yX2_giveBack cX2_giveBack 5 none) ∈ lw_tbl := tm_3 _ (List.mem_of_getElem? (i := 124) rfl)
set_option maxRecDepth 20000 in
theorem tw_141 : (Cond.code yX2_longestWith cX2_longestWith 8 (some .int)) ∈ lw_tbl := tm_3 _ (List.mem_of_getElem? (i := 128) rfl)
set_option maxRecDepth 20000 in
theorem tw_142 : (Cond.code yX2_giveOne cX2_giveOne 7 none) ∈ lw_tbl := tm_3 _ (List.mem_of_getElem? (i := 120) rfl)
set_option maxRecDepth 20000 in
theorem tw_143 : (Cond.methodLink RX2 65 yX2_giveBack) ∈ lw_tbl := tm_3 _ (List.mem_of_getElem? (i := 121) rfl)
set_option maxRecDepth 20000 in
theorem tw_144 : (Cond.instanceMethod yX2_giveBack) ∈ lw_tbl := tm_3 _ (List.mem_of_getElem? (i := 123) rfl)
set_option maxRecDepth 20000 in
theorem tw_145 : (Cond.selects RX2 yX2_giveBack yX2_giveBack) ∈ lw_tbl := List.mem_append_left _ (List.mem_of_getElem? (i := 22) rfl)
set_option maxRecDepth 20000 in
theorem tw_146 : (Cond.initialized RX2) ∈ lw_tbl := tm_1 _ (List.mem_of_getElem? (i := 7) rfl)
set_option maxRecDepth 20000 in
theorem tw_147 : (Cond.methodLink RX2 68 yX2_longestWith) ∈ lw_tbl := tm_3 _ (List.mem_of_getElem? (i := 125) rfl)
set_option maxRecDepth 20000 in
theorem tw_148 : (Cond.instanceMethod yX2_longestWith) ∈ lw_tbl := tm_3 _ (List.mem_of_getElem? (i := 127) rfl)
set_option maxRecDepth 20000 in
theorem tw_149 : (Cond.selects RX2 yX2_longestWith yX2_longestWith) ∈ lw_tbl := List.mem_append_left _ (List.mem_of_getElem? (i := 23) rfl)
set_option maxRecDepth 20000 in
theorem tw_150 : (Cond.fieldLink RX2 34 "RegisterMill$Places" "total" "I") ∈ lw_tbl := tm_1 _ (List.mem_of_getElem? (i := 142) rfl)
set_option maxRecDepth 20000 in
theorem tw_151 : (Cond.fieldLink RX2 40 "RegisterMill$Live" "ahead" "[I") ∈ lw_tbl := tm_1 _ (List.mem_of_getElem? (i := 175) rfl)
set_option maxRecDepth 20000 in
theorem tw_152 : (Cond.methodLink RX2 30 yX2_forget) ∈ lw_tbl := tm_3 _ (List.mem_of_getElem? (i := 106) rfl)
set_option maxRecDepth 20000 in
theorem tw_153 : (Cond.instanceMethod yX2_forget) ∈ lw_tbl := tm_3 _ (List.mem_of_getElem? (i := 108) rfl)
set_option maxRecDepth 20000 in
theorem tw_154 : (Cond.selects RX2 yX2_forget yX2_forget) ∈ lw_tbl := List.mem_append_left _ (List.mem_of_getElem? (i := 19) rfl)
set_option maxRecDepth 20000 in
theorem tw_155 : (Cond.methodLink RX2 45 yX5_readSet) ∈ lw_tbl := tm_3 _ (List.mem_of_getElem? (i := 111) rfl)
set_option maxRecDepth 20000 in
theorem tw_156 : (Cond.methodLink RX2 49 yX5_writtenSet) ∈ lw_tbl := tm_3 _ (List.mem_of_getElem? (i := 112) rfl)
set_option maxRecDepth 20000 in
theorem tw_157 : (Cond.instanceMethod yX5_writtenSet) ∈ lw_tbl := tm_3 _ (List.mem_of_getElem? (i := 59) rfl)
set_option maxRecDepth 20000 in
theorem tw_158 : (Cond.selects RX5 yX5_writtenSet yX5_writtenSet) ∈ lw_tbl := tm_3 _ (List.mem_of_getElem? (i := 60) rfl)
set_option maxRecDepth 20000 in
theorem tw_159 : (Cond.methodLink RX2 52 yX2_widen) ∈ lw_tbl := tm_3 _ (List.mem_of_getElem? (i := 113) rfl)
set_option maxRecDepth 20000 in
theorem tw_160 : (Cond.instanceMethod yX2_widen) ∈ lw_tbl := tm_3 _ (List.mem_of_getElem? (i := 115) rfl)
set_option maxRecDepth 20000 in
theorem tw_161 : (Cond.selects RX2 yX2_widen yX2_widen) ∈ lw_tbl := List.mem_append_left _ (List.mem_of_getElem? (i := 20) rfl)
set_option maxRecDepth 20000 in
theorem tw_162 : (Cond.methodLink RX2 56 yX2_giveOne) ∈ lw_tbl := tm_3 _ (List.mem_of_getElem? (i := 117) rfl)
set_option maxRecDepth 20000 in
theorem tw_163 : (Cond.instanceMethod yX2_giveOne) ∈ lw_tbl := tm_3 _ (List.mem_of_getElem? (i := 119) rfl)
set_option maxRecDepth 20000 in
theorem tw_164 : (Cond.selects RX2 yX2_giveOne yX2_giveOne) ∈ lw_tbl := List.mem_append_left _ (List.mem_of_getElem? (i := 21) rfl)
set_option maxRecDepth 20000 in
theorem tw_165 : (Cond.code yX2_give cX2_give 8 none) ∈ lw_tbl := tm_3 _ (List.mem_of_getElem? (i := 105) rfl)
set_option maxRecDepth 20000 in
theorem tw_166 : (Cond.laysFinal RX3 "RegisterMill$Live" "ahead" "[I") ∈ lw_tbl := tm_1 _ (List.mem_of_getElem? (i := 178) rfl)
set_option maxRecDepth 20000 in
theorem tw_167 : (Cond.laysFinal RX3 "RegisterMill$Live" "behind" "[I") ∈ lw_tbl := tm_1 _ (List.mem_of_getElem? (i := 180) rfl)
set_option maxRecDepth 20000 in
theorem tw_168 : (Cond.code yX3_init cX3_init 1 none) ∈ lw_tbl := tm_1 _ (List.mem_of_getElem? (i := 171) rfl)
set_option maxRecDepth 20000 in
theorem tw_169 : (Cond.methodLink RX3 3 objectInit) ∈ lw_tbl := tm_1 _ (List.mem_of_getElem? (i := 172) rfl)
set_option maxRecDepth 20000 in
theorem tw_170 : (Cond.fieldLink RX3 9 "RegisterMill$Live" "ahead" "[I") ∈ lw_tbl := tm_1 _ (List.mem_of_getElem? (i := 173) rfl)
set_option maxRecDepth 20000 in
theorem tw_171 : (Cond.fieldLink RX3 15 "RegisterMill$Live" "behind" "[I") ∈ lw_tbl := tm_1 _ (List.mem_of_getElem? (i := 176) rfl)
set_option maxRecDepth 20000 in
theorem tw_172 : (Cond.code yX5_goesToNext cX5_goesToNext 2 (some .boolean)) ∈ lw_tbl := tm_3 _ (List.mem_of_getElem? (i := 86) rfl)
set_option maxRecDepth 20000 in
theorem tw_173 : (Cond.fieldLink RX5 42 "RegisterMill$Places" "total" "I") ∈ lw_tbl := tm_1 _ (List.mem_of_getElem? (i := 138) rfl)
set_option maxRecDepth 20000 in
theorem tw_174 : (Cond.code yX5_jumps cX5_jumps 2 (some .boolean)) ∈ lw_tbl := tm_3 _ (List.mem_of_getElem? (i := 44) rfl)
set_option maxRecDepth 20000 in
theorem tw_175 : (Cond.fieldLink RX3 24 "RegisterMill$Places" "total" "I") ∈ lw_tbl := tm_1 _ (List.mem_of_getElem? (i := 139) rfl)
set_option maxRecDepth 20000 in
theorem tw_176 : (Cond.fieldLink RX3 41 "RegisterMill$Places" "goals" "[I") ∈ lw_tbl := tm_1 _ (List.mem_of_getElem? (i := 130) rfl)
set_option maxRecDepth 20000 in
theorem tw_177 : (Cond.methodLink RX3 34 yX5_goesToNext) ∈ lw_tbl := tm_3 _ (List.mem_of_getElem? (i := 83) rfl)
set_option maxRecDepth 20000 in
theorem tw_178 : (Cond.instanceMethod yX5_goesToNext) ∈ lw_tbl := tm_3 _ (List.mem_of_getElem? (i := 84) rfl)
set_option maxRecDepth 20000 in
theorem tw_179 : (Cond.selects RX5 yX5_goesToNext yX5_goesToNext) ∈ lw_tbl := tm_3 _ (List.mem_of_getElem? (i := 85) rfl)
set_option maxRecDepth 20000 in
theorem tw_180 : (Cond.methodLink RX3 38 yX5_jumps) ∈ lw_tbl := tm_3 _ (List.mem_of_getElem? (i := 87) rfl)
set_option maxRecDepth 20000 in
theorem tw_181 : (Cond.instanceMethod yX5_jumps) ∈ lw_tbl := tm_3 _ (List.mem_of_getElem? (i := 42) rfl)
set_option maxRecDepth 20000 in
theorem tw_182 : (Cond.selects RX5 yX5_jumps yX5_jumps) ∈ lw_tbl := tm_3 _ (List.mem_of_getElem? (i := 43) rfl)
set_option maxRecDepth 20000 in
theorem tw_183 : (Cond.methodLink RX3 44 yX5_readSet) ∈ lw_tbl := tm_3 _ (List.mem_of_getElem? (i := 88) rfl)
set_option maxRecDepth 20000 in
theorem tw_184 : (Cond.methodLink RX3 48 yX5_writtenSet) ∈ lw_tbl := tm_3 _ (List.mem_of_getElem? (i := 89) rfl)
set_option maxRecDepth 20000 in
theorem tw_185 : (Cond.code yX3_growBackwards cX3_growBackwards 6 (some .boolean)) ∈ lw_tbl := tm_3 _ (List.mem_of_getElem? (i := 82) rfl)
set_option maxRecDepth 20000 in
theorem tw_186 : (Cond.methodLink RX3 18 yJ7_fill_53178) ∈ lw_tbl := tm_3 _ (List.mem_of_getElem? (i := 78) rfl)
set_option maxRecDepth 20000 in
theorem tw_187 : (Cond.methodLink RX3 30 yX3_growBackwards) ∈ lw_tbl := tm_3 _ (List.mem_of_getElem? (i := 79) rfl)
set_option maxRecDepth 20000 in
theorem tw_188 : (Cond.instanceMethod yX3_growBackwards) ∈ lw_tbl := tm_3 _ (List.mem_of_getElem? (i := 81) rfl)
set_option maxRecDepth 20000 in
theorem tw_189 : (Cond.selects RX3 yX3_growBackwards yX3_growBackwards) ∈ lw_tbl := List.mem_append_left _ (List.mem_of_getElem? (i := 16) rfl)
set_option maxRecDepth 20000 in
theorem tw_190 : (Cond.initialized RX3) ∈ lw_tbl := tm_1 _ (List.mem_of_getElem? (i := 6) rfl)
set_option maxRecDepth 20000 in
theorem tw_191 : (Cond.code yX3_find cX3_find 4 none) ∈ lw_tbl := tm_3 _ (List.mem_of_getElem? (i := 77) rfl)
set_option maxRecDepth 20000 in
theorem tw_192 : (Cond.code yX4_init cX4_init 1 none) ∈ lw_tbl := tm_2 _ (List.mem_of_getElem? (i := 56) rfl)
set_option maxRecDepth 20000 in
theorem tw_193 : (Cond.methodLink RX4 3 objectInit) ∈ lw_tbl := tm_2 _ (List.mem_of_getElem? (i := 57) rfl)
set_option maxRecDepth 20000 in
theorem tw_194 : (Cond.fieldLink RX4 9 "RegisterMill$Machine" "memory" "[I") ∈ lw_tbl := tm_2 _ (List.mem_of_getElem? (i := 63) rfl)
set_option maxRecDepth 20000 in
theorem tw_195 : (Cond.fieldLink RX4 15 "RegisterMill$Machine" "funcs" "[I") ∈ lw_tbl := tm_2 _ (List.mem_of_getElem? (i := 69) rfl)
set_option maxRecDepth 20000 in
theorem tw_196 : (Cond.fieldLink RX4 18 "RegisterMill$Machine" "nexts" "[I") ∈ lw_tbl := tm_2 _ (List.mem_of_getElem? (i := 70) rfl)
set_option maxRecDepth 20000 in
theorem tw_197 : (Cond.laysFinal RX7 "RegisterMill$Machine" "memory" "[I") ∈ lw_tbl := tm_2 _ (List.mem_of_getElem? (i := 124) rfl)
set_option maxRecDepth 20000 in
theorem tw_198 : (Cond.laysFinal RX7 "RegisterMill$Machine" "funcs" "[I") ∈ lw_tbl := tm_2 _ (List.mem_of_getElem? (i := 125) rfl)
set_option maxRecDepth 20000 in
theorem tw_199 : (Cond.laysFinal RX7 "RegisterMill$Machine" "nexts" "[I") ∈ lw_tbl := tm_2 _ (List.mem_of_getElem? (i := 126) rfl)
set_option maxRecDepth 20000 in
theorem tw_200 : (Cond.lays RX7 "RegisterMill$Machine" "end" "I") ∈ lw_tbl := tm_2 _ (List.mem_of_getElem? (i := 127) rfl)
set_option maxRecDepth 20000 in
theorem tw_201 : (Cond.lays RX7 "RegisterMill$Machine" "told" "I") ∈ lw_tbl := tm_2 _ (List.mem_of_getElem? (i := 128) rfl)
set_option maxRecDepth 20000 in
theorem tw_202 : (Cond.lays RX7 "RegisterMill$Machine" "steps" "I") ∈ lw_tbl := tm_2 _ (List.mem_of_getElem? (i := 129) rfl)
set_option maxRecDepth 20000 in
theorem tw_203 : (Cond.lays RX7 "RegisterMill$Machine" "calls" "I") ∈ lw_tbl := tm_2 _ (List.mem_of_getElem? (i := 130) rfl)
set_option maxRecDepth 20000 in
theorem tw_204 : (Cond.lays RX7 "RegisterMill$Machine" "nested" "I") ∈ lw_tbl := tm_2 _ (List.mem_of_getElem? (i := 131) rfl)
set_option maxRecDepth 20000 in
theorem tw_205 : (Cond.laysFinal RX7 "RegisterMill$RegisterMachine" "code" "LRegisterMill$Code;") ∈ lw_tbl := tm_2 _ (List.mem_of_getElem? (i := 114) rfl)
set_option maxRecDepth 20000 in
theorem tw_206 : (Cond.laysFinal RX7 "RegisterMill$RegisterMachine" "registers" "[I") ∈ lw_tbl := tm_2 _ (List.mem_of_getElem? (i := 116) rfl)
set_option maxRecDepth 20000 in
theorem tw_207 : (Cond.laysFinal RX7 "RegisterMill$RegisterMachine" "slotCells" "[I") ∈ lw_tbl := tm_2 _ (List.mem_of_getElem? (i := 118) rfl)
set_option maxRecDepth 20000 in
theorem tw_208 : (Cond.laysFinal RX7 "RegisterMill$RegisterMachine" "passed" "[I") ∈ lw_tbl := tm_2 _ (List.mem_of_getElem? (i := 120) rfl)
set_option maxRecDepth 20000 in
theorem tw_209 : (Cond.lays RX7 "RegisterMill$RegisterMachine" "answered" "I") ∈ lw_tbl := tm_2 _ (List.mem_of_getElem? (i := 122) rfl)
set_option maxRecDepth 20000 in
theorem tw_210 : (Cond.laysFinal RX8 "RegisterMill$Machine" "memory" "[I") ∈ lw_tbl := tm_2 _ (List.mem_of_getElem? (i := 86) rfl)
set_option maxRecDepth 20000 in
theorem tw_211 : (Cond.laysFinal RX8 "RegisterMill$Machine" "funcs" "[I") ∈ lw_tbl := tm_2 _ (List.mem_of_getElem? (i := 88) rfl)
set_option maxRecDepth 20000 in
theorem tw_212 : (Cond.laysFinal RX8 "RegisterMill$Machine" "nexts" "[I") ∈ lw_tbl := tm_2 _ (List.mem_of_getElem? (i := 90) rfl)
set_option maxRecDepth 20000 in
theorem tw_213 : (Cond.lays RX8 "RegisterMill$Machine" "end" "I") ∈ lw_tbl := tm_2 _ (List.mem_of_getElem? (i := 92) rfl)
set_option maxRecDepth 20000 in
theorem tw_214 : (Cond.lays RX8 "RegisterMill$Machine" "told" "I") ∈ lw_tbl := tm_2 _ (List.mem_of_getElem? (i := 94) rfl)
set_option maxRecDepth 20000 in
theorem tw_215 : (Cond.lays RX8 "RegisterMill$Machine" "steps" "I") ∈ lw_tbl := tm_2 _ (List.mem_of_getElem? (i := 96) rfl)
set_option maxRecDepth 20000 in
theorem tw_216 : (Cond.lays RX8 "RegisterMill$Machine" "calls" "I") ∈ lw_tbl := tm_2 _ (List.mem_of_getElem? (i := 98) rfl)
set_option maxRecDepth 20000 in
theorem tw_217 : (Cond.lays RX8 "RegisterMill$Machine" "nested" "I") ∈ lw_tbl := tm_2 _ (List.mem_of_getElem? (i := 100) rfl)
set_option maxRecDepth 20000 in
theorem tw_218 : (Cond.laysFinal RX8 "RegisterMill$StackMachine" "program" "LRegisterMill$Program;") ∈ lw_tbl := tm_2 _ (List.mem_of_getElem? (i := 76) rfl)
set_option maxRecDepth 20000 in
theorem tw_219 : (Cond.laysFinal RX8 "RegisterMill$StackMachine" "locals" "[I") ∈ lw_tbl := tm_2 _ (List.mem_of_getElem? (i := 78) rfl)
set_option maxRecDepth 20000 in
theorem tw_220 : (Cond.laysFinal RX8 "RegisterMill$StackMachine" "stack" "[I") ∈ lw_tbl := tm_2 _ (List.mem_of_getElem? (i := 80) rfl)
set_option maxRecDepth 20000 in
theorem tw_221 : (Cond.laysFinal RX8 "RegisterMill$StackMachine" "bottoms" "[I") ∈ lw_tbl := tm_2 _ (List.mem_of_getElem? (i := 82) rfl)
set_option maxRecDepth 20000 in
theorem tw_222 : (Cond.lays RX8 "RegisterMill$StackMachine" "top" "I") ∈ lw_tbl := tm_2 _ (List.mem_of_getElem? (i := 84) rfl)
set_option maxRecDepth 20000 in
theorem tw_223 : (Cond.code yX4_begin cX4_begin 1 none) ∈ lw_tbl := tm_2 _ (List.mem_of_getElem? (i := 239) rfl)
set_option maxRecDepth 20000 in
theorem tw_224 : (Cond.fieldLink RX4 21 "RegisterMill$Machine" "end" "I") ∈ lw_tbl := tm_2 _ (List.mem_of_getElem? (i := 71) rfl)
set_option maxRecDepth 20000 in
theorem tw_225 : (Cond.fieldLink RX4 25 "RegisterMill$Machine" "told" "I") ∈ lw_tbl := tm_2 _ (List.mem_of_getElem? (i := 72) rfl)
set_option maxRecDepth 20000 in
theorem tw_226 : (Cond.fieldLink RX4 28 "RegisterMill$Machine" "steps" "I") ∈ lw_tbl := tm_2 _ (List.mem_of_getElem? (i := 73) rfl)
set_option maxRecDepth 20000 in
theorem tw_227 : (Cond.fieldLink RX4 31 "RegisterMill$Machine" "calls" "I") ∈ lw_tbl := tm_2 _ (List.mem_of_getElem? (i := 74) rfl)
set_option maxRecDepth 20000 in
theorem tw_228 : (Cond.fieldLink RX4 34 "RegisterMill$Machine" "nested" "I") ∈ lw_tbl := tm_2 _ (List.mem_of_getElem? (i := 75) rfl)
set_option maxRecDepth 20000 in
theorem tw_229 : (Cond.code yX4_finish cX4_finish 2 none) ∈ lw_tbl := tm_4 _ (List.mem_of_getElem? (i := 44) rfl)
set_option maxRecDepth 20000 in
theorem tw_230 : (Cond.code yX7_openRoom cX7_openRoom 6 none) ∈ lw_tbl := tm_4 _ (List.mem_of_getElem? (i := 50) rfl)
set_option maxRecDepth 20000 in
theorem tw_231 : (Cond.fieldLink RX7 9 "RegisterMill$RegisterMachine" "registers" "[I") ∈ lw_tbl := tm_2 _ (List.mem_of_getElem? (i := 110) rfl)
set_option maxRecDepth 20000 in
theorem tw_232 : (Cond.fieldLink RX7 15 "RegisterMill$RegisterMachine" "slotCells" "[I") ∈ lw_tbl := tm_2 _ (List.mem_of_getElem? (i := 111) rfl)
set_option maxRecDepth 20000 in
theorem tw_233 : (Cond.code yX8_openRoom cX8_openRoom 6 none) ∈ lw_tbl := tm_4 _ (List.mem_of_getElem? (i := 53) rfl)
set_option maxRecDepth 20000 in
theorem tw_234 : (Cond.fieldLink RX8 21 "RegisterMill$StackMachine" "program" "LRegisterMill$Program;") ∈ lw_tbl := tm_2 _ (List.mem_of_getElem? (i := 58) rfl)
set_option maxRecDepth 20000 in
theorem tw_235 : (Cond.fieldLink RX8 32 "RegisterMill$Program" "args" "[I") ∈ lw_tbl := tm_1 _ (List.mem_of_getElem? (i := 36) rfl)
set_option maxRecDepth 20000 in
theorem tw_236 : (Cond.fieldLink RX8 28 "RegisterMill$StackMachine" "top" "I") ∈ lw_tbl := tm_2 _ (List.mem_of_getElem? (i := 62) rfl)
set_option maxRecDepth 20000 in
theorem tw_237 : (Cond.fieldLink RX8 9 "RegisterMill$StackMachine" "locals" "[I") ∈ lw_tbl := tm_2 _ (List.mem_of_getElem? (i := 59) rfl)
set_option maxRecDepth 20000 in
theorem tw_238 : (Cond.fieldLink RX8 15 "RegisterMill$StackMachine" "stack" "[I") ∈ lw_tbl := tm_2 _ (List.mem_of_getElem? (i := 60) rfl)
set_option maxRecDepth 20000 in
theorem tw_239 : (Cond.fieldLink RX8 18 "RegisterMill$StackMachine" "bottoms" "[I") ∈ lw_tbl := tm_2 _ (List.mem_of_getElem? (i := 61) rfl)
set_option maxRecDepth 20000 in
theorem tw_240 : (Cond.methodLink RX4 49 ⟨"RegisterMill$Machine", "finish", "(I)V"⟩) ∈ lw_tbl := tm_4 _ (List.mem_of_getElem? (i := 39) rfl)
set_option maxRecDepth 20000 in
theorem tw_241 : (Cond.sameMethod "RegisterMill$Machine" "RegisterMill$Machine" "finish" "(I)V") ∈ lw_tbl := tm_4 _ (List.mem_of_getElem? (i := 41) rfl)
set_option maxRecDepth 20000 in
theorem tw_242 : (Cond.selects RX7 ⟨"RegisterMill$Machine", "finish", "(I)V"⟩ yX4_finish) ∈ lw_tbl := tm_4 _ (List.mem_of_getElem? (i := 42) rfl)
set_option maxRecDepth 20000 in
theorem tw_243 : (Cond.instanceMethod yX4_finish) ∈ lw_tbl := tm_4 _ (List.mem_of_getElem? (i := 40) rfl)
set_option maxRecDepth 20000 in
theorem tw_244 : (Cond.initialized RX4) ∈ lw_tbl := tm_1 _ (List.mem_of_getElem? (i := 10) rfl)
set_option maxRecDepth 20000 in
theorem tw_245 : (Cond.selects RX8 ⟨"RegisterMill$Machine", "finish", "(I)V"⟩ yX4_finish) ∈ lw_tbl := tm_4 _ (List.mem_of_getElem? (i := 43) rfl)
set_option maxRecDepth 20000 in
theorem tw_246 : (Cond.methodLink RX4 52 ⟨"RegisterMill$Machine", "openRoom", "(II)V"⟩) ∈ lw_tbl := tm_4 _ (List.mem_of_getElem? (i := 45) rfl)
set_option maxRecDepth 20000 in
theorem tw_247 : (Cond.sameMethod "RegisterMill$Machine" "RegisterMill$Machine" "openRoom" "(II)V") ∈ lw_tbl := tm_4 _ (List.mem_of_getElem? (i := 47) rfl)
set_option maxRecDepth 20000 in
theorem tw_248 : (Cond.selects RX7 ⟨"RegisterMill$Machine", "openRoom", "(II)V"⟩ yX7_openRoom) ∈ lw_tbl := tm_4 _ (List.mem_of_getElem? (i := 48) rfl)
set_option maxRecDepth 20000 in
theorem tw_249 : (Cond.instanceMethod yX7_openRoom) ∈ lw_tbl := tm_4 _ (List.mem_of_getElem? (i := 49) rfl)
set_option maxRecDepth 20000 in
theorem tw_250 : (Cond.initialized RX7) ∈ lw_tbl := tm_1 _ (List.mem_of_getElem? (i := 12) rfl)
set_option maxRecDepth 20000 in
theorem tw_251 : (Cond.selects RX8 ⟨"RegisterMill$Machine", "openRoom", "(II)V"⟩ yX8_openRoom) ∈ lw_tbl := tm_4 _ (List.mem_of_getElem? (i := 51) rfl)
set_option maxRecDepth 20000 in
theorem tw_252 : (Cond.instanceMethod yX8_openRoom) ∈ lw_tbl := tm_4 _ (List.mem_of_getElem? (i := 52) rfl)
set_option maxRecDepth 20000 in
theorem tw_253 : (Cond.initialized RX8) ∈ lw_tbl := tm_1 _ (List.mem_of_getElem? (i := 11) rfl)
set_option maxRecDepth 20000 in
theorem tw_254 : (Cond.code yX4_enter cX4_enter 2 none) ∈ lw_tbl := tm_4 _ (List.mem_of_getElem? (i := 38) rfl)
set_option maxRecDepth 20000 in
theorem tw_255 : (Cond.code yX4_room cX4_room 1 (some .int)) ∈ lw_tbl := tm_4 _ (List.mem_of_getElem? (i := 59) rfl)
set_option maxRecDepth 20000 in
theorem tw_256 : (Cond.code yX4_canReckon cX4_canReckon 3 (some .boolean)) ∈ lw_tbl := tm_4 _ (List.mem_of_getElem? (i := 83) rfl)
set_option maxRecDepth 20000 in
theorem tw_257 : (Cond.code yX11_reckon cX11_reckon 3 (some .int)) ∈ lw_tbl := tm_4 _ (List.mem_of_getElem? (i := 86) rfl)
set_option maxRecDepth 20000 in
theorem tw_258 : (Cond.fieldLink RX7 21 "RegisterMill$RegisterMachine" "code" "LRegisterMill$Code;") ∈ lw_tbl := tm_2 _ (List.mem_of_getElem? (i := 109) rfl)
set_option maxRecDepth 20000 in
theorem tw_259 : (Cond.methodLink RX7 38 yX1_part) ∈ lw_tbl := tm_4 _ (List.mem_of_getElem? (i := 66) rfl)
set_option maxRecDepth 20000 in
theorem tw_260 : (Cond.instanceMethod yX1_part) ∈ lw_tbl := tm_4 _ (List.mem_of_getElem? (i := 67) rfl)
set_option maxRecDepth 20000 in
theorem tw_261 : (Cond.selects RX1 yX1_part yX1_part) ∈ lw_tbl := tm_4 _ (List.mem_of_getElem? (i := 68) rfl)
set_option maxRecDepth 20000 in
theorem tw_262 : (Cond.methodLink RX7 72 ⟨"RegisterMill$RegisterMachine", "canReckon", "(II)Z"⟩) ∈ lw_tbl := tm_4 _ (List.mem_of_getElem? (i := 78) rfl)
set_option maxRecDepth 20000 in
theorem tw_263 : (Cond.sameMethod "RegisterMill$RegisterMachine" "RegisterMill$Machine" "canReckon" "(II)Z") ∈ lw_tbl := tm_4 _ (List.mem_of_getElem? (i := 79) rfl)
set_option maxRecDepth 20000 in
theorem tw_264 : (Cond.selects RX7 ⟨"RegisterMill$RegisterMachine", "canReckon", "(II)Z"⟩ yX4_canReckon) ∈ lw_tbl := tm_4 _ (List.mem_of_getElem? (i := 81) rfl)
set_option maxRecDepth 20000 in
theorem tw_265 : (Cond.instanceMethod yX4_canReckon) ∈ lw_tbl := tm_4 _ (List.mem_of_getElem? (i := 82) rfl)
set_option maxRecDepth 20000 in
theorem tw_266 : (Cond.static yX11_reckon) ∈ lw_tbl := tm_4 _ (List.mem_of_getElem? (i := 85) rfl)
set_option maxRecDepth 20000 in
theorem tw_267 : (Cond.initialized RX11) ∈ lw_tbl := tm_1 _ (List.mem_of_getElem? (i := 1) rfl)
set_option maxRecDepth 20000 in
theorem tw_268 : (Cond.code yX7_work cX7_work 7 none) ∈ lw_tbl := tm_4 _ (List.mem_of_getElem? (i := 77) rfl)
set_option maxRecDepth 20000 in
theorem tw_269 : (Cond.code yX7_swap cX7_swap 4 none) ∈ lw_tbl := tm_4 _ (List.mem_of_getElem? (i := 90) rfl)
set_option maxRecDepth 20000 in
theorem tw_270 : (Cond.code yX4_jump cX4_jump 2 none) ∈ lw_tbl := tm_4 _ (List.mem_of_getElem? (i := 96) rfl)
set_option maxRecDepth 20000 in
theorem tw_271 : (Cond.methodLink RX4 41 ⟨"RegisterMill$Machine", "room", "()I"⟩) ∈ lw_tbl := tm_4 _ (List.mem_of_getElem? (i := 54) rfl)
set_option maxRecDepth 20000 in
theorem tw_272 : (Cond.sameMethod "RegisterMill$Machine" "RegisterMill$Machine" "room" "()I") ∈ lw_tbl := tm_4 _ (List.mem_of_getElem? (i := 56) rfl)
set_option maxRecDepth 20000 in
theorem tw_273 : (Cond.selects RX7 ⟨"RegisterMill$Machine", "room", "()I"⟩ yX4_room) ∈ lw_tbl := tm_4 _ (List.mem_of_getElem? (i := 57) rfl)
set_option maxRecDepth 20000 in
theorem tw_274 : (Cond.instanceMethod yX4_room) ∈ lw_tbl := tm_4 _ (List.mem_of_getElem? (i := 55) rfl)
set_option maxRecDepth 20000 in
theorem tw_275 : (Cond.selects RX8 ⟨"RegisterMill$Machine", "room", "()I"⟩ yX4_room) ∈ lw_tbl := tm_4 _ (List.mem_of_getElem? (i := 58) rfl)
set_option maxRecDepth 20000 in
theorem tw_276 : (Cond.code yX7_takeAnswer cX7_takeAnswer 2 none) ∈ lw_tbl := tm_4 _ (List.mem_of_getElem? (i := 108) rfl)
set_option maxRecDepth 20000 in
theorem tw_277 : (Cond.fieldLink RX7 28 "RegisterMill$RegisterMachine" "answered" "I") ∈ lw_tbl := tm_2 _ (List.mem_of_getElem? (i := 113) rfl)
set_option maxRecDepth 20000 in
theorem tw_278 : (Cond.code yX8_push cX8_push 2 none) ∈ lw_tbl := tm_4 _ (List.mem_of_getElem? (i := 118) rfl)
set_option maxRecDepth 20000 in
theorem tw_279 : (Cond.code yX8_takeAnswer cX8_takeAnswer 2 none) ∈ lw_tbl := tm_4 _ (List.mem_of_getElem? (i := 111) rfl)
set_option maxRecDepth 20000 in
theorem tw_280 : (Cond.methodLink RX8 37 ⟨"RegisterMill$StackMachine", "room", "()I"⟩) ∈ lw_tbl := tm_4 _ (List.mem_of_getElem? (i := 112) rfl)
set_option maxRecDepth 20000 in
theorem tw_281 : (Cond.sameMethod "RegisterMill$StackMachine" "RegisterMill$Machine" "room" "()I") ∈ lw_tbl := tm_4 _ (List.mem_of_getElem? (i := 113) rfl)
set_option maxRecDepth 20000 in
theorem tw_282 : (Cond.selects RX8 ⟨"RegisterMill$StackMachine", "room", "()I"⟩ yX4_room) ∈ lw_tbl := tm_4 _ (List.mem_of_getElem? (i := 114) rfl)
set_option maxRecDepth 20000 in
theorem tw_283 : (Cond.methodLink RX8 41 yX8_push) ∈ lw_tbl := tm_4 _ (List.mem_of_getElem? (i := 115) rfl)
set_option maxRecDepth 20000 in
theorem tw_284 : (Cond.instanceMethod yX8_push) ∈ lw_tbl := tm_4 _ (List.mem_of_getElem? (i := 117) rfl)
set_option maxRecDepth 20000 in
theorem tw_285 : (Cond.selects RX8 yX8_push yX8_push) ∈ lw_tbl := List.mem_append_left _ (List.mem_of_getElem? (i := 39) rfl)
set_option maxRecDepth 20000 in
theorem tw_286 : (Cond.methodLink RX4 55 ⟨"RegisterMill$Machine", "takeAnswer", "(I)V"⟩) ∈ lw_tbl := tm_4 _ (List.mem_of_getElem? (i := 103) rfl)
set_option maxRecDepth 20000 in
theorem tw_287 : (Cond.sameMethod "RegisterMill$Machine" "RegisterMill$Machine" "takeAnswer" "(I)V") ∈ lw_tbl := tm_4 _ (List.mem_of_getElem? (i := 105) rfl)
set_option maxRecDepth 20000 in
theorem tw_288 : (Cond.selects RX7 ⟨"RegisterMill$Machine", "takeAnswer", "(I)V"⟩ yX7_takeAnswer) ∈ lw_tbl := tm_4 _ (List.mem_of_getElem? (i := 106) rfl)
set_option maxRecDepth 20000 in
theorem tw_289 : (Cond.instanceMethod yX7_takeAnswer) ∈ lw_tbl := tm_4 _ (List.mem_of_getElem? (i := 107) rfl)
set_option maxRecDepth 20000 in
theorem tw_290 : (Cond.selects RX8 ⟨"RegisterMill$Machine", "takeAnswer", "(I)V"⟩ yX8_takeAnswer) ∈ lw_tbl := tm_4 _ (List.mem_of_getElem? (i := 109) rfl)
set_option maxRecDepth 20000 in
theorem tw_291 : (Cond.instanceMethod yX8_takeAnswer) ∈ lw_tbl := tm_4 _ (List.mem_of_getElem? (i := 110) rfl)
set_option maxRecDepth 20000 in
theorem tw_292 : (Cond.code yX4_leave cX4_leave 2 none) ∈ lw_tbl := tm_4 _ (List.mem_of_getElem? (i := 102) rfl)
set_option maxRecDepth 20000 in
theorem tw_293 : (Cond.code yX4_hasCell cX4_hasCell 2 (some .boolean)) ∈ lw_tbl := tm_4 _ (List.mem_of_getElem? (i := 128) rfl)
set_option maxRecDepth 20000 in
theorem tw_294 : (Cond.code yX7_fetch cX7_fetch 3 none) ∈ lw_tbl := tm_4 _ (List.mem_of_getElem? (i := 122) rfl)
set_option maxRecDepth 20000 in
theorem tw_295 : (Cond.fieldLink RX7 83 "RegisterMill$RegisterMachine" "memory" "[I") ∈ lw_tbl := tm_2 _ (List.mem_of_getElem? (i := 65) rfl)
set_option maxRecDepth 20000 in
theorem tw_296 : (Cond.sameField "RegisterMill$RegisterMachine" "RegisterMill$Machine" "memory" "[I") ∈ lw_tbl := tm_2 _ (List.mem_of_getElem? (i := 66) rfl)
set_option maxRecDepth 20000 in
theorem tw_297 : (Cond.methodLink RX7 79 ⟨"RegisterMill$RegisterMachine", "hasCell", "(I)Z"⟩) ∈ lw_tbl := tm_4 _ (List.mem_of_getElem? (i := 123) rfl)
set_option maxRecDepth 20000 in
theorem tw_298 : (Cond.sameMethod "RegisterMill$RegisterMachine" "RegisterMill$Machine" "hasCell" "(I)Z") ∈ lw_tbl := tm_4 _ (List.mem_of_getElem? (i := 124) rfl)
set_option maxRecDepth 20000 in
theorem tw_299 : (Cond.selects RX7 ⟨"RegisterMill$RegisterMachine", "hasCell", "(I)Z"⟩ yX4_hasCell) ∈ lw_tbl := tm_4 _ (List.mem_of_getElem? (i := 126) rfl)
set_option maxRecDepth 20000 in
theorem tw_300 : (Cond.instanceMethod yX4_hasCell) ∈ lw_tbl := tm_4 _ (List.mem_of_getElem? (i := 127) rfl)
set_option maxRecDepth 20000 in
theorem tw_301 : (Cond.code yX7_store cX7_store 3 none) ∈ lw_tbl := tm_4 _ (List.mem_of_getElem? (i := 132) rfl)
set_option maxRecDepth 20000 in
theorem tw_302 : (Cond.fieldLink RX7 18 "RegisterMill$RegisterMachine" "passed" "[I") ∈ lw_tbl := tm_2 _ (List.mem_of_getElem? (i := 112) rfl)
set_option maxRecDepth 20000 in
theorem tw_303 : (Cond.methodLink RX7 44 ⟨"RegisterMill$RegisterMachine", "room", "()I"⟩) ∈ lw_tbl := tm_4 _ (List.mem_of_getElem? (i := 70) rfl)
set_option maxRecDepth 20000 in
theorem tw_304 : (Cond.sameMethod "RegisterMill$RegisterMachine" "RegisterMill$Machine" "room" "()I") ∈ lw_tbl := tm_4 _ (List.mem_of_getElem? (i := 71) rfl)
set_option maxRecDepth 20000 in
theorem tw_305 : (Cond.selects RX7 ⟨"RegisterMill$RegisterMachine", "room", "()I"⟩ yX4_room) ∈ lw_tbl := tm_4 _ (List.mem_of_getElem? (i := 73) rfl)
set_option maxRecDepth 20000 in
theorem tw_306 : (Cond.methodLink RX7 48 yX7_work) ∈ lw_tbl := tm_4 _ (List.mem_of_getElem? (i := 74) rfl)
set_option maxRecDepth 20000 in
theorem tw_307 : (Cond.instanceMethod yX7_work) ∈ lw_tbl := tm_4 _ (List.mem_of_getElem? (i := 76) rfl)
set_option maxRecDepth 20000 in
theorem tw_308 : (Cond.selects RX7 yX7_work yX7_work) ∈ lw_tbl := List.mem_append_left _ (List.mem_of_getElem? (i := 37) rfl)
set_option maxRecDepth 20000 in
theorem tw_309 : (Cond.methodLink RX7 52 yX7_swap) ∈ lw_tbl := tm_4 _ (List.mem_of_getElem? (i := 87) rfl)
set_option maxRecDepth 20000 in
theorem tw_310 : (Cond.instanceMethod yX7_swap) ∈ lw_tbl := tm_4 _ (List.mem_of_getElem? (i := 89) rfl)
set_option maxRecDepth 20000 in
theorem tw_311 : (Cond.selects RX7 yX7_swap yX7_swap) ∈ lw_tbl := List.mem_append_left _ (List.mem_of_getElem? (i := 38) rfl)
set_option maxRecDepth 20000 in
theorem tw_312 : (Cond.methodLink RX7 56 ⟨"RegisterMill$RegisterMachine", "jump", "(I)V"⟩) ∈ lw_tbl := tm_4 _ (List.mem_of_getElem? (i := 91) rfl)
set_option maxRecDepth 20000 in
theorem tw_313 : (Cond.sameMethod "RegisterMill$RegisterMachine" "RegisterMill$Machine" "jump" "(I)V") ∈ lw_tbl := tm_4 _ (List.mem_of_getElem? (i := 92) rfl)
set_option maxRecDepth 20000 in
theorem tw_314 : (Cond.selects RX7 ⟨"RegisterMill$RegisterMachine", "jump", "(I)V"⟩ yX4_jump) ∈ lw_tbl := tm_4 _ (List.mem_of_getElem? (i := 94) rfl)
set_option maxRecDepth 20000 in
theorem tw_315 : (Cond.instanceMethod yX4_jump) ∈ lw_tbl := tm_4 _ (List.mem_of_getElem? (i := 95) rfl)
set_option maxRecDepth 20000 in
theorem tw_316 : (Cond.methodLink RX7 60 ⟨"RegisterMill$RegisterMachine", "leave", "(I)V"⟩) ∈ lw_tbl := tm_4 _ (List.mem_of_getElem? (i := 97) rfl)
set_option maxRecDepth 20000 in
theorem tw_317 : (Cond.sameMethod "RegisterMill$RegisterMachine" "RegisterMill$Machine" "leave" "(I)V") ∈ lw_tbl := tm_4 _ (List.mem_of_getElem? (i := 98) rfl)
set_option maxRecDepth 20000 in
theorem tw_318 : (Cond.selects RX7 ⟨"RegisterMill$RegisterMachine", "leave", "(I)V"⟩ yX4_leave) ∈ lw_tbl := tm_4 _ (List.mem_of_getElem? (i := 100) rfl)
set_option maxRecDepth 20000 in
theorem tw_319 : (Cond.instanceMethod yX4_leave) ∈ lw_tbl := tm_4 _ (List.mem_of_getElem? (i := 101) rfl)
set_option maxRecDepth 20000 in
theorem tw_320 : (Cond.methodLink RX7 63 yX7_fetch) ∈ lw_tbl := tm_4 _ (List.mem_of_getElem? (i := 119) rfl)
set_option maxRecDepth 20000 in
theorem tw_321 : (Cond.instanceMethod yX7_fetch) ∈ lw_tbl := tm_4 _ (List.mem_of_getElem? (i := 121) rfl)
set_option maxRecDepth 20000 in
theorem tw_322 : (Cond.selects RX7 yX7_fetch yX7_fetch) ∈ lw_tbl := List.mem_append_left _ (List.mem_of_getElem? (i := 40) rfl)
set_option maxRecDepth 20000 in
theorem tw_323 : (Cond.methodLink RX7 66 yX7_store) ∈ lw_tbl := tm_4 _ (List.mem_of_getElem? (i := 129) rfl)
set_option maxRecDepth 20000 in
theorem tw_324 : (Cond.instanceMethod yX7_store) ∈ lw_tbl := tm_4 _ (List.mem_of_getElem? (i := 131) rfl)
set_option maxRecDepth 20000 in
theorem tw_325 : (Cond.selects RX7 yX7_store yX7_store) ∈ lw_tbl := List.mem_append_left _ (List.mem_of_getElem? (i := 41) rfl)
set_option maxRecDepth 20000 in
theorem tw_326 : (Cond.methodLink RX7 69 ⟨"RegisterMill$RegisterMachine", "enter", "(I)V"⟩) ∈ lw_tbl := tm_4 _ (List.mem_of_getElem? (i := 133) rfl)
set_option maxRecDepth 20000 in
theorem tw_327 : (Cond.sameMethod "RegisterMill$RegisterMachine" "RegisterMill$Machine" "enter" "(I)V") ∈ lw_tbl := tm_4 _ (List.mem_of_getElem? (i := 134) rfl)
set_option maxRecDepth 20000 in
theorem tw_328 : (Cond.selects RX7 ⟨"RegisterMill$RegisterMachine", "enter", "(I)V"⟩ yX4_enter) ∈ lw_tbl := tm_4 _ (List.mem_of_getElem? (i := 136) rfl)
set_option maxRecDepth 20000 in
theorem tw_329 : (Cond.instanceMethod yX4_enter) ∈ lw_tbl := tm_4 _ (List.mem_of_getElem? (i := 34) rfl)
set_option maxRecDepth 20000 in
theorem tw_330 : (Cond.code yX7_step cX7_step 6 none) ∈ lw_tbl := tm_4 _ (List.mem_of_getElem? (i := 65) rfl)
set_option maxRecDepth 20000 in
theorem tw_331 : (Cond.code yX8_pop cX8_pop 1 (some .int)) ∈ lw_tbl := tm_4 _ (List.mem_of_getElem? (i := 143) rfl)
set_option maxRecDepth 20000 in
theorem tw_332 : (Cond.code yX8_flip cX8_flip 3 none) ∈ lw_tbl := tm_4 _ (List.mem_of_getElem? (i := 147) rfl)
set_option maxRecDepth 20000 in
theorem tw_333 : (Cond.methodLink RX8 54 yX8_pop) ∈ lw_tbl := tm_4 _ (List.mem_of_getElem? (i := 140) rfl)
set_option maxRecDepth 20000 in
theorem tw_334 : (Cond.instanceMethod yX8_pop) ∈ lw_tbl := tm_4 _ (List.mem_of_getElem? (i := 142) rfl)
set_option maxRecDepth 20000 in
theorem tw_335 : (Cond.selects RX8 yX8_pop yX8_pop) ∈ lw_tbl := List.mem_append_left _ (List.mem_of_getElem? (i := 42) rfl)
set_option maxRecDepth 20000 in
theorem tw_336 : (Cond.code yX8_fetch cX8_fetch 2 none) ∈ lw_tbl := tm_4 _ (List.mem_of_getElem? (i := 160) rfl)
set_option maxRecDepth 20000 in
theorem tw_337 : (Cond.fieldLink RX8 84 "RegisterMill$StackMachine" "memory" "[I") ∈ lw_tbl := tm_2 _ (List.mem_of_getElem? (i := 67) rfl)
set_option maxRecDepth 20000 in
theorem tw_338 : (Cond.sameField "RegisterMill$StackMachine" "RegisterMill$Machine" "memory" "[I") ∈ lw_tbl := tm_2 _ (List.mem_of_getElem? (i := 68) rfl)
set_option maxRecDepth 20000 in
theorem tw_339 : (Cond.methodLink RX8 80 ⟨"RegisterMill$StackMachine", "hasCell", "(I)Z"⟩) ∈ lw_tbl := tm_4 _ (List.mem_of_getElem? (i := 161) rfl)
set_option maxRecDepth 20000 in
theorem tw_340 : (Cond.sameMethod "RegisterMill$StackMachine" "RegisterMill$Machine" "hasCell" "(I)Z") ∈ lw_tbl := tm_4 _ (List.mem_of_getElem? (i := 162) rfl)
set_option maxRecDepth 20000 in
theorem tw_341 : (Cond.selects RX8 ⟨"RegisterMill$StackMachine", "hasCell", "(I)Z"⟩ yX4_hasCell) ∈ lw_tbl := tm_4 _ (List.mem_of_getElem? (i := 163) rfl)
set_option maxRecDepth 20000 in
theorem tw_342 : (Cond.code yX8_store cX8_store 3 none) ∈ lw_tbl := tm_4 _ (List.mem_of_getElem? (i := 167) rfl)
set_option maxRecDepth 20000 in
theorem tw_343 : (Cond.code yX8_work cX8_work 4 none) ∈ lw_tbl := tm_4 _ (List.mem_of_getElem? (i := 171) rfl)
set_option maxRecDepth 20000 in
theorem tw_344 : (Cond.methodLink RX8 87 ⟨"RegisterMill$StackMachine", "canReckon", "(II)Z"⟩) ∈ lw_tbl := tm_4 _ (List.mem_of_getElem? (i := 172) rfl)
set_option maxRecDepth 20000 in
theorem tw_345 : (Cond.sameMethod "RegisterMill$StackMachine" "RegisterMill$Machine" "canReckon" "(II)Z") ∈ lw_tbl := tm_4 _ (List.mem_of_getElem? (i := 173) rfl)
set_option maxRecDepth 20000 in
theorem tw_346 : (Cond.selects RX8 ⟨"RegisterMill$StackMachine", "canReckon", "(II)Z"⟩ yX4_canReckon) ∈ lw_tbl := tm_4 _ (List.mem_of_getElem? (i := 174) rfl)
set_option maxRecDepth 20000 in
theorem tw_347 : (Cond.fieldLink RX8 45 "RegisterMill$Program" "ops" "[I") ∈ lw_tbl := tm_1 _ (List.mem_of_getElem? (i := 55) rfl)
set_option maxRecDepth 20000 in
theorem tw_348 : (Cond.fieldLink RX8 48 "RegisterMill$Program" "starts" "[I") ∈ lw_tbl := tm_1 _ (List.mem_of_getElem? (i := 47) rfl)
set_option maxRecDepth 20000 in
theorem tw_349 : (Cond.fieldLink RX8 51 "RegisterMill$Program" "numbers" "[I") ∈ lw_tbl := tm_1 _ (List.mem_of_getElem? (i := 59) rfl)
set_option maxRecDepth 20000 in
theorem tw_350 : (Cond.methodLink RX8 57 yX8_flip) ∈ lw_tbl := tm_4 _ (List.mem_of_getElem? (i := 144) rfl)
set_option maxRecDepth 20000 in
theorem tw_351 : (Cond.instanceMethod yX8_flip) ∈ lw_tbl := tm_4 _ (List.mem_of_getElem? (i := 146) rfl)
set_option maxRecDepth 20000 in
theorem tw_352 : (Cond.selects RX8 yX8_flip yX8_flip) ∈ lw_tbl := List.mem_append_left _ (List.mem_of_getElem? (i := 43) rfl)
set_option maxRecDepth 20000 in
theorem tw_353 : (Cond.methodLink RX8 60 ⟨"RegisterMill$StackMachine", "jump", "(I)V"⟩) ∈ lw_tbl := tm_4 _ (List.mem_of_getElem? (i := 148) rfl)
set_option maxRecDepth 20000 in
theorem tw_354 : (Cond.sameMethod "RegisterMill$StackMachine" "RegisterMill$Machine" "jump" "(I)V") ∈ lw_tbl := tm_4 _ (List.mem_of_getElem? (i := 149) rfl)
set_option maxRecDepth 20000 in
theorem tw_355 : (Cond.selects RX8 ⟨"RegisterMill$StackMachine", "jump", "(I)V"⟩ yX4_jump) ∈ lw_tbl := tm_4 _ (List.mem_of_getElem? (i := 150) rfl)
set_option maxRecDepth 20000 in
theorem tw_356 : (Cond.methodLink RX8 63 ⟨"RegisterMill$StackMachine", "enter", "(I)V"⟩) ∈ lw_tbl := tm_4 _ (List.mem_of_getElem? (i := 151) rfl)
set_option maxRecDepth 20000 in
theorem tw_357 : (Cond.sameMethod "RegisterMill$StackMachine" "RegisterMill$Machine" "enter" "(I)V") ∈ lw_tbl := tm_4 _ (List.mem_of_getElem? (i := 152) rfl)
set_option maxRecDepth 20000 in
theorem tw_358 : (Cond.selects RX8 ⟨"RegisterMill$StackMachine", "enter", "(I)V"⟩ yX4_enter) ∈ lw_tbl := tm_4 _ (List.mem_of_getElem? (i := 153) rfl)
set_option maxRecDepth 20000 in
theorem tw_359 : (Cond.methodLink RX8 66 ⟨"RegisterMill$StackMachine", "leave", "(I)V"⟩) ∈ lw_tbl := tm_4 _ (List.mem_of_getElem? (i := 154) rfl)
set_option maxRecDepth 20000 in
theorem tw_360 : (Cond.sameMethod "RegisterMill$StackMachine" "RegisterMill$Machine" "leave" "(I)V") ∈ lw_tbl := tm_4 _ (List.mem_of_getElem? (i := 155) rfl)
set_option maxRecDepth 20000 in
theorem tw_361 : (Cond.selects RX8 ⟨"RegisterMill$StackMachine", "leave", "(I)V"⟩ yX4_leave) ∈ lw_tbl := tm_4 _ (List.mem_of_getElem? (i := 156) rfl)
set_option maxRecDepth 20000 in
theorem tw_362 : (Cond.methodLink RX8 69 yX8_fetch) ∈ lw_tbl := tm_4 _ (List.mem_of_getElem? (i := 157) rfl)
set_option maxRecDepth 20000 in
theorem tw_363 : (Cond.instanceMethod yX8_fetch) ∈ lw_tbl := tm_4 _ (List.mem_of_getElem? (i := 159) rfl)
set_option maxRecDepth 20000 in
theorem tw_364 : (Cond.selects RX8 yX8_fetch yX8_fetch) ∈ lw_tbl := List.mem_append_left _ (List.mem_of_getElem? (i := 44) rfl)
set_option maxRecDepth 20000 in
theorem tw_365 : (Cond.methodLink RX8 72 yX8_store) ∈ lw_tbl := tm_4 _ (List.mem_of_getElem? (i := 164) rfl)
set_option maxRecDepth 20000 in
theorem tw_366 : (Cond.instanceMethod yX8_store) ∈ lw_tbl := tm_4 _ (List.mem_of_getElem? (i := 166) rfl)
set_option maxRecDepth 20000 in
theorem tw_367 : (Cond.selects RX8 yX8_store yX8_store) ∈ lw_tbl := List.mem_append_left _ (List.mem_of_getElem? (i := 45) rfl)
set_option maxRecDepth 20000 in
theorem tw_368 : (Cond.methodLink RX8 76 yX8_work) ∈ lw_tbl := tm_4 _ (List.mem_of_getElem? (i := 168) rfl)
set_option maxRecDepth 20000 in
theorem tw_369 : (Cond.instanceMethod yX8_work) ∈ lw_tbl := tm_4 _ (List.mem_of_getElem? (i := 170) rfl)
set_option maxRecDepth 20000 in
theorem tw_370 : (Cond.selects RX8 yX8_work yX8_work) ∈ lw_tbl := List.mem_append_left _ (List.mem_of_getElem? (i := 46) rfl)
set_option maxRecDepth 20000 in
theorem tw_371 : (Cond.code yX8_step cX8_step 5 none) ∈ lw_tbl := tm_4 _ (List.mem_of_getElem? (i := 139) rfl)
set_option maxRecDepth 20000 in
theorem tw_372 : (Cond.methodLink RX4 37 ⟨"RegisterMill$Machine", "enter", "(I)V"⟩) ∈ lw_tbl := tm_4 _ (List.mem_of_getElem? (i := 33) rfl)
set_option maxRecDepth 20000 in
theorem tw_373 : (Cond.sameMethod "RegisterMill$Machine" "RegisterMill$Machine" "enter" "(I)V") ∈ lw_tbl := tm_4 _ (List.mem_of_getElem? (i := 35) rfl)
set_option maxRecDepth 20000 in
theorem tw_374 : (Cond.selects RX7 ⟨"RegisterMill$Machine", "enter", "(I)V"⟩ yX4_enter) ∈ lw_tbl := tm_4 _ (List.mem_of_getElem? (i := 36) rfl)
set_option maxRecDepth 20000 in
theorem tw_375 : (Cond.selects RX8 ⟨"RegisterMill$Machine", "enter", "(I)V"⟩ yX4_enter) ∈ lw_tbl := tm_4 _ (List.mem_of_getElem? (i := 37) rfl)
set_option maxRecDepth 20000 in
theorem tw_376 : (Cond.methodLink RX4 45 ⟨"RegisterMill$Machine", "step", "(II)V"⟩) ∈ lw_tbl := tm_4 _ (List.mem_of_getElem? (i := 60) rfl)
set_option maxRecDepth 20000 in
theorem tw_377 : (Cond.sameMethod "RegisterMill$Machine" "RegisterMill$Machine" "step" "(II)V") ∈ lw_tbl := tm_4 _ (List.mem_of_getElem? (i := 62) rfl)
set_option maxRecDepth 20000 in
theorem tw_378 : (Cond.selects RX7 ⟨"RegisterMill$Machine", "step", "(II)V"⟩ yX7_step) ∈ lw_tbl := tm_4 _ (List.mem_of_getElem? (i := 63) rfl)
set_option maxRecDepth 20000 in
theorem tw_379 : (Cond.instanceMethod yX7_step) ∈ lw_tbl := tm_4 _ (List.mem_of_getElem? (i := 64) rfl)
set_option maxRecDepth 20000 in
theorem tw_380 : (Cond.selects RX8 ⟨"RegisterMill$Machine", "step", "(II)V"⟩ yX8_step) ∈ lw_tbl := tm_4 _ (List.mem_of_getElem? (i := 137) rfl)
set_option maxRecDepth 20000 in
theorem tw_381 : (Cond.instanceMethod yX8_step) ∈ lw_tbl := tm_4 _ (List.mem_of_getElem? (i := 138) rfl)
set_option maxRecDepth 20000 in
theorem tw_382 : (Cond.code yX4_goOn cX4_goOn 4 (some .int)) ∈ lw_tbl := tm_4 _ (List.mem_of_getElem? (i := 32) rfl)
set_option maxRecDepth 20000 in
theorem tw_383 : (Cond.code yX4_tell cX4_tell 2 (some .int)) ∈ lw_tbl := tm_4 _ (List.mem_of_getElem? (i := 193) rfl)
set_option maxRecDepth 20000 in
theorem tw_384 : (Cond.code yX5_init cX5_init 1 none) ∈ lw_tbl := tm_1 _ (List.mem_of_getElem? (i := 121) rfl)
set_option maxRecDepth 20000 in
theorem tw_385 : (Cond.methodLink RX5 3 objectInit) ∈ lw_tbl := tm_1 _ (List.mem_of_getElem? (i := 122) rfl)
set_option maxRecDepth 20000 in
theorem tw_386 : (Cond.fieldLink RX5 15 "RegisterMill$Places" "numbers" "[I") ∈ lw_tbl := tm_1 _ (List.mem_of_getElem? (i := 127) rfl)
set_option maxRecDepth 20000 in
theorem tw_387 : (Cond.fieldLink RX5 18 "RegisterMill$Places" "goals" "[I") ∈ lw_tbl := tm_1 _ (List.mem_of_getElem? (i := 129) rfl)
set_option maxRecDepth 20000 in
theorem tw_388 : (Cond.classLink RX5 27 "[[I") ∈ lw_tbl := tm_1 _ (List.mem_of_getElem? (i := 123) rfl)
set_option maxRecDepth 20000 in
theorem tw_389 : (Cond.fieldLink RX5 32 "RegisterMill$Places" "newNumbers" "[I") ∈ lw_tbl := tm_1 _ (List.mem_of_getElem? (i := 143) rfl)
set_option maxRecDepth 20000 in
theorem tw_390 : (Cond.fieldLink RX5 35 "RegisterMill$Places" "blockStarts" "[Z") ∈ lw_tbl := tm_1 _ (List.mem_of_getElem? (i := 144) rfl)
set_option maxRecDepth 20000 in
theorem tw_391 : (Cond.fieldLink RX5 39 "RegisterMill$Places" "copyOf" "[I") ∈ lw_tbl := tm_1 _ (List.mem_of_getElem? (i := 145) rfl)
set_option maxRecDepth 20000 in
theorem tw_392 : (Cond.code yX5_add cX5_add 4 none) ∈ lw_tbl := tm_3 _ (List.mem_of_getElem? (i := 24) rfl)
set_option maxRecDepth 20000 in
theorem tw_393 : (Cond.code yX5_addRead cX5_addRead 3 none) ∈ lw_tbl := tm_3 _ (List.mem_of_getElem? (i := 32) rfl)
set_option maxRecDepth 20000 in
theorem tw_394 : (Cond.code yX5_addReading cX5_addReading 4 none) ∈ lw_tbl := tm_3 _ (List.mem_of_getElem? (i := 28) rfl)
set_option maxRecDepth 20000 in
theorem tw_395 : (Cond.methodLink RX5 71 yX5_add) ∈ lw_tbl := tm_3 _ (List.mem_of_getElem? (i := 21) rfl)
set_option maxRecDepth 20000 in
theorem tw_396 : (Cond.instanceMethod yX5_add) ∈ lw_tbl := tm_3 _ (List.mem_of_getElem? (i := 23) rfl)
set_option maxRecDepth 20000 in
theorem tw_397 : (Cond.selects RX5 yX5_add yX5_add) ∈ lw_tbl := List.mem_append_left _ (List.mem_of_getElem? (i := 7) rfl)
set_option maxRecDepth 20000 in
theorem tw_398 : (Cond.methodLink RX5 78 yX5_addRead) ∈ lw_tbl := tm_3 _ (List.mem_of_getElem? (i := 29) rfl)
set_option maxRecDepth 20000 in
theorem tw_399 : (Cond.instanceMethod yX5_addRead) ∈ lw_tbl := tm_3 _ (List.mem_of_getElem? (i := 31) rfl)
set_option maxRecDepth 20000 in
theorem tw_400 : (Cond.selects RX5 yX5_addRead yX5_addRead) ∈ lw_tbl := List.mem_append_left _ (List.mem_of_getElem? (i := 9) rfl)
set_option maxRecDepth 20000 in
theorem tw_401 : (Cond.code yX5_addCall cX5_addCall 5 none) ∈ lw_tbl := tm_3 _ (List.mem_of_getElem? (i := 36) rfl)
set_option maxRecDepth 20000 in
theorem tw_402 : (Cond.fieldLink RX5 67 "RegisterMill$Program" "numbers" "[I") ∈ lw_tbl := tm_1 _ (List.mem_of_getElem? (i := 58) rfl)
set_option maxRecDepth 20000 in
theorem tw_403 : (Cond.fieldLink RX5 54 "RegisterMill$Program" "depths" "[I") ∈ lw_tbl := tm_1 _ (List.mem_of_getElem? (i := 62) rfl)
set_option maxRecDepth 20000 in
theorem tw_404 : (Cond.fieldLink RX5 68 "RegisterMill$Program" "ops" "[I") ∈ lw_tbl := tm_1 _ (List.mem_of_getElem? (i := 54) rfl)
set_option maxRecDepth 20000 in
theorem tw_405 : (Cond.fieldLink RX5 82 "RegisterMill$Program" "args" "[I") ∈ lw_tbl := tm_1 _ (List.mem_of_getElem? (i := 38) rfl)
set_option maxRecDepth 20000 in
theorem tw_406 : (Cond.methodLink RX5 75 yX5_addReading) ∈ lw_tbl := tm_3 _ (List.mem_of_getElem? (i := 25) rfl)
set_option maxRecDepth 20000 in
theorem tw_407 : (Cond.instanceMethod yX5_addReading) ∈ lw_tbl := tm_3 _ (List.mem_of_getElem? (i := 27) rfl)
set_option maxRecDepth 20000 in
theorem tw_408 : (Cond.selects RX5 yX5_addReading yX5_addReading) ∈ lw_tbl := List.mem_append_left _ (List.mem_of_getElem? (i := 8) rfl)
set_option maxRecDepth 20000 in
theorem tw_409 : (Cond.methodLink RX5 85 yX5_addCall) ∈ lw_tbl := tm_3 _ (List.mem_of_getElem? (i := 33) rfl)
set_option maxRecDepth 20000 in
theorem tw_410 : (Cond.instanceMethod yX5_addCall) ∈ lw_tbl := tm_3 _ (List.mem_of_getElem? (i := 35) rfl)
set_option maxRecDepth 20000 in
theorem tw_411 : (Cond.selects RX5 yX5_addCall yX5_addCall) ∈ lw_tbl := List.mem_append_left _ (List.mem_of_getElem? (i := 10) rfl)
set_option maxRecDepth 20000 in
theorem tw_412 : (Cond.code yX5_become cX5_become 6 none) ∈ lw_tbl := tm_3 _ (List.mem_of_getElem? (i := 20) rfl)
set_option maxRecDepth 20000 in
theorem tw_413 : (Cond.code yX5_aimAnew cX5_aimAnew 2 none) ∈ lw_tbl := tm_3 _ (List.mem_of_getElem? (i := 40) rfl)
set_option maxRecDepth 20000 in
theorem tw_414 : (Cond.methodLink RX5 88 yX5_jumps) ∈ lw_tbl := tm_3 _ (List.mem_of_getElem? (i := 41) rfl)
set_option maxRecDepth 20000 in
theorem tw_415 : (Cond.fieldLink RX5 46 "RegisterMill$Program" "starts" "[I") ∈ lw_tbl := tm_1 _ (List.mem_of_getElem? (i := 45) rfl)
set_option maxRecDepth 20000 in
theorem tw_416 : (Cond.fieldLink RX5 51 "RegisterMill$Program" "lengths" "[I") ∈ lw_tbl := tm_1 _ (List.mem_of_getElem? (i := 50) rfl)
set_option maxRecDepth 20000 in
theorem tw_417 : (Cond.fieldLink RX5 57 "RegisterMill$Program" "locals" "[I") ∈ lw_tbl := tm_1 _ (List.mem_of_getElem? (i := 40) rfl)
set_option maxRecDepth 20000 in
theorem tw_418 : (Cond.methodLink RX5 60 yX5_become) ∈ lw_tbl := tm_3 _ (List.mem_of_getElem? (i := 17) rfl)
set_option maxRecDepth 20000 in
theorem tw_419 : (Cond.instanceMethod yX5_become) ∈ lw_tbl := tm_3 _ (List.mem_of_getElem? (i := 19) rfl)
set_option maxRecDepth 20000 in
theorem tw_420 : (Cond.selects RX5 yX5_become yX5_become) ∈ lw_tbl := List.mem_append_left _ (List.mem_of_getElem? (i := 6) rfl)
set_option maxRecDepth 20000 in
theorem tw_421 : (Cond.methodLink RX5 64 yX5_aimAnew) ∈ lw_tbl := tm_3 _ (List.mem_of_getElem? (i := 37) rfl)
set_option maxRecDepth 20000 in
theorem tw_422 : (Cond.instanceMethod yX5_aimAnew) ∈ lw_tbl := tm_3 _ (List.mem_of_getElem? (i := 39) rfl)
set_option maxRecDepth 20000 in
theorem tw_423 : (Cond.selects RX5 yX5_aimAnew yX5_aimAnew) ∈ lw_tbl := List.mem_append_left _ (List.mem_of_getElem? (i := 11) rfl)
set_option maxRecDepth 20000 in
theorem tw_424 : (Cond.code yX5_build cX5_build 5 none) ∈ lw_tbl := tm_3 _ (List.mem_of_getElem? (i := 16) rfl)
set_option maxRecDepth 20000 in
theorem tw_425 : (Cond.code yX5_markBlockStarts cX5_markBlockStarts 2 none) ∈ lw_tbl := tm_3 _ (List.mem_of_getElem? (i := 52) rfl)
set_option maxRecDepth 20000 in
theorem tw_426 : (Cond.code yX5_forwardReads cX5_forwardReads 4 none) ∈ lw_tbl := tm_3 _ (List.mem_of_getElem? (i := 57) rfl)
set_option maxRecDepth 20000 in
theorem tw_427 : (Cond.code yX5_forgetWritten cX5_forgetWritten 4 none) ∈ lw_tbl := tm_3 _ (List.mem_of_getElem? (i := 69) rfl)
set_option maxRecDepth 20000 in
theorem tw_428 : (Cond.methodLink RX5 96 yX5_markBlockStarts) ∈ lw_tbl := tm_3 _ (List.mem_of_getElem? (i := 49) rfl)
set_option maxRecDepth 20000 in
theorem tw_429 : (Cond.instanceMethod yX5_markBlockStarts) ∈ lw_tbl := tm_3 _ (List.mem_of_getElem? (i := 51) rfl)
set_option maxRecDepth 20000 in
theorem tw_430 : (Cond.selects RX5 yX5_markBlockStarts yX5_markBlockStarts) ∈ lw_tbl := List.mem_append_left _ (List.mem_of_getElem? (i := 12) rfl)
set_option maxRecDepth 20000 in
theorem tw_431 : (Cond.methodLink RX5 99 yJ7_fill_53178) ∈ lw_tbl := tm_3 _ (List.mem_of_getElem? (i := 53) rfl)
set_option maxRecDepth 20000 in
theorem tw_432 : (Cond.methodLink RX5 105 yX5_forwardReads) ∈ lw_tbl := tm_3 _ (List.mem_of_getElem? (i := 54) rfl)
set_option maxRecDepth 20000 in
theorem tw_433 : (Cond.instanceMethod yX5_forwardReads) ∈ lw_tbl := tm_3 _ (List.mem_of_getElem? (i := 56) rfl)
set_option maxRecDepth 20000 in
theorem tw_434 : (Cond.selects RX5 yX5_forwardReads yX5_forwardReads) ∈ lw_tbl := List.mem_append_left _ (List.mem_of_getElem? (i := 13) rfl)
set_option maxRecDepth 20000 in
theorem tw_435 : (Cond.methodLink RX5 108 yX5_writtenSet) ∈ lw_tbl := tm_3 _ (List.mem_of_getElem? (i := 58) rfl)
set_option maxRecDepth 20000 in
theorem tw_436 : (Cond.methodLink RX5 111 yX5_forgetWritten) ∈ lw_tbl := tm_3 _ (List.mem_of_getElem? (i := 66) rfl)
set_option maxRecDepth 20000 in
theorem tw_437 : (Cond.instanceMethod yX5_forgetWritten) ∈ lw_tbl := tm_3 _ (List.mem_of_getElem? (i := 68) rfl)
set_option maxRecDepth 20000 in
theorem tw_438 : (Cond.selects RX5 yX5_forgetWritten yX5_forgetWritten) ∈ lw_tbl := List.mem_append_left _ (List.mem_of_getElem? (i := 14) rfl)
set_option maxRecDepth 20000 in
theorem tw_439 : (Cond.code yX5_forward cX5_forward 2 none) ∈ lw_tbl := tm_3 _ (List.mem_of_getElem? (i := 48) rfl)
set_option maxRecDepth 20000 in
theorem tw_440 : (Cond.code yX5_isUseless cX5_isUseless 4 (some .boolean)) ∈ lw_tbl := tm_3 _ (List.mem_of_getElem? (i := 97) rfl)
set_option maxRecDepth 20000 in
theorem tw_441 : (Cond.fieldLink RX5 122 "RegisterMill$Live" "behind" "[I") ∈ lw_tbl := tm_1 _ (List.mem_of_getElem? (i := 177) rfl)
set_option maxRecDepth 20000 in
theorem tw_442 : (Cond.code yX5_copyPlace cX5_copyPlace 4 none) ∈ lw_tbl := tm_3 _ (List.mem_of_getElem? (i := 101) rfl)
set_option maxRecDepth 20000 in
theorem tw_443 : (Cond.methodLink RX5 114 yX5_isUseless) ∈ lw_tbl := tm_3 _ (List.mem_of_getElem? (i := 94) rfl)
set_option maxRecDepth 20000 in
theorem tw_444 : (Cond.instanceMethod yX5_isUseless) ∈ lw_tbl := tm_3 _ (List.mem_of_getElem? (i := 96) rfl)
set_option maxRecDepth 20000 in
theorem tw_445 : (Cond.selects RX5 yX5_isUseless yX5_isUseless) ∈ lw_tbl := List.mem_append_left _ (List.mem_of_getElem? (i := 17) rfl)
set_option maxRecDepth 20000 in
theorem tw_446 : (Cond.methodLink RX5 118 yX5_copyPlace) ∈ lw_tbl := tm_3 _ (List.mem_of_getElem? (i := 98) rfl)
set_option maxRecDepth 20000 in
theorem tw_447 : (Cond.instanceMethod yX5_copyPlace) ∈ lw_tbl := tm_3 _ (List.mem_of_getElem? (i := 100) rfl)
set_option maxRecDepth 20000 in
theorem tw_448 : (Cond.selects RX5 yX5_copyPlace yX5_copyPlace) ∈ lw_tbl := List.mem_append_left _ (List.mem_of_getElem? (i := 18) rfl)
set_option maxRecDepth 20000 in
theorem tw_449 : (Cond.code yX5_dropUseless cX5_dropUseless 4 (some .boolean)) ∈ lw_tbl := tm_3 _ (List.mem_of_getElem? (i := 93) rfl)
set_option maxRecDepth 20000 in
theorem tw_450 : (Cond.code yX6_init cX6_init 1 none) ∈ lw_tbl := tm_1 _ (List.mem_of_getElem? (i := 33) rfl)
set_option maxRecDepth 20000 in
theorem tw_451 : (Cond.methodLink RX6 3 objectInit) ∈ lw_tbl := tm_1 _ (List.mem_of_getElem? (i := 34) rfl)
set_option maxRecDepth 20000 in
theorem tw_452 : (Cond.fieldLink RX6 15 "RegisterMill$Program" "locals" "[I") ∈ lw_tbl := tm_1 _ (List.mem_of_getElem? (i := 39) rfl)
set_option maxRecDepth 20000 in
theorem tw_453 : (Cond.fieldLink RX6 18 "RegisterMill$Program" "starts" "[I") ∈ lw_tbl := tm_1 _ (List.mem_of_getElem? (i := 44) rfl)
set_option maxRecDepth 20000 in
theorem tw_454 : (Cond.fieldLink RX6 21 "RegisterMill$Program" "lengths" "[I") ∈ lw_tbl := tm_1 _ (List.mem_of_getElem? (i := 49) rfl)
set_option maxRecDepth 20000 in
theorem tw_455 : (Cond.fieldLink RX6 24 "RegisterMill$Program" "ops" "[I") ∈ lw_tbl := tm_1 _ (List.mem_of_getElem? (i := 53) rfl)
set_option maxRecDepth 20000 in
theorem tw_456 : (Cond.fieldLink RX6 27 "RegisterMill$Program" "numbers" "[I") ∈ lw_tbl := tm_1 _ (List.mem_of_getElem? (i := 57) rfl)
set_option maxRecDepth 20000 in
theorem tw_457 : (Cond.fieldLink RX6 30 "RegisterMill$Program" "depths" "[I") ∈ lw_tbl := tm_1 _ (List.mem_of_getElem? (i := 61) rfl)
set_option maxRecDepth 20000 in
theorem tw_458 : (Cond.code yX6_addFunc cX6_addFunc 3 (some .int)) ∈ lw_tbl := tm_2 _ (List.mem_of_getElem? (i := 156) rfl)
set_option maxRecDepth 20000 in
theorem tw_459 : (Cond.fieldLink RX6 37 "RegisterMill$Program" "words" "I") ∈ lw_tbl := tm_1 _ (List.mem_of_getElem? (i := 68) rfl)
set_option maxRecDepth 20000 in
theorem tw_460 : (Cond.code yX6_addWord cX6_addWord 4 (some .int)) ∈ lw_tbl := tm_2 _ (List.mem_of_getElem? (i := 164) rfl)
set_option maxRecDepth 20000 in
theorem tw_461 : (Cond.code yX6_empty cX6_empty 1 none) ∈ lw_tbl := tm_2 _ (List.mem_of_getElem? (i := 220) rfl)
set_option maxRecDepth 20000 in
theorem tw_462 : (Cond.fieldLink RX6 40 "RegisterMill$Program" "checked" "Z") ∈ lw_tbl := tm_1 _ (List.mem_of_getElem? (i := 71) rfl)
set_option maxRecDepth 20000 in
theorem tw_463 : (Cond.code yX7_init cX7_init 2 none) ∈ lw_tbl := tm_2 _ (List.mem_of_getElem? (i := 107) rfl)
set_option maxRecDepth 20000 in
theorem tw_464 : (Cond.instanceMethod yX4_init) ∈ lw_tbl := tm_2 _ (List.mem_of_getElem? (i := 55) rfl)
set_option maxRecDepth 20000 in
theorem tw_465 : (Cond.code yX7_begin cX7_begin 1 none) ∈ lw_tbl := tm_2 _ (List.mem_of_getElem? (i := 230) rfl)
set_option maxRecDepth 20000 in
theorem tw_466 : (Cond.methodLink RX7 25 yX4_begin) ∈ lw_tbl := tm_2 _ (List.mem_of_getElem? (i := 231) rfl)
set_option maxRecDepth 20000 in
theorem tw_467 : (Cond.sameMethod "RegisterMill$Machine" "RegisterMill$Machine" "begin" "()V") ∈ lw_tbl := tm_2 _ (List.mem_of_getElem? (i := 227) rfl)
set_option maxRecDepth 20000 in
theorem tw_468 : (Cond.superclass RX7 RX4) ∈ lw_tbl := tm_2 _ (List.mem_of_getElem? (i := 132) rfl)
set_option maxRecDepth 20000 in
theorem tw_469 : (Cond.instanceMethod yX4_begin) ∈ lw_tbl := tm_2 _ (List.mem_of_getElem? (i := 226) rfl)
set_option maxRecDepth 20000 in
theorem tw_470 : (Cond.methodLink RX7 32 yJ7_fill_53178) ∈ lw_tbl := tm_2 _ (List.mem_of_getElem? (i := 232) rfl)
set_option maxRecDepth 20000 in
theorem tw_471 : (Cond.code yX8_init cX8_init 2 none) ∈ lw_tbl := tm_2 _ (List.mem_of_getElem? (i := 53) rfl)
set_option maxRecDepth 20000 in
theorem tw_472 : (Cond.code yX8_begin cX8_begin 1 none) ∈ lw_tbl := tm_2 _ (List.mem_of_getElem? (i := 237) rfl)
set_option maxRecDepth 20000 in
theorem tw_473 : (Cond.methodLink RX8 25 yX4_begin) ∈ lw_tbl := tm_2 _ (List.mem_of_getElem? (i := 238) rfl)
set_option maxRecDepth 20000 in
theorem tw_474 : (Cond.superclass RX8 RX4) ∈ lw_tbl := tm_2 _ (List.mem_of_getElem? (i := 102) rfl)
set_option maxRecDepth 20000 in
theorem tw_475 : (Cond.code yX10_init cX10_init 4 none) ∈ lw_tbl := tm_1 _ (List.mem_of_getElem? (i := 236) rfl)
set_option maxRecDepth 20000 in
theorem tw_476 : (Cond.methodLink RX10 3 objectInit) ∈ lw_tbl := tm_1 _ (List.mem_of_getElem? (i := 237) rfl)
set_option maxRecDepth 20000 in
theorem tw_477 : (Cond.fieldLink RX10 9 "RegisterMill$Writer" "firstOps" "[I") ∈ lw_tbl := tm_2 _ (List.mem_of_getElem? (i := 1) rfl)
set_option maxRecDepth 20000 in
theorem tw_478 : (Cond.fieldLink RX10 15 "RegisterMill$Writer" "places" "LRegisterMill$Places;") ∈ lw_tbl := tm_1 _ (List.mem_of_getElem? (i := 238) rfl)
set_option maxRecDepth 20000 in
theorem tw_479 : (Cond.fieldLink RX10 19 "RegisterMill$Writer" "homes" "LRegisterMill$Homes;") ∈ lw_tbl := tm_1 _ (List.mem_of_getElem? (i := 239) rfl)
set_option maxRecDepth 20000 in
theorem tw_480 : (Cond.fieldLink RX10 23 "RegisterMill$Writer" "code" "LRegisterMill$Code;") ∈ lw_tbl := tm_2 _ (List.mem_of_getElem? (i := 0) rfl)
set_option maxRecDepth 20000 in
theorem tw_481 : (Cond.laysFinal RX10 "RegisterMill$Writer" "places" "LRegisterMill$Places;") ∈ lw_tbl := tm_2 _ (List.mem_of_getElem? (i := 5) rfl)
set_option maxRecDepth 20000 in
theorem tw_482 : (Cond.laysFinal RX10 "RegisterMill$Writer" "homes" "LRegisterMill$Homes;") ∈ lw_tbl := tm_2 _ (List.mem_of_getElem? (i := 7) rfl)
set_option maxRecDepth 20000 in
theorem tw_483 : (Cond.laysFinal RX10 "RegisterMill$Writer" "code" "LRegisterMill$Code;") ∈ lw_tbl := tm_2 _ (List.mem_of_getElem? (i := 9) rfl)
set_option maxRecDepth 20000 in
theorem tw_484 : (Cond.laysFinal RX10 "RegisterMill$Writer" "firstOps" "[I") ∈ lw_tbl := tm_2 _ (List.mem_of_getElem? (i := 11) rfl)
set_option maxRecDepth 20000 in
theorem tw_485 : (Cond.lays RX10 "RegisterMill$Writer" "func" "I") ∈ lw_tbl := tm_2 _ (List.mem_of_getElem? (i := 13) rfl)
set_option maxRecDepth 20000 in
theorem tw_486 : (Cond.lays RX10 "RegisterMill$Writer" "spareA" "I") ∈ lw_tbl := tm_2 _ (List.mem_of_getElem? (i := 15) rfl)
set_option maxRecDepth 20000 in
theorem tw_487 : (Cond.lays RX10 "RegisterMill$Writer" "spareB" "I") ∈ lw_tbl := tm_2 _ (List.mem_of_getElem? (i := 17) rfl)
set_option maxRecDepth 20000 in
theorem tw_488 : (Cond.methodLink RX9 3 objectInit) ∈ lw_tbl := tm_1 _ (List.mem_of_getElem? (i := 116) rfl)
set_option maxRecDepth 20000 in
theorem tw_489 : (Cond.classLink RX9 9 RX5) ∈ lw_tbl := tm_1 _ (List.mem_of_getElem? (i := 117) rfl)
set_option maxRecDepth 20000 in
theorem tw_490 : (Cond.instantiable RX5 10) ∈ lw_tbl := tm_1 _ (List.mem_of_getElem? (i := 118) rfl)
set_option maxRecDepth 20000 in
theorem tw_491 : (Cond.fieldLink RX9 12 "RegisterMill$Turner" "places" "LRegisterMill$Places;") ∈ lw_tbl := tm_2 _ (List.mem_of_getElem? (i := 21) rfl)
set_option maxRecDepth 20000 in
theorem tw_492 : (Cond.classLink RX9 18 RX3) ∈ lw_tbl := tm_1 _ (List.mem_of_getElem? (i := 167) rfl)
set_option maxRecDepth 20000 in
theorem tw_493 : (Cond.instantiable RX3 2) ∈ lw_tbl := tm_1 _ (List.mem_of_getElem? (i := 168) rfl)
set_option maxRecDepth 20000 in
theorem tw_494 : (Cond.fieldLink RX9 21 "RegisterMill$Turner" "live" "LRegisterMill$Live;") ∈ lw_tbl := tm_2 _ (List.mem_of_getElem? (i := 22) rfl)
set_option maxRecDepth 20000 in
theorem tw_495 : (Cond.classLink RX9 25 RX2) ∈ lw_tbl := tm_1 _ (List.mem_of_getElem? (i := 183) rfl)
set_option maxRecDepth 20000 in
theorem tw_496 : (Cond.instantiable RX2 6) ∈ lw_tbl := tm_1 _ (List.mem_of_getElem? (i := 184) rfl)
set_option maxRecDepth 20000 in
theorem tw_497 : (Cond.fieldLink RX9 28 "RegisterMill$Turner" "homes" "LRegisterMill$Homes;") ∈ lw_tbl := tm_2 _ (List.mem_of_getElem? (i := 23) rfl)
set_option maxRecDepth 20000 in
theorem tw_498 : (Cond.classLink RX9 32 RX1) ∈ lw_tbl := tm_1 _ (List.mem_of_getElem? (i := 209) rfl)
set_option maxRecDepth 20000 in
theorem tw_499 : (Cond.instantiable RX1 4) ∈ lw_tbl := tm_1 _ (List.mem_of_getElem? (i := 210) rfl)
set_option maxRecDepth 20000 in
theorem tw_500 : (Cond.fieldLink RX9 35 "RegisterMill$Turner" "code" "LRegisterMill$Code;") ∈ lw_tbl := tm_2 _ (List.mem_of_getElem? (i := 25) rfl)
set_option maxRecDepth 20000 in
theorem tw_501 : (Cond.fieldLink RX9 39 "RegisterMill$Turner" "placeCounts" "[I") ∈ lw_tbl := tm_2 _ (List.mem_of_getElem? (i := 28) rfl)
set_option maxRecDepth 20000 in
theorem tw_502 : (Cond.fieldLink RX9 43 "RegisterMill$Turner" "program" "LRegisterMill$Program;") ∈ lw_tbl := tm_2 _ (List.mem_of_getElem? (i := 20) rfl)
set_option maxRecDepth 20000 in
theorem tw_503 : (Cond.classLink RX9 47 RX10) ∈ lw_tbl := tm_1 _ (List.mem_of_getElem? (i := 232) rfl)
set_option maxRecDepth 20000 in
theorem tw_504 : (Cond.instantiable RX10 7) ∈ lw_tbl := tm_1 _ (List.mem_of_getElem? (i := 233) rfl)
set_option maxRecDepth 20000 in
theorem tw_505 : (Cond.initialized RX10) ∈ lw_tbl := tm_1 _ (List.mem_of_getElem? (i := 9) rfl)
set_option maxRecDepth 20000 in
theorem tw_506 : (Cond.fieldLink RX9 52 "RegisterMill$Turner" "writer" "LRegisterMill$Writer;") ∈ lw_tbl := tm_2 _ (List.mem_of_getElem? (i := 27) rfl)
set_option maxRecDepth 20000 in
theorem tw_507 : (Cond.instanceMethod yX5_init) ∈ lw_tbl := tm_1 _ (List.mem_of_getElem? (i := 120) rfl)
set_option maxRecDepth 20000 in
theorem tw_508 : (Cond.instanceMethod yX3_init) ∈ lw_tbl := tm_1 _ (List.mem_of_getElem? (i := 170) rfl)
set_option maxRecDepth 20000 in
theorem tw_509 : (Cond.instanceMethod yX2_init) ∈ lw_tbl := tm_1 _ (List.mem_of_getElem? (i := 186) rfl)
set_option maxRecDepth 20000 in
theorem tw_510 : (Cond.instanceMethod yX1_init) ∈ lw_tbl := tm_1 _ (List.mem_of_getElem? (i := 212) rfl)
set_option maxRecDepth 20000 in
theorem tw_511 : (Cond.methodLink RX9 49 yX10_init) ∈ lw_tbl := tm_1 _ (List.mem_of_getElem? (i := 234) rfl)
set_option maxRecDepth 20000 in
theorem tw_512 : (Cond.instanceMethod yX10_init) ∈ lw_tbl := tm_1 _ (List.mem_of_getElem? (i := 235) rfl)
set_option maxRecDepth 20000 in
theorem tw_513 : (Cond.code yX9_init cX9_init 2 none) ∈ lw_tbl := tm_1 _ (List.mem_of_getElem? (i := 115) rfl)
set_option maxRecDepth 20000 in
theorem tw_514 : (Cond.laysFinal RX9 "RegisterMill$Turner" "program" "LRegisterMill$Program;") ∈ lw_tbl := tm_2 _ (List.mem_of_getElem? (i := 32) rfl)
set_option maxRecDepth 20000 in
theorem tw_515 : (Cond.laysFinal RX9 "RegisterMill$Turner" "places" "LRegisterMill$Places;") ∈ lw_tbl := tm_2 _ (List.mem_of_getElem? (i := 34) rfl)
set_option maxRecDepth 20000 in
theorem tw_516 : (Cond.laysFinal RX9 "RegisterMill$Turner" "live" "LRegisterMill$Live;") ∈ lw_tbl := tm_2 _ (List.mem_of_getElem? (i := 36) rfl)
set_option maxRecDepth 20000 in
theorem tw_517 : (Cond.laysFinal RX9 "RegisterMill$Turner" "homes" "LRegisterMill$Homes;") ∈ lw_tbl := tm_2 _ (List.mem_of_getElem? (i := 38) rfl)
set_option maxRecDepth 20000 in
theorem tw_518 : (Cond.laysFinal RX9 "RegisterMill$Turner" "code" "LRegisterMill$Code;") ∈ lw_tbl := tm_2 _ (List.mem_of_getElem? (i := 40) rfl)
set_option maxRecDepth 20000 in
theorem tw_519 : (Cond.laysFinal RX9 "RegisterMill$Turner" "writer" "LRegisterMill$Writer;") ∈ lw_tbl := tm_2 _ (List.mem_of_getElem? (i := 42) rfl)
set_option maxRecDepth 20000 in
theorem tw_520 : (Cond.laysFinal RX9 "RegisterMill$Turner" "placeCounts" "[I") ∈ lw_tbl := tm_2 _ (List.mem_of_getElem? (i := 44) rfl)
set_option maxRecDepth 20000 in
theorem tw_521 : (Cond.lays RX9 "RegisterMill$Turner" "registers" "I") ∈ lw_tbl := tm_2 _ (List.mem_of_getElem? (i := 46) rfl)
set_option maxRecDepth 20000 in
theorem tw_522 : (Cond.code yX9_begin cX9_begin 2 none) ∈ lw_tbl := tm_3 _ (List.mem_of_getElem? (i := 8) rfl)
set_option maxRecDepth 20000 in
theorem tw_523 : (Cond.fieldLink RX9 56 "RegisterMill$Turner" "registers" "I") ∈ lw_tbl := tm_2 _ (List.mem_of_getElem? (i := 30) rfl)
set_option maxRecDepth 20000 in
theorem tw_524 : (Cond.fieldLink RX9 60 "RegisterMill$Code" "total" "I") ∈ lw_tbl := tm_1 _ (List.mem_of_getElem? (i := 220) rfl)
set_option maxRecDepth 20000 in
theorem tw_525 : (Cond.fieldLink RX9 73 "RegisterMill$Places" "total" "I") ∈ lw_tbl := tm_1 _ (List.mem_of_getElem? (i := 141) rfl)
set_option maxRecDepth 20000 in
theorem tw_526 : (Cond.methodLink RX9 91 yX3_find) ∈ lw_tbl := tm_3 _ (List.mem_of_getElem? (i := 74) rfl)
set_option maxRecDepth 20000 in
theorem tw_527 : (Cond.instanceMethod yX3_find) ∈ lw_tbl := tm_3 _ (List.mem_of_getElem? (i := 75) rfl)
set_option maxRecDepth 20000 in
theorem tw_528 : (Cond.selects RX3 yX3_find yX3_find) ∈ lw_tbl := tm_3 _ (List.mem_of_getElem? (i := 76) rfl)
set_option maxRecDepth 20000 in
theorem tw_529 : (Cond.methodLink RX9 95 yX5_dropUseless) ∈ lw_tbl := tm_3 _ (List.mem_of_getElem? (i := 90) rfl)
set_option maxRecDepth 20000 in
theorem tw_530 : (Cond.instanceMethod yX5_dropUseless) ∈ lw_tbl := tm_3 _ (List.mem_of_getElem? (i := 91) rfl)
set_option maxRecDepth 20000 in
theorem tw_531 : (Cond.selects RX5 yX5_dropUseless yX5_dropUseless) ∈ lw_tbl := tm_3 _ (List.mem_of_getElem? (i := 92) rfl)
set_option maxRecDepth 20000 in
theorem tw_532 : (Cond.code yX9_leaveOut cX9_leaveOut 3 none) ∈ lw_tbl := tm_3 _ (List.mem_of_getElem? (i := 73) rfl)
set_option maxRecDepth 20000 in
theorem tw_533 : (Cond.fieldLink RX10 27 "RegisterMill$Writer" "func" "I") ∈ lw_tbl := tm_2 _ (List.mem_of_getElem? (i := 2) rfl)
set_option maxRecDepth 20000 in
theorem tw_534 : (Cond.fieldLink RX10 31 "RegisterMill$Writer" "spareA" "I") ∈ lw_tbl := tm_2 _ (List.mem_of_getElem? (i := 3) rfl)
set_option maxRecDepth 20000 in
theorem tw_535 : (Cond.fieldLink RX10 34 "RegisterMill$Writer" "spareB" "I") ∈ lw_tbl := tm_2 _ (List.mem_of_getElem? (i := 4) rfl)
set_option maxRecDepth 20000 in
theorem tw_536 : (Cond.fieldLink RX10 37 "RegisterMill$Places" "total" "I") ∈ lw_tbl := tm_1 _ (List.mem_of_getElem? (i := 140) rfl)
set_option maxRecDepth 20000 in
theorem tw_537 : (Cond.methodLink RX10 42 yX1_open) ∈ lw_tbl := tm_3 _ (List.mem_of_getElem? (i := 133) rfl)
set_option maxRecDepth 20000 in
theorem tw_538 : (Cond.instanceMethod yX1_open) ∈ lw_tbl := tm_3 _ (List.mem_of_getElem? (i := 134) rfl)
set_option maxRecDepth 20000 in
theorem tw_539 : (Cond.selects RX1 yX1_open yX1_open) ∈ lw_tbl := tm_3 _ (List.mem_of_getElem? (i := 135) rfl)
set_option maxRecDepth 20000 in
theorem tw_540 : (Cond.code yX10_begin cX10_begin 3 none) ∈ lw_tbl := tm_3 _ (List.mem_of_getElem? (i := 132) rfl)
set_option maxRecDepth 20000 in
theorem tw_541 : (Cond.code yX10_target cX10_target 2 (some .int)) ∈ lw_tbl := tm_3 _ (List.mem_of_getElem? (i := 161) rfl)
set_option maxRecDepth 20000 in
theorem tw_542 : (Cond.methodLink RX10 120 yX2_slotOf) ∈ lw_tbl := tm_3 _ (List.mem_of_getElem? (i := 162) rfl)
set_option maxRecDepth 20000 in
theorem tw_543 : (Cond.instanceMethod yX2_slotOf) ∈ lw_tbl := tm_3 _ (List.mem_of_getElem? (i := 163) rfl)
set_option maxRecDepth 20000 in
theorem tw_544 : (Cond.selects RX2 yX2_slotOf yX2_slotOf) ∈ lw_tbl := tm_3 _ (List.mem_of_getElem? (i := 164) rfl)
set_option maxRecDepth 20000 in
theorem tw_545 : (Cond.methodLink RX10 125 yX2_registerOf) ∈ lw_tbl := tm_3 _ (List.mem_of_getElem? (i := 166) rfl)
set_option maxRecDepth 20000 in
theorem tw_546 : (Cond.instanceMethod yX2_registerOf) ∈ lw_tbl := tm_3 _ (List.mem_of_getElem? (i := 167) rfl)
set_option maxRecDepth 20000 in
theorem tw_547 : (Cond.selects RX2 yX2_registerOf yX2_registerOf) ∈ lw_tbl := tm_3 _ (List.mem_of_getElem? (i := 168) rfl)
set_option maxRecDepth 20000 in
theorem tw_548 : (Cond.code yX10_saveTarget cX10_saveTarget 3 none) ∈ lw_tbl := tm_3 _ (List.mem_of_getElem? (i := 177) rfl)
set_option maxRecDepth 20000 in
theorem tw_549 : (Cond.methodLink RX10 60 yX1_add) ∈ lw_tbl := tm_3 _ (List.mem_of_getElem? (i := 170) rfl)
set_option maxRecDepth 20000 in
theorem tw_550 : (Cond.fieldLink RX10 48 "RegisterMill$Program" "locals" "[I") ∈ lw_tbl := tm_1 _ (List.mem_of_getElem? (i := 41) rfl)
set_option maxRecDepth 20000 in
theorem tw_551 : (Cond.fieldLink RX10 53 "RegisterMill$Program" "args" "[I") ∈ lw_tbl := tm_1 _ (List.mem_of_getElem? (i := 37) rfl)
set_option maxRecDepth 20000 in
theorem tw_552 : (Cond.methodLink RX10 56 yX10_target) ∈ lw_tbl := tm_3 _ (List.mem_of_getElem? (i := 158) rfl)
set_option maxRecDepth 20000 in
theorem tw_553 : (Cond.instanceMethod yX10_target) ∈ lw_tbl := tm_3 _ (List.mem_of_getElem? (i := 160) rfl)
set_option maxRecDepth 20000 in
theorem tw_554 : (Cond.selects RX10 yX10_target yX10_target) ∈ lw_tbl := List.mem_append_left _ (List.mem_of_getElem? (i := 24) rfl)
set_option maxRecDepth 20000 in
theorem tw_555 : (Cond.methodLink RX10 64 yX10_saveTarget) ∈ lw_tbl := tm_3 _ (List.mem_of_getElem? (i := 174) rfl)
set_option maxRecDepth 20000 in
theorem tw_556 : (Cond.instanceMethod yX10_saveTarget) ∈ lw_tbl := tm_3 _ (List.mem_of_getElem? (i := 176) rfl)
set_option maxRecDepth 20000 in
theorem tw_557 : (Cond.selects RX10 yX10_saveTarget yX10_saveTarget) ∈ lw_tbl := List.mem_append_left _ (List.mem_of_getElem? (i := 25) rfl)
set_option maxRecDepth 20000 in
theorem tw_558 : (Cond.code yX10_writeEntry cX10_writeEntry 4 none) ∈ lw_tbl := tm_3 _ (List.mem_of_getElem? (i := 157) rfl)
set_option maxRecDepth 20000 in
theorem tw_559 : (Cond.code yX10_moveInto cX10_moveInto 4 none) ∈ lw_tbl := tm_3 _ (List.mem_of_getElem? (i := 193) rfl)
set_option maxRecDepth 20000 in
theorem tw_560 : (Cond.methodLink RX10 128 yX10_moveInto) ∈ lw_tbl := tm_3 _ (List.mem_of_getElem? (i := 190) rfl)
set_option maxRecDepth 20000 in
theorem tw_561 : (Cond.instanceMethod yX10_moveInto) ∈ lw_tbl := tm_3 _ (List.mem_of_getElem? (i := 192) rfl)
set_option maxRecDepth 20000 in
theorem tw_562 : (Cond.selects RX10 yX10_moveInto yX10_moveInto) ∈ lw_tbl := List.mem_append_left _ (List.mem_of_getElem? (i := 28) rfl)
set_option maxRecDepth 20000 in
theorem tw_563 : (Cond.code yX10_writeMove cX10_writeMove 5 none) ∈ lw_tbl := tm_3 _ (List.mem_of_getElem? (i := 189) rfl)
set_option maxRecDepth 20000 in
theorem tw_564 : (Cond.code yX10_loaded cX10_loaded 4 (some .int)) ∈ lw_tbl := tm_3 _ (List.mem_of_getElem? (i := 201) rfl)
set_option maxRecDepth 20000 in
theorem tw_565 : (Cond.fieldLink RX10 87 "RegisterMill$Places" "reads" "[[I") ∈ lw_tbl := tm_1 _ (List.mem_of_getElem? (i := 137) rfl)
set_option maxRecDepth 20000 in
theorem tw_566 : (Cond.fieldLink RX10 81 "RegisterMill$Places" "written" "[I") ∈ lw_tbl := tm_1 _ (List.mem_of_getElem? (i := 133) rfl)
set_option maxRecDepth 20000 in
theorem tw_567 : (Cond.fieldLink RX10 84 "RegisterMill$Places" "numbers" "[I") ∈ lw_tbl := tm_1 _ (List.mem_of_getElem? (i := 128) rfl)
set_option maxRecDepth 20000 in
theorem tw_568 : (Cond.methodLink RX10 103 yX10_loaded) ∈ lw_tbl := tm_3 _ (List.mem_of_getElem? (i := 198) rfl)
set_option maxRecDepth 20000 in
theorem tw_569 : (Cond.instanceMethod yX10_loaded) ∈ lw_tbl := tm_3 _ (List.mem_of_getElem? (i := 200) rfl)
set_option maxRecDepth 20000 in
theorem tw_570 : (Cond.selects RX10 yX10_loaded yX10_loaded) ∈ lw_tbl := List.mem_append_left _ (List.mem_of_getElem? (i := 30) rfl)
set_option maxRecDepth 20000 in
theorem tw_571 : (Cond.methodLink RX10 116 yX1_addWork) ∈ lw_tbl := tm_3 _ (List.mem_of_getElem? (i := 202) rfl)
set_option maxRecDepth 20000 in
theorem tw_572 : (Cond.instanceMethod yX1_addWork) ∈ lw_tbl := tm_3 _ (List.mem_of_getElem? (i := 203) rfl)
set_option maxRecDepth 20000 in
theorem tw_573 : (Cond.selects RX1 yX1_addWork yX1_addWork) ∈ lw_tbl := tm_3 _ (List.mem_of_getElem? (i := 204) rfl)
set_option maxRecDepth 20000 in
theorem tw_574 : (Cond.code yX10_writeWork cX10_writeWork 5 none) ∈ lw_tbl := tm_3 _ (List.mem_of_getElem? (i := 197) rfl)
set_option maxRecDepth 20000 in
theorem tw_575 : (Cond.code yX10_moveFrom cX10_moveFrom 4 none) ∈ lw_tbl := tm_3 _ (List.mem_of_getElem? (i := 214) rfl)
set_option maxRecDepth 20000 in
theorem tw_576 : (Cond.methodLink RX10 131 yX10_moveFrom) ∈ lw_tbl := tm_3 _ (List.mem_of_getElem? (i := 211) rfl)
set_option maxRecDepth 20000 in
theorem tw_577 : (Cond.instanceMethod yX10_moveFrom) ∈ lw_tbl := tm_3 _ (List.mem_of_getElem? (i := 213) rfl)
set_option maxRecDepth 20000 in
theorem tw_578 : (Cond.selects RX10 yX10_moveFrom yX10_moveFrom) ∈ lw_tbl := List.mem_append_left _ (List.mem_of_getElem? (i := 32) rfl)
set_option maxRecDepth 20000 in
theorem tw_579 : (Cond.code yX10_writeSwap cX10_writeSwap 4 none) ∈ lw_tbl := tm_3 _ (List.mem_of_getElem? (i := 210) rfl)
set_option maxRecDepth 20000 in
theorem tw_580 : (Cond.code yX10_writeRead cX10_writeRead 4 none) ∈ lw_tbl := tm_3 _ (List.mem_of_getElem? (i := 218) rfl)
set_option maxRecDepth 20000 in
theorem tw_581 : (Cond.code yX10_writeWrite cX10_writeWrite 5 none) ∈ lw_tbl := tm_3 _ (List.mem_of_getElem? (i := 222) rfl)
set_option maxRecDepth 20000 in
theorem tw_582 : (Cond.fieldLink RX10 134 "RegisterMill$Places" "readCounts" "[I") ∈ lw_tbl := tm_1 _ (List.mem_of_getElem? (i := 135) rfl)
set_option maxRecDepth 20000 in
theorem tw_583 : (Cond.code yX10_writeCall cX10_writeCall 3 none) ∈ lw_tbl := tm_3 _ (List.mem_of_getElem? (i := 226) rfl)
set_option maxRecDepth 20000 in
theorem tw_584 : (Cond.fieldLink RX10 78 "RegisterMill$Places" "kinds" "[I") ∈ lw_tbl := tm_1 _ (List.mem_of_getElem? (i := 126) rfl)
set_option maxRecDepth 20000 in
theorem tw_585 : (Cond.fieldLink RX10 100 "RegisterMill$Places" "goals" "[I") ∈ lw_tbl := tm_1 _ (List.mem_of_getElem? (i := 131) rfl)
set_option maxRecDepth 20000 in
theorem tw_586 : (Cond.methodLink RX10 91 yX10_writeMove) ∈ lw_tbl := tm_3 _ (List.mem_of_getElem? (i := 186) rfl)
set_option maxRecDepth 20000 in
theorem tw_587 : (Cond.instanceMethod yX10_writeMove) ∈ lw_tbl := tm_3 _ (List.mem_of_getElem? (i := 188) rfl)
set_option maxRecDepth 20000 in
theorem tw_588 : (Cond.selects RX10 yX10_writeMove yX10_writeMove) ∈ lw_tbl := List.mem_append_left _ (List.mem_of_getElem? (i := 27) rfl)
set_option maxRecDepth 20000 in
theorem tw_589 : (Cond.methodLink RX10 94 yX10_writeWork) ∈ lw_tbl := tm_3 _ (List.mem_of_getElem? (i := 194) rfl)
set_option maxRecDepth 20000 in
theorem tw_590 : (Cond.instanceMethod yX10_writeWork) ∈ lw_tbl := tm_3 _ (List.mem_of_getElem? (i := 196) rfl)
set_option maxRecDepth 20000 in
theorem tw_591 : (Cond.selects RX10 yX10_writeWork yX10_writeWork) ∈ lw_tbl := List.mem_append_left _ (List.mem_of_getElem? (i := 29) rfl)
set_option maxRecDepth 20000 in
theorem tw_592 : (Cond.methodLink RX10 97 yX10_writeSwap) ∈ lw_tbl := tm_3 _ (List.mem_of_getElem? (i := 207) rfl)
set_option maxRecDepth 20000 in
theorem tw_593 : (Cond.instanceMethod yX10_writeSwap) ∈ lw_tbl := tm_3 _ (List.mem_of_getElem? (i := 209) rfl)
set_option maxRecDepth 20000 in
theorem tw_594 : (Cond.selects RX10 yX10_writeSwap yX10_writeSwap) ∈ lw_tbl := List.mem_append_left _ (List.mem_of_getElem? (i := 31) rfl)
set_option maxRecDepth 20000 in
theorem tw_595 : (Cond.methodLink RX10 107 yX10_writeRead) ∈ lw_tbl := tm_3 _ (List.mem_of_getElem? (i := 215) rfl)
set_option maxRecDepth 20000 in
theorem tw_596 : (Cond.instanceMethod yX10_writeRead) ∈ lw_tbl := tm_3 _ (List.mem_of_getElem? (i := 217) rfl)
set_option maxRecDepth 20000 in
theorem tw_597 : (Cond.selects RX10 yX10_writeRead yX10_writeRead) ∈ lw_tbl := List.mem_append_left _ (List.mem_of_getElem? (i := 33) rfl)
set_option maxRecDepth 20000 in
theorem tw_598 : (Cond.methodLink RX10 110 yX10_writeWrite) ∈ lw_tbl := tm_3 _ (List.mem_of_getElem? (i := 219) rfl)
set_option maxRecDepth 20000 in
theorem tw_599 : (Cond.instanceMethod yX10_writeWrite) ∈ lw_tbl := tm_3 _ (List.mem_of_getElem? (i := 221) rfl)
set_option maxRecDepth 20000 in
theorem tw_600 : (Cond.selects RX10 yX10_writeWrite yX10_writeWrite) ∈ lw_tbl := List.mem_append_left _ (List.mem_of_getElem? (i := 34) rfl)
set_option maxRecDepth 20000 in
theorem tw_601 : (Cond.methodLink RX10 113 yX10_writeCall) ∈ lw_tbl := tm_3 _ (List.mem_of_getElem? (i := 223) rfl)
set_option maxRecDepth 20000 in
theorem tw_602 : (Cond.instanceMethod yX10_writeCall) ∈ lw_tbl := tm_3 _ (List.mem_of_getElem? (i := 225) rfl)
set_option maxRecDepth 20000 in
theorem tw_603 : (Cond.selects RX10 yX10_writeCall yX10_writeCall) ∈ lw_tbl := List.mem_append_left _ (List.mem_of_getElem? (i := 35) rfl)
set_option maxRecDepth 20000 in
theorem tw_604 : (Cond.code yX10_writePlace cX10_writePlace 2 none) ∈ lw_tbl := tm_3 _ (List.mem_of_getElem? (i := 185) rfl)
set_option maxRecDepth 20000 in
theorem tw_605 : (Cond.fieldLink RX10 68 "RegisterMill$Code" "sizes" "[I") ∈ lw_tbl := tm_1 _ (List.mem_of_getElem? (i := 217) rfl)
set_option maxRecDepth 20000 in
theorem tw_606 : (Cond.methodLink RX10 71 yX10_writePlace) ∈ lw_tbl := tm_3 _ (List.mem_of_getElem? (i := 182) rfl)
set_option maxRecDepth 20000 in
theorem tw_607 : (Cond.instanceMethod yX10_writePlace) ∈ lw_tbl := tm_3 _ (List.mem_of_getElem? (i := 184) rfl)
set_option maxRecDepth 20000 in
theorem tw_608 : (Cond.selects RX10 yX10_writePlace yX10_writePlace) ∈ lw_tbl := List.mem_append_left _ (List.mem_of_getElem? (i := 26) rfl)
set_option maxRecDepth 20000 in
theorem tw_609 : (Cond.methodLink RX10 74 yX1_aim) ∈ lw_tbl := tm_3 _ (List.mem_of_getElem? (i := 227) rfl)
set_option maxRecDepth 20000 in
theorem tw_610 : (Cond.instanceMethod yX1_aim) ∈ lw_tbl := tm_3 _ (List.mem_of_getElem? (i := 228) rfl)
set_option maxRecDepth 20000 in
theorem tw_611 : (Cond.selects RX1 yX1_aim yX1_aim) ∈ lw_tbl := tm_3 _ (List.mem_of_getElem? (i := 229) rfl)
set_option maxRecDepth 20000 in
theorem tw_612 : (Cond.code yX10_writePlaces cX10_writePlaces 2 none) ∈ lw_tbl := tm_3 _ (List.mem_of_getElem? (i := 181) rfl)
set_option maxRecDepth 20000 in
theorem tw_613 : (Cond.fieldLink RX9 82 "RegisterMill$Live" "ahead" "[I") ∈ lw_tbl := tm_1 _ (List.mem_of_getElem? (i := 174) rfl)
set_option maxRecDepth 20000 in
theorem tw_614 : (Cond.methodLink RX9 63 yX5_build) ∈ lw_tbl := tm_3 _ (List.mem_of_getElem? (i := 13) rfl)
set_option maxRecDepth 20000 in
theorem tw_615 : (Cond.instanceMethod yX5_build) ∈ lw_tbl := tm_3 _ (List.mem_of_getElem? (i := 14) rfl)
set_option maxRecDepth 20000 in
theorem tw_616 : (Cond.selects RX5 yX5_build yX5_build) ∈ lw_tbl := tm_3 _ (List.mem_of_getElem? (i := 15) rfl)
set_option maxRecDepth 20000 in
theorem tw_617 : (Cond.methodLink RX9 67 yX5_forward) ∈ lw_tbl := tm_3 _ (List.mem_of_getElem? (i := 45) rfl)
set_option maxRecDepth 20000 in
theorem tw_618 : (Cond.instanceMethod yX5_forward) ∈ lw_tbl := tm_3 _ (List.mem_of_getElem? (i := 46) rfl)
set_option maxRecDepth 20000 in
theorem tw_619 : (Cond.selects RX5 yX5_forward yX5_forward) ∈ lw_tbl := tm_3 _ (List.mem_of_getElem? (i := 47) rfl)
set_option maxRecDepth 20000 in
theorem tw_620 : (Cond.methodLink RX9 70 yX9_leaveOut) ∈ lw_tbl := tm_3 _ (List.mem_of_getElem? (i := 70) rfl)
set_option maxRecDepth 20000 in
theorem tw_621 : (Cond.instanceMethod yX9_leaveOut) ∈ lw_tbl := tm_3 _ (List.mem_of_getElem? (i := 72) rfl)
set_option maxRecDepth 20000 in
theorem tw_622 : (Cond.selects RX9 yX9_leaveOut yX9_leaveOut) ∈ lw_tbl := List.mem_append_left _ (List.mem_of_getElem? (i := 15) rfl)
set_option maxRecDepth 20000 in
theorem tw_623 : (Cond.initialized RX9) ∈ lw_tbl := tm_1 _ (List.mem_of_getElem? (i := 4) rfl)
set_option maxRecDepth 20000 in
theorem tw_624 : (Cond.methodLink RX9 74 yX2_give) ∈ lw_tbl := tm_3 _ (List.mem_of_getElem? (i := 102) rfl)
set_option maxRecDepth 20000 in
theorem tw_625 : (Cond.instanceMethod yX2_give) ∈ lw_tbl := tm_3 _ (List.mem_of_getElem? (i := 103) rfl)
set_option maxRecDepth 20000 in
theorem tw_626 : (Cond.selects RX2 yX2_give yX2_give) ∈ lw_tbl := tm_3 _ (List.mem_of_getElem? (i := 104) rfl)
set_option maxRecDepth 20000 in
theorem tw_627 : (Cond.methodLink RX9 78 yX10_begin) ∈ lw_tbl := tm_3 _ (List.mem_of_getElem? (i := 129) rfl)
set_option maxRecDepth 20000 in
theorem tw_628 : (Cond.instanceMethod yX10_begin) ∈ lw_tbl := tm_3 _ (List.mem_of_getElem? (i := 130) rfl)
set_option maxRecDepth 20000 in
theorem tw_629 : (Cond.selects RX10 yX10_begin yX10_begin) ∈ lw_tbl := tm_3 _ (List.mem_of_getElem? (i := 131) rfl)
set_option maxRecDepth 20000 in
theorem tw_630 : (Cond.methodLink RX9 85 yX10_writeEntry) ∈ lw_tbl := tm_3 _ (List.mem_of_getElem? (i := 154) rfl)
set_option maxRecDepth 20000 in
theorem tw_631 : (Cond.instanceMethod yX10_writeEntry) ∈ lw_tbl := tm_3 _ (List.mem_of_getElem? (i := 155) rfl)
set_option maxRecDepth 20000 in
theorem tw_632 : (Cond.selects RX10 yX10_writeEntry yX10_writeEntry) ∈ lw_tbl := tm_3 _ (List.mem_of_getElem? (i := 156) rfl)
set_option maxRecDepth 20000 in
theorem tw_633 : (Cond.methodLink RX9 88 yX10_writePlaces) ∈ lw_tbl := tm_3 _ (List.mem_of_getElem? (i := 178) rfl)
set_option maxRecDepth 20000 in
theorem tw_634 : (Cond.instanceMethod yX10_writePlaces) ∈ lw_tbl := tm_3 _ (List.mem_of_getElem? (i := 179) rfl)
set_option maxRecDepth 20000 in
theorem tw_635 : (Cond.selects RX10 yX10_writePlaces yX10_writePlaces) ∈ lw_tbl := tm_3 _ (List.mem_of_getElem? (i := 180) rfl)
set_option maxRecDepth 20000 in
theorem tw_636 : (Cond.code yX9_turnFunc cX9_turnFunc 2 none) ∈ lw_tbl := tm_3 _ (List.mem_of_getElem? (i := 12) rfl)
set_option maxRecDepth 20000 in
theorem tw_637 : (Cond.methodLink RX11 3 objectInit) ∈ lw_tbl := tm_1 _ (List.mem_of_getElem? (i := 26) rfl)
set_option maxRecDepth 20000 in
theorem tw_638 : (Cond.classLink RX11 9 RX6) ∈ lw_tbl := tm_1 _ (List.mem_of_getElem? (i := 29) rfl)
set_option maxRecDepth 20000 in
theorem tw_639 : (Cond.instantiable RX6 10) ∈ lw_tbl := tm_1 _ (List.mem_of_getElem? (i := 30) rfl)
set_option maxRecDepth 20000 in
theorem tw_640 : (Cond.fieldLink RX11 12 "RegisterMill" "program" "LRegisterMill$Program;") ∈ lw_tbl := tm_2 _ (List.mem_of_getElem? (i := 133) rfl)
set_option maxRecDepth 20000 in
theorem tw_641 : (Cond.classLink RX11 16 RX0) ∈ lw_tbl := tm_1 _ (List.mem_of_getElem? (i := 94) rfl)
set_option maxRecDepth 20000 in
theorem tw_642 : (Cond.instantiable RX0 3) ∈ lw_tbl := tm_1 _ (List.mem_of_getElem? (i := 95) rfl)
set_option maxRecDepth 20000 in
theorem tw_643 : (Cond.fieldLink RX11 21 "RegisterMill" "checker" "LRegisterMill$Checker;") ∈ lw_tbl := tm_2 _ (List.mem_of_getElem? (i := 134) rfl)
set_option maxRecDepth 20000 in
theorem tw_644 : (Cond.classLink RX11 25 RX9) ∈ lw_tbl := tm_1 _ (List.mem_of_getElem? (i := 111) rfl)
set_option maxRecDepth 20000 in
theorem tw_645 : (Cond.instantiable RX9 8) ∈ lw_tbl := tm_1 _ (List.mem_of_getElem? (i := 112) rfl)
set_option maxRecDepth 20000 in
theorem tw_646 : (Cond.fieldLink RX11 28 "RegisterMill" "turner" "LRegisterMill$Turner;") ∈ lw_tbl := tm_2 _ (List.mem_of_getElem? (i := 135) rfl)
set_option maxRecDepth 20000 in
theorem tw_647 : (Cond.classLink RX11 32 RX8) ∈ lw_tbl := tm_2 _ (List.mem_of_getElem? (i := 49) rfl)
set_option maxRecDepth 20000 in
theorem tw_648 : (Cond.instantiable RX8 13) ∈ lw_tbl := tm_2 _ (List.mem_of_getElem? (i := 50) rfl)
set_option maxRecDepth 20000 in
theorem tw_649 : (Cond.fieldLink RX11 35 "RegisterMill" "stackMachine" "LRegisterMill$Machine;") ∈ lw_tbl := tm_2 _ (List.mem_of_getElem? (i := 136) rfl)
set_option maxRecDepth 20000 in
theorem tw_650 : (Cond.classLink RX11 39 RX7) ∈ lw_tbl := tm_2 _ (List.mem_of_getElem? (i := 103) rfl)
set_option maxRecDepth 20000 in
theorem tw_651 : (Cond.instantiable RX7 13) ∈ lw_tbl := tm_2 _ (List.mem_of_getElem? (i := 104) rfl)
set_option maxRecDepth 20000 in
theorem tw_652 : (Cond.fieldLink RX11 41 "RegisterMill$Turner" "code" "LRegisterMill$Code;") ∈ lw_tbl := tm_2 _ (List.mem_of_getElem? (i := 26) rfl)
set_option maxRecDepth 20000 in
theorem tw_653 : (Cond.fieldLink RX11 48 "RegisterMill" "registerMachine" "LRegisterMill$Machine;") ∈ lw_tbl := tm_2 _ (List.mem_of_getElem? (i := 137) rfl)
set_option maxRecDepth 20000 in
theorem tw_654 : (Cond.instanceMethod yX6_init) ∈ lw_tbl := tm_1 _ (List.mem_of_getElem? (i := 32) rfl)
set_option maxRecDepth 20000 in
theorem tw_655 : (Cond.methodLink RX11 18 yX0_init) ∈ lw_tbl := tm_1 _ (List.mem_of_getElem? (i := 96) rfl)
set_option maxRecDepth 20000 in
theorem tw_656 : (Cond.instanceMethod yX0_init) ∈ lw_tbl := tm_1 _ (List.mem_of_getElem? (i := 97) rfl)
set_option maxRecDepth 20000 in
theorem tw_657 : (Cond.methodLink RX11 27 yX9_init) ∈ lw_tbl := tm_1 _ (List.mem_of_getElem? (i := 113) rfl)
set_option maxRecDepth 20000 in
theorem tw_658 : (Cond.instanceMethod yX9_init) ∈ lw_tbl := tm_1 _ (List.mem_of_getElem? (i := 114) rfl)
set_option maxRecDepth 20000 in
theorem tw_659 : (Cond.methodLink RX11 34 yX8_init) ∈ lw_tbl := tm_2 _ (List.mem_of_getElem? (i := 51) rfl)
set_option maxRecDepth 20000 in
theorem tw_660 : (Cond.instanceMethod yX8_init) ∈ lw_tbl := tm_2 _ (List.mem_of_getElem? (i := 52) rfl)
set_option maxRecDepth 20000 in
theorem tw_661 : (Cond.methodLink RX11 45 yX7_init) ∈ lw_tbl := tm_2 _ (List.mem_of_getElem? (i := 105) rfl)
set_option maxRecDepth 20000 in
theorem tw_662 : (Cond.instanceMethod yX7_init) ∈ lw_tbl := tm_2 _ (List.mem_of_getElem? (i := 106) rfl)
set_option maxRecDepth 20000 in
theorem tw_663 : (Cond.code yX11_init cX11_init 1 none) ∈ lw_tbl := tm_1 _ (List.mem_of_getElem? (i := 25) rfl)
set_option maxRecDepth 20000 in
theorem tw_664 : (Cond.laysFinal RX11 "RegisterMill" "program" "LRegisterMill$Program;") ∈ lw_tbl := tm_2 _ (List.mem_of_getElem? (i := 138) rfl)
set_option maxRecDepth 20000 in
theorem tw_665 : (Cond.laysFinal RX11 "RegisterMill" "checker" "LRegisterMill$Checker;") ∈ lw_tbl := tm_2 _ (List.mem_of_getElem? (i := 140) rfl)
set_option maxRecDepth 20000 in
theorem tw_666 : (Cond.laysFinal RX11 "RegisterMill" "turner" "LRegisterMill$Turner;") ∈ lw_tbl := tm_2 _ (List.mem_of_getElem? (i := 142) rfl)
set_option maxRecDepth 20000 in
theorem tw_667 : (Cond.laysFinal RX11 "RegisterMill" "stackMachine" "LRegisterMill$Machine;") ∈ lw_tbl := tm_2 _ (List.mem_of_getElem? (i := 144) rfl)
set_option maxRecDepth 20000 in
theorem tw_668 : (Cond.laysFinal RX11 "RegisterMill" "registerMachine" "LRegisterMill$Machine;") ∈ lw_tbl := tm_2 _ (List.mem_of_getElem? (i := 146) rfl)
set_option maxRecDepth 20000 in
theorem tw_669 : (Cond.code yX11_func cX11_func 4 (some .int)) ∈ lw_tbl := tm_2 _ (List.mem_of_getElem? (i := 152) rfl)
set_option maxRecDepth 20000 in
theorem tw_670 : (Cond.fieldLink RX11 51 "RegisterMill$Program" "checked" "Z") ∈ lw_tbl := tm_1 _ (List.mem_of_getElem? (i := 70) rfl)
set_option maxRecDepth 20000 in
theorem tw_671 : (Cond.fieldLink RX11 55 "RegisterMill$Program" "funcs" "I") ∈ lw_tbl := tm_1 _ (List.mem_of_getElem? (i := 67) rfl)
set_option maxRecDepth 20000 in
theorem tw_672 : (Cond.methodLink RX11 59 yX6_addFunc) ∈ lw_tbl := tm_2 _ (List.mem_of_getElem? (i := 153) rfl)
set_option maxRecDepth 20000 in
theorem tw_673 : (Cond.instanceMethod yX6_addFunc) ∈ lw_tbl := tm_2 _ (List.mem_of_getElem? (i := 154) rfl)
set_option maxRecDepth 20000 in
theorem tw_674 : (Cond.selects RX6 yX6_addFunc yX6_addFunc) ∈ lw_tbl := tm_2 _ (List.mem_of_getElem? (i := 155) rfl)
set_option maxRecDepth 20000 in
theorem tw_675 : (Cond.code yX11_word cX11_word 3 (some .int)) ∈ lw_tbl := tm_2 _ (List.mem_of_getElem? (i := 160) rfl)
set_option maxRecDepth 20000 in
theorem tw_676 : (Cond.fieldLink RX11 63 "RegisterMill$Program" "words" "I") ∈ lw_tbl := tm_1 _ (List.mem_of_getElem? (i := 69) rfl)
set_option maxRecDepth 20000 in
theorem tw_677 : (Cond.methodLink RX11 66 yX6_addWord) ∈ lw_tbl := tm_2 _ (List.mem_of_getElem? (i := 161) rfl)
set_option maxRecDepth 20000 in
theorem tw_678 : (Cond.instanceMethod yX6_addWord) ∈ lw_tbl := tm_2 _ (List.mem_of_getElem? (i := 162) rfl)
set_option maxRecDepth 20000 in
theorem tw_679 : (Cond.selects RX6 yX6_addWord yX6_addWord) ∈ lw_tbl := tm_2 _ (List.mem_of_getElem? (i := 163) rfl)
set_option maxRecDepth 20000 in
theorem tw_680 : (Cond.methodLink RX11 69 yX0_firstFault) ∈ lw_tbl := tm_2 _ (List.mem_of_getElem? (i := 169) rfl)
set_option maxRecDepth 20000 in
theorem tw_681 : (Cond.instanceMethod yX0_firstFault) ∈ lw_tbl := tm_2 _ (List.mem_of_getElem? (i := 170) rfl)
set_option maxRecDepth 20000 in
theorem tw_682 : (Cond.selects RX0 yX0_firstFault yX0_firstFault) ∈ lw_tbl := tm_2 _ (List.mem_of_getElem? (i := 171) rfl)
set_option maxRecDepth 20000 in
theorem tw_683 : (Cond.code yX11_check cX11_check 2 (some .int)) ∈ lw_tbl := tm_2 _ (List.mem_of_getElem? (i := 168) rfl)
set_option maxRecDepth 20000 in
theorem tw_684 : (Cond.code yX11_depth cX11_depth 3 (some .int)) ∈ lw_tbl := tm_2 _ (List.mem_of_getElem? (i := 211) rfl)
set_option maxRecDepth 20000 in
theorem tw_685 : (Cond.fieldLink RX11 77 "RegisterMill$Program" "lengths" "[I") ∈ lw_tbl := tm_1 _ (List.mem_of_getElem? (i := 52) rfl)
set_option maxRecDepth 20000 in
theorem tw_686 : (Cond.fieldLink RX11 81 "RegisterMill$Program" "depths" "[I") ∈ lw_tbl := tm_1 _ (List.mem_of_getElem? (i := 64) rfl)
set_option maxRecDepth 20000 in
theorem tw_687 : (Cond.fieldLink RX11 84 "RegisterMill$Program" "starts" "[I") ∈ lw_tbl := tm_1 _ (List.mem_of_getElem? (i := 48) rfl)
set_option maxRecDepth 20000 in
theorem tw_688 : (Cond.methodLink RX11 73 yX6_hasFunc) ∈ lw_tbl := tm_2 _ (List.mem_of_getElem? (i := 212) rfl)
set_option maxRecDepth 20000 in
theorem tw_689 : (Cond.methodLink RX11 168 ⟨"RegisterMill$Machine", "begin", "()V"⟩) ∈ lw_tbl := tm_2 _ (List.mem_of_getElem? (i := 225) rfl)
set_option maxRecDepth 20000 in
theorem tw_690 : (Cond.selects RX7 ⟨"RegisterMill$Machine", "begin", "()V"⟩ yX7_begin) ∈ lw_tbl := tm_2 _ (List.mem_of_getElem? (i := 228) rfl)
set_option maxRecDepth 20000 in
theorem tw_691 : (Cond.instanceMethod yX7_begin) ∈ lw_tbl := tm_2 _ (List.mem_of_getElem? (i := 229) rfl)
set_option maxRecDepth 20000 in
theorem tw_692 : (Cond.selects RX8 ⟨"RegisterMill$Machine", "begin", "()V"⟩ yX8_begin) ∈ lw_tbl := tm_2 _ (List.mem_of_getElem? (i := 235) rfl)
set_option maxRecDepth 20000 in
theorem tw_693 : (Cond.instanceMethod yX8_begin) ∈ lw_tbl := tm_2 _ (List.mem_of_getElem? (i := 236) rfl)
set_option maxRecDepth 20000 in
theorem tw_694 : (Cond.code yX11_beginMachines cX11_beginMachines 1 none) ∈ lw_tbl := tm_2 _ (List.mem_of_getElem? (i := 224) rfl)
set_option maxRecDepth 20000 in
theorem tw_695 : (Cond.fieldLink RX11 90 "RegisterMill$Turner" "registers" "I") ∈ lw_tbl := tm_2 _ (List.mem_of_getElem? (i := 31) rfl)
set_option maxRecDepth 20000 in
theorem tw_696 : (Cond.fieldLink RX11 96 "RegisterMill$Machine" "memory" "[I") ∈ lw_tbl := tm_2 _ (List.mem_of_getElem? (i := 64) rfl)
set_option maxRecDepth 20000 in
theorem tw_697 : (Cond.methodLink RX11 87 yX6_empty) ∈ lw_tbl := tm_2 _ (List.mem_of_getElem? (i := 217) rfl)
set_option maxRecDepth 20000 in
theorem tw_698 : (Cond.instanceMethod yX6_empty) ∈ lw_tbl := tm_2 _ (List.mem_of_getElem? (i := 218) rfl)
set_option maxRecDepth 20000 in
theorem tw_699 : (Cond.selects RX6 yX6_empty yX6_empty) ∈ lw_tbl := tm_2 _ (List.mem_of_getElem? (i := 219) rfl)
set_option maxRecDepth 20000 in
theorem tw_700 : (Cond.methodLink RX11 93 yX11_beginMachines) ∈ lw_tbl := tm_2 _ (List.mem_of_getElem? (i := 221) rfl)
set_option maxRecDepth 20000 in
theorem tw_701 : (Cond.instanceMethod yX11_beginMachines) ∈ lw_tbl := tm_2 _ (List.mem_of_getElem? (i := 223) rfl)
set_option maxRecDepth 20000 in
theorem tw_702 : (Cond.selects RX11 yX11_beginMachines yX11_beginMachines) ∈ lw_tbl := List.mem_append_left _ (List.mem_of_getElem? (i := 5) rfl)
set_option maxRecDepth 20000 in
theorem tw_703 : (Cond.methodLink RX11 101 yJ7_fill_53178) ∈ lw_tbl := tm_3 _ (List.mem_of_getElem? (i := 0) rfl)
set_option maxRecDepth 20000 in
theorem tw_704 : (Cond.code yX11_clear cX11_clear 1 none) ∈ lw_tbl := tm_2 _ (List.mem_of_getElem? (i := 216) rfl)
set_option maxRecDepth 20000 in
theorem tw_705 : (Cond.fieldLink RX11 114 "RegisterMill$Code" "total" "I") ∈ lw_tbl := tm_1 _ (List.mem_of_getElem? (i := 221) rfl)
set_option maxRecDepth 20000 in
theorem tw_706 : (Cond.methodLink RX11 107 yX9_begin) ∈ lw_tbl := tm_3 _ (List.mem_of_getElem? (i := 5) rfl)
set_option maxRecDepth 20000 in
theorem tw_707 : (Cond.instanceMethod yX9_begin) ∈ lw_tbl := tm_3 _ (List.mem_of_getElem? (i := 6) rfl)
set_option maxRecDepth 20000 in
theorem tw_708 : (Cond.selects RX9 yX9_begin yX9_begin) ∈ lw_tbl := tm_3 _ (List.mem_of_getElem? (i := 7) rfl)
set_option maxRecDepth 20000 in
theorem tw_709 : (Cond.methodLink RX11 111 yX9_turnFunc) ∈ lw_tbl := tm_3 _ (List.mem_of_getElem? (i := 9) rfl)
set_option maxRecDepth 20000 in
theorem tw_710 : (Cond.instanceMethod yX9_turnFunc) ∈ lw_tbl := tm_3 _ (List.mem_of_getElem? (i := 10) rfl)
set_option maxRecDepth 20000 in
theorem tw_711 : (Cond.selects RX9 yX9_turnFunc yX9_turnFunc) ∈ lw_tbl := tm_3 _ (List.mem_of_getElem? (i := 11) rfl)
set_option maxRecDepth 20000 in
theorem tw_712 : (Cond.code yX11_turn cX11_turn 3 (some .int)) ∈ lw_tbl := tm_3 _ (List.mem_of_getElem? (i := 4) rfl)
set_option maxRecDepth 20000 in
theorem tw_713 : (Cond.code yX11_isTurned cX11_isTurned 2 (some .boolean)) ∈ lw_tbl := tm_3 _ (List.mem_of_getElem? (i := 238) rfl)
set_option maxRecDepth 20000 in
theorem tw_714 : (Cond.classLink RX11 125 "java/util/NoSuchElementException") ∈ lw_tbl := tm_4 _ (List.mem_of_getElem? (i := 206) rfl)
set_option maxRecDepth 20000 in
theorem tw_715 : (Cond.initialized "java/util/NoSuchElementException") ∈ lw_tbl := tm_1 _ (List.mem_of_getElem? (i := 20) rfl)
set_option maxRecDepth 20000 in
theorem tw_716 : (Cond.fieldLink RX11 122 "RegisterMill$Code" "sizes" "[I") ∈ lw_tbl := tm_1 _ (List.mem_of_getElem? (i := 218) rfl)
set_option maxRecDepth 20000 in
theorem tw_717 : (Cond.methodLink RX11 119 yX11_isTurned) ∈ lw_tbl := tm_3 _ (List.mem_of_getElem? (i := 235) rfl)
set_option maxRecDepth 20000 in
theorem tw_718 : (Cond.instanceMethod yX11_isTurned) ∈ lw_tbl := tm_3 _ (List.mem_of_getElem? (i := 237) rfl)
set_option maxRecDepth 20000 in
theorem tw_719 : (Cond.selects RX11 yX11_isTurned yX11_isTurned) ∈ lw_tbl := List.mem_append_left _ (List.mem_of_getElem? (i := 36) rfl)
set_option maxRecDepth 20000 in
theorem tw_720 : (Cond.methodLink RX11 134 yX1_part) ∈ lw_tbl := tm_5 _ (List.mem_of_getElem? (i := 33) rfl)
set_option maxRecDepth 20000 in
theorem tw_721 : (Cond.code yX11_op cX11_op 4 (some .int)) ∈ lw_tbl := tm_4 _ (List.mem_of_getElem? (i := 205) rfl)
set_option maxRecDepth 20000 in
theorem tw_722 : (Cond.code yX11_size cX11_size 2 (some .int)) ∈ lw_tbl := tm_3 _ (List.mem_of_getElem? (i := 234) rfl)
set_option maxRecDepth 20000 in
theorem tw_723 : (Cond.fieldLink RX11 138 "RegisterMill$Program" "locals" "[I") ∈ lw_tbl := tm_1 _ (List.mem_of_getElem? (i := 43) rfl)
set_option maxRecDepth 20000 in
theorem tw_724 : (Cond.fieldLink RX11 141 "RegisterMill$Turner" "homes" "LRegisterMill$Homes;") ∈ lw_tbl := tm_2 _ (List.mem_of_getElem? (i := 24) rfl)
set_option maxRecDepth 20000 in
theorem tw_725 : (Cond.methodLink RX11 145 yX2_tell) ∈ lw_tbl := tm_4 _ (List.mem_of_getElem? (i := 3) rfl)
set_option maxRecDepth 20000 in
theorem tw_726 : (Cond.instanceMethod yX2_tell) ∈ lw_tbl := tm_4 _ (List.mem_of_getElem? (i := 4) rfl)
set_option maxRecDepth 20000 in
theorem tw_727 : (Cond.selects RX2 yX2_tell yX2_tell) ∈ lw_tbl := tm_4 _ (List.mem_of_getElem? (i := 5) rfl)
set_option maxRecDepth 20000 in
theorem tw_728 : (Cond.code yX11_value cX11_value 4 (some .int)) ∈ lw_tbl := tm_4 _ (List.mem_of_getElem? (i := 2) rfl)
set_option maxRecDepth 20000 in
theorem tw_729 : (Cond.code yX11_slots cX11_slots 2 (some .int)) ∈ lw_tbl := tm_4 _ (List.mem_of_getElem? (i := 10) rfl)
set_option maxRecDepth 20000 in
theorem tw_730 : (Cond.fieldLink RX11 150 "RegisterMill$Homes" "slotCounts" "[I") ∈ lw_tbl := tm_1 _ (List.mem_of_getElem? (i := 194) rfl)
set_option maxRecDepth 20000 in
theorem tw_731 : (Cond.code yX11_places cX11_places 2 (some .int)) ∈ lw_tbl := tm_4 _ (List.mem_of_getElem? (i := 14) rfl)
set_option maxRecDepth 20000 in
theorem tw_732 : (Cond.fieldLink RX11 153 "RegisterMill$Turner" "placeCounts" "[I") ∈ lw_tbl := tm_2 _ (List.mem_of_getElem? (i := 29) rfl)
set_option maxRecDepth 20000 in
theorem tw_733 : (Cond.code yX11_cell cX11_cell 3 (some .boolean)) ∈ lw_tbl := tm_4 _ (List.mem_of_getElem? (i := 18) rfl)
set_option maxRecDepth 20000 in
theorem tw_734 : (Cond.code yX11_again cX11_again 1 (some .boolean)) ∈ lw_tbl := tm_4 _ (List.mem_of_getElem? (i := 22) rfl)
set_option maxRecDepth 20000 in
theorem tw_735 : (Cond.methodLink RX11 156 ⟨"RegisterMill$Machine", "goOn", "(I)I"⟩) ∈ lw_tbl := tm_4 _ (List.mem_of_getElem? (i := 27) rfl)
set_option maxRecDepth 20000 in
theorem tw_736 : (Cond.sameMethod "RegisterMill$Machine" "RegisterMill$Machine" "goOn" "(I)I") ∈ lw_tbl := tm_4 _ (List.mem_of_getElem? (i := 29) rfl)
set_option maxRecDepth 20000 in
theorem tw_737 : (Cond.selects RX7 ⟨"RegisterMill$Machine", "goOn", "(I)I"⟩ yX4_goOn) ∈ lw_tbl := tm_4 _ (List.mem_of_getElem? (i := 30) rfl)
set_option maxRecDepth 20000 in
theorem tw_738 : (Cond.instanceMethod yX4_goOn) ∈ lw_tbl := tm_4 _ (List.mem_of_getElem? (i := 28) rfl)
set_option maxRecDepth 20000 in
theorem tw_739 : (Cond.selects RX8 ⟨"RegisterMill$Machine", "goOn", "(I)I"⟩ yX4_goOn) ∈ lw_tbl := tm_4 _ (List.mem_of_getElem? (i := 31) rfl)
set_option maxRecDepth 20000 in
theorem tw_740 : (Cond.code yX11_runStack cX11_runStack 2 (some .int)) ∈ lw_tbl := tm_4 _ (List.mem_of_getElem? (i := 26) rfl)
set_option maxRecDepth 20000 in
theorem tw_741 : (Cond.code yX11_runRegisters cX11_runRegisters 2 (some .int)) ∈ lw_tbl := tm_4 _ (List.mem_of_getElem? (i := 179) rfl)
set_option maxRecDepth 20000 in
theorem tw_742 : (Cond.code yX11_machineOf cX11_machineOf 2 (some (.object "RegisterMill$Machine"))) ∈ lw_tbl := tm_4 _ (List.mem_of_getElem? (i := 187) rfl)
set_option maxRecDepth 20000 in
theorem tw_743 : (Cond.code yX11_look cX11_look 3 (some .int)) ∈ lw_tbl := tm_4 _ (List.mem_of_getElem? (i := 183) rfl)
set_option maxRecDepth 20000 in
theorem tw_744 : (Cond.methodLink RX11 160 yX11_machineOf) ∈ lw_tbl := tm_4 _ (List.mem_of_getElem? (i := 184) rfl)
set_option maxRecDepth 20000 in
theorem tw_745 : (Cond.instanceMethod yX11_machineOf) ∈ lw_tbl := tm_4 _ (List.mem_of_getElem? (i := 186) rfl)
set_option maxRecDepth 20000 in
theorem tw_746 : (Cond.selects RX11 yX11_machineOf yX11_machineOf) ∈ lw_tbl := List.mem_append_left _ (List.mem_of_getElem? (i := 47) rfl)
set_option maxRecDepth 20000 in
theorem tw_747 : (Cond.methodLink RX11 164 ⟨"RegisterMill$Machine", "tell", "(I)I"⟩) ∈ lw_tbl := tm_4 _ (List.mem_of_getElem? (i := 188) rfl)
set_option maxRecDepth 20000 in
theorem tw_748 : (Cond.sameMethod "RegisterMill$Machine" "RegisterMill$Machine" "tell" "(I)I") ∈ lw_tbl := tm_4 _ (List.mem_of_getElem? (i := 190) rfl)
set_option maxRecDepth 20000 in
theorem tw_749 : (Cond.selects RX7 ⟨"RegisterMill$Machine", "tell", "(I)I"⟩ yX4_tell) ∈ lw_tbl := tm_4 _ (List.mem_of_getElem? (i := 191) rfl)
set_option maxRecDepth 20000 in
theorem tw_750 : (Cond.instanceMethod yX4_tell) ∈ lw_tbl := tm_4 _ (List.mem_of_getElem? (i := 189) rfl)
set_option maxRecDepth 20000 in
theorem tw_751 : (Cond.selects RX8 ⟨"RegisterMill$Machine", "tell", "(I)I"⟩ yX4_tell) ∈ lw_tbl := tm_4 _ (List.mem_of_getElem? (i := 192) rfl)
set_option maxRecDepth 20000 in
theorem tw_752 : (Cond.code yX11_peek cX11_peek 3 (some .int)) ∈ lw_tbl := tm_5 _ (List.mem_of_getElem? (i := 40) rfl)
set_option maxRecDepth 20000 in
theorem tw_753 : (Cond.code yX11_count cX11_count 2 (some .int)) ∈ lw_tbl := tm_4 _ (List.mem_of_getElem? (i := 197) rfl)
set_option maxRecDepth 20000 in
theorem tw_754 : (Cond.methodLink RX12 1 objectInit) ∈ lw_tbl := tm_5 _ (List.mem_of_getElem? (i := 47) rfl)
set_option maxRecDepth 20000 in
theorem tw_755 : (Cond.fieldLink RX12 7 "RegisterMillModel" "args" "[I") ∈ lw_tbl := tm_5 _ (List.mem_of_getElem? (i := 50) rfl)
set_option maxRecDepth 20000 in
theorem tw_756 : (Cond.fieldLink RX12 13 "RegisterMillModel" "locals" "[I") ∈ lw_tbl := tm_5 _ (List.mem_of_getElem? (i := 51) rfl)
set_option maxRecDepth 20000 in
theorem tw_757 : (Cond.fieldLink RX12 16 "RegisterMillModel" "wordsFrom" "[I") ∈ lw_tbl := tm_5 _ (List.mem_of_getElem? (i := 52) rfl)
set_option maxRecDepth 20000 in
theorem tw_758 : (Cond.fieldLink RX12 19 "RegisterMillModel" "words" "[I") ∈ lw_tbl := tm_5 _ (List.mem_of_getElem? (i := 53) rfl)
set_option maxRecDepth 20000 in
theorem tw_759 : (Cond.fieldLink RX12 22 "RegisterMillModel" "op" "[I") ∈ lw_tbl := tm_5 _ (List.mem_of_getElem? (i := 55) rfl)
set_option maxRecDepth 20000 in
theorem tw_760 : (Cond.fieldLink RX12 25 "RegisterMillModel" "num" "[I") ∈ lw_tbl := tm_5 _ (List.mem_of_getElem? (i := 56) rfl)
set_option maxRecDepth 20000 in
theorem tw_761 : (Cond.fieldLink RX12 28 "RegisterMillModel" "depth" "[I") ∈ lw_tbl := tm_5 _ (List.mem_of_getElem? (i := 57) rfl)
set_option maxRecDepth 20000 in
theorem tw_762 : (Cond.fieldLink RX12 31 "RegisterMillModel" "gone" "[Z") ∈ lw_tbl := tm_5 _ (List.mem_of_getElem? (i := 59) rfl)
set_option maxRecDepth 20000 in
theorem tw_763 : (Cond.fieldLink RX12 35 "RegisterMillModel" "does" "[I") ∈ lw_tbl := tm_5 _ (List.mem_of_getElem? (i := 61) rfl)
set_option maxRecDepth 20000 in
theorem tw_764 : (Cond.fieldLink RX12 38 "RegisterMillModel" "with" "[I") ∈ lw_tbl := tm_5 _ (List.mem_of_getElem? (i := 62) rfl)
set_option maxRecDepth 20000 in
theorem tw_765 : (Cond.fieldLink RX12 41 "RegisterMillModel" "value" "[I") ∈ lw_tbl := tm_5 _ (List.mem_of_getElem? (i := 63) rfl)
set_option maxRecDepth 20000 in
theorem tw_766 : (Cond.fieldLink RX12 44 "RegisterMillModel" "told" "[I") ∈ lw_tbl := tm_5 _ (List.mem_of_getElem? (i := 64) rfl)
set_option maxRecDepth 20000 in
theorem tw_767 : (Cond.fieldLink RX12 47 "RegisterMillModel" "became" "[I") ∈ lw_tbl := tm_5 _ (List.mem_of_getElem? (i := 65) rfl)
set_option maxRecDepth 20000 in
theorem tw_768 : (Cond.fieldLink RX12 50 "RegisterMillModel" "ahead" "[I") ∈ lw_tbl := tm_5 _ (List.mem_of_getElem? (i := 66) rfl)
set_option maxRecDepth 20000 in
theorem tw_769 : (Cond.fieldLink RX12 53 "RegisterMillModel" "begins" "[Z") ∈ lw_tbl := tm_5 _ (List.mem_of_getElem? (i := 67) rfl)
set_option maxRecDepth 20000 in
theorem tw_770 : (Cond.fieldLink RX12 56 "RegisterMillModel" "copy" "[I") ∈ lw_tbl := tm_5 _ (List.mem_of_getElem? (i := 68) rfl)
set_option maxRecDepth 20000 in
theorem tw_771 : (Cond.fieldLink RX12 59 "RegisterMillModel" "live" "[I") ∈ lw_tbl := tm_5 _ (List.mem_of_getElem? (i := 69) rfl)
set_option maxRecDepth 20000 in
theorem tw_772 : (Cond.fieldLink RX12 62 "RegisterMillModel" "spanFrom" "[I") ∈ lw_tbl := tm_5 _ (List.mem_of_getElem? (i := 71) rfl)
set_option maxRecDepth 20000 in
theorem tw_773 : (Cond.fieldLink RX12 65 "RegisterMillModel" "spanTo" "[I") ∈ lw_tbl := tm_5 _ (List.mem_of_getElem? (i := 72) rfl)
set_option maxRecDepth 20000 in
theorem tw_774 : (Cond.fieldLink RX12 68 "RegisterMillModel" "register" "[I") ∈ lw_tbl := tm_5 _ (List.mem_of_getElem? (i := 73) rfl)
set_option maxRecDepth 20000 in
theorem tw_775 : (Cond.fieldLink RX12 71 "RegisterMillModel" "slot" "[I") ∈ lw_tbl := tm_5 _ (List.mem_of_getElem? (i := 74) rfl)
set_option maxRecDepth 20000 in
theorem tw_776 : (Cond.fieldLink RX12 74 "RegisterMillModel" "slots" "[I") ∈ lw_tbl := tm_5 _ (List.mem_of_getElem? (i := 75) rfl)
set_option maxRecDepth 20000 in
theorem tw_777 : (Cond.fieldLink RX12 77 "RegisterMillModel" "placesOf" "[I") ∈ lw_tbl := tm_5 _ (List.mem_of_getElem? (i := 76) rfl)
set_option maxRecDepth 20000 in
theorem tw_778 : (Cond.fieldLink RX12 80 "RegisterMillModel" "holds" "[Z") ∈ lw_tbl := tm_5 _ (List.mem_of_getElem? (i := 77) rfl)
set_option maxRecDepth 20000 in
theorem tw_779 : (Cond.fieldLink RX12 83 "RegisterMillModel" "code" "[I") ∈ lw_tbl := tm_5 _ (List.mem_of_getElem? (i := 79) rfl)
set_option maxRecDepth 20000 in
theorem tw_780 : (Cond.fieldLink RX12 86 "RegisterMillModel" "opsFrom" "[I") ∈ lw_tbl := tm_5 _ (List.mem_of_getElem? (i := 80) rfl)
set_option maxRecDepth 20000 in
theorem tw_781 : (Cond.fieldLink RX12 89 "RegisterMillModel" "opsOf" "[I") ∈ lw_tbl := tm_5 _ (List.mem_of_getElem? (i := 81) rfl)
set_option maxRecDepth 20000 in
theorem tw_782 : (Cond.fieldLink RX12 92 "RegisterMillModel" "first" "[I") ∈ lw_tbl := tm_5 _ (List.mem_of_getElem? (i := 84) rfl)
set_option maxRecDepth 20000 in
theorem tw_783 : (Cond.fieldLink RX12 95 "RegisterMillModel" "memory" "[I") ∈ lw_tbl := tm_5 _ (List.mem_of_getElem? (i := 86) rfl)
set_option maxRecDepth 20000 in
theorem tw_784 : (Cond.fieldLink RX12 98 "RegisterMillModel" "end" "[I") ∈ lw_tbl := tm_5 _ (List.mem_of_getElem? (i := 87) rfl)
set_option maxRecDepth 20000 in
theorem tw_785 : (Cond.fieldLink RX12 101 "RegisterMillModel" "result" "[I") ∈ lw_tbl := tm_5 _ (List.mem_of_getElem? (i := 88) rfl)
set_option maxRecDepth 20000 in
theorem tw_786 : (Cond.fieldLink RX12 104 "RegisterMillModel" "steps" "[I") ∈ lw_tbl := tm_5 _ (List.mem_of_getElem? (i := 89) rfl)
set_option maxRecDepth 20000 in
theorem tw_787 : (Cond.fieldLink RX12 107 "RegisterMillModel" "made" "[I") ∈ lw_tbl := tm_5 _ (List.mem_of_getElem? (i := 90) rfl)
set_option maxRecDepth 20000 in
theorem tw_788 : (Cond.fieldLink RX12 110 "RegisterMillModel" "calls" "[I") ∈ lw_tbl := tm_5 _ (List.mem_of_getElem? (i := 91) rfl)
set_option maxRecDepth 20000 in
theorem tw_789 : (Cond.fieldLink RX12 113 "RegisterMillModel" "inFunc" "[I") ∈ lw_tbl := tm_5 _ (List.mem_of_getElem? (i := 92) rfl)
set_option maxRecDepth 20000 in
theorem tw_790 : (Cond.fieldLink RX12 116 "RegisterMillModel" "pc" "[I") ∈ lw_tbl := tm_5 _ (List.mem_of_getElem? (i := 93) rfl)
set_option maxRecDepth 20000 in
theorem tw_791 : (Cond.fieldLink RX12 119 "RegisterMillModel" "cell" "[I") ∈ lw_tbl := tm_5 _ (List.mem_of_getElem? (i := 94) rfl)
set_option maxRecDepth 20000 in
theorem tw_792 : (Cond.fieldLink RX12 122 "RegisterMillModel" "top" "[I") ∈ lw_tbl := tm_5 _ (List.mem_of_getElem? (i := 95) rfl)
set_option maxRecDepth 20000 in
theorem tw_793 : (Cond.fieldLink RX12 125 "RegisterMillModel" "inSlot" "[I") ∈ lw_tbl := tm_5 _ (List.mem_of_getElem? (i := 96) rfl)
set_option maxRecDepth 20000 in
theorem tw_794 : (Cond.fieldLink RX12 128 "RegisterMillModel" "passed" "[I") ∈ lw_tbl := tm_5 _ (List.mem_of_getElem? (i := 97) rfl)
set_option maxRecDepth 20000 in
theorem tw_795 : (Cond.fieldLink RX12 131 "RegisterMillModel" "passing" "[I") ∈ lw_tbl := tm_5 _ (List.mem_of_getElem? (i := 98) rfl)
set_option maxRecDepth 20000 in
theorem tw_796 : (Cond.fieldLink RX12 134 "RegisterMillModel" "toldBy" "[I") ∈ lw_tbl := tm_5 _ (List.mem_of_getElem? (i := 99) rfl)
set_option maxRecDepth 20000 in
theorem tw_797 : (Cond.code yX12_init cX12_init 1 none) ∈ lw_tbl := tm_5 _ (List.mem_of_getElem? (i := 46) rfl)
set_option maxRecDepth 20000 in
theorem tw_798 : (Cond.lays RX12 "RegisterMillModel" "thrown" "I") ∈ lw_tbl := tm_5 _ (List.mem_of_getElem? (i := 100) rfl)
set_option maxRecDepth 20000 in
theorem tw_799 : (Cond.lays RX12 "RegisterMillModel" "funcs" "I") ∈ lw_tbl := tm_5 _ (List.mem_of_getElem? (i := 102) rfl)
set_option maxRecDepth 20000 in
theorem tw_800 : (Cond.laysFinal RX12 "RegisterMillModel" "args" "[I") ∈ lw_tbl := tm_5 _ (List.mem_of_getElem? (i := 104) rfl)
set_option maxRecDepth 20000 in
theorem tw_801 : (Cond.laysFinal RX12 "RegisterMillModel" "locals" "[I") ∈ lw_tbl := tm_5 _ (List.mem_of_getElem? (i := 106) rfl)
set_option maxRecDepth 20000 in
theorem tw_802 : (Cond.laysFinal RX12 "RegisterMillModel" "wordsFrom" "[I") ∈ lw_tbl := tm_5 _ (List.mem_of_getElem? (i := 108) rfl)
set_option maxRecDepth 20000 in
theorem tw_803 : (Cond.laysFinal RX12 "RegisterMillModel" "words" "[I") ∈ lw_tbl := tm_5 _ (List.mem_of_getElem? (i := 110) rfl)
set_option maxRecDepth 20000 in
theorem tw_804 : (Cond.lays RX12 "RegisterMillModel" "all" "I") ∈ lw_tbl := tm_5 _ (List.mem_of_getElem? (i := 112) rfl)
set_option maxRecDepth 20000 in
theorem tw_805 : (Cond.laysFinal RX12 "RegisterMillModel" "op" "[I") ∈ lw_tbl := tm_5 _ (List.mem_of_getElem? (i := 114) rfl)
set_option maxRecDepth 20000 in
theorem tw_806 : (Cond.laysFinal RX12 "RegisterMillModel" "num" "[I") ∈ lw_tbl := tm_5 _ (List.mem_of_getElem? (i := 116) rfl)
set_option maxRecDepth 20000 in
theorem tw_807 : (Cond.laysFinal RX12 "RegisterMillModel" "depth" "[I") ∈ lw_tbl := tm_5 _ (List.mem_of_getElem? (i := 118) rfl)
set_option maxRecDepth 20000 in
theorem tw_808 : (Cond.lays RX12 "RegisterMillModel" "isChecked" "Z") ∈ lw_tbl := tm_5 _ (List.mem_of_getElem? (i := 120) rfl)
set_option maxRecDepth 20000 in
theorem tw_809 : (Cond.laysFinal RX12 "RegisterMillModel" "gone" "[Z") ∈ lw_tbl := tm_5 _ (List.mem_of_getElem? (i := 122) rfl)
set_option maxRecDepth 20000 in
theorem tw_810 : (Cond.lays RX12 "RegisterMillModel" "places" "I") ∈ lw_tbl := tm_5 _ (List.mem_of_getElem? (i := 124) rfl)
set_option maxRecDepth 20000 in
theorem tw_811 : (Cond.laysFinal RX12 "RegisterMillModel" "does" "[I") ∈ lw_tbl := tm_5 _ (List.mem_of_getElem? (i := 126) rfl)
set_option maxRecDepth 20000 in
theorem tw_812 : (Cond.laysFinal RX12 "RegisterMillModel" "with" "[I") ∈ lw_tbl := tm_5 _ (List.mem_of_getElem? (i := 128) rfl)
set_option maxRecDepth 20000 in
theorem tw_813 : (Cond.laysFinal RX12 "RegisterMillModel" "value" "[I") ∈ lw_tbl := tm_5 _ (List.mem_of_getElem? (i := 130) rfl)
set_option maxRecDepth 20000 in
theorem tw_814 : (Cond.laysFinal RX12 "RegisterMillModel" "told" "[I") ∈ lw_tbl := tm_5 _ (List.mem_of_getElem? (i := 132) rfl)
set_option maxRecDepth 20000 in
theorem tw_815 : (Cond.laysFinal RX12 "RegisterMillModel" "became" "[I") ∈ lw_tbl := tm_5 _ (List.mem_of_getElem? (i := 134) rfl)
set_option maxRecDepth 20000 in
theorem tw_816 : (Cond.laysFinal RX12 "RegisterMillModel" "ahead" "[I") ∈ lw_tbl := tm_5 _ (List.mem_of_getElem? (i := 136) rfl)
set_option maxRecDepth 20000 in
theorem tw_817 : (Cond.laysFinal RX12 "RegisterMillModel" "begins" "[Z") ∈ lw_tbl := tm_5 _ (List.mem_of_getElem? (i := 138) rfl)
set_option maxRecDepth 20000 in
theorem tw_818 : (Cond.laysFinal RX12 "RegisterMillModel" "copy" "[I") ∈ lw_tbl := tm_5 _ (List.mem_of_getElem? (i := 140) rfl)
set_option maxRecDepth 20000 in
theorem tw_819 : (Cond.laysFinal RX12 "RegisterMillModel" "live" "[I") ∈ lw_tbl := tm_5 _ (List.mem_of_getElem? (i := 142) rfl)
set_option maxRecDepth 20000 in
theorem tw_820 : (Cond.lays RX12 "RegisterMillModel" "\x72" "I") ∈ lw_tbl := tm_5 _ (List.mem_of_getElem? (i := 144) rfl)
set_option maxRecDepth 20000 in
theorem tw_821 : (Cond.laysFinal RX12 "RegisterMillModel" "spanFrom" "[I") ∈ lw_tbl := tm_5 _ (List.mem_of_getElem? (i := 146) rfl)
set_option maxRecDepth 20000 in
theorem tw_822 : (Cond.laysFinal RX12 "RegisterMillModel" "spanTo" "[I") ∈ lw_tbl := tm_5 _ (List.mem_of_getElem? (i := 148) rfl)
set_option maxRecDepth 20000 in
theorem tw_823 : (Cond.laysFinal RX12 "RegisterMillModel" "register" "[I") ∈ lw_tbl := tm_5 _ (List.mem_of_getElem? (i := 150) rfl)
set_option maxRecDepth 20000 in
theorem tw_824 : (Cond.laysFinal RX12 "RegisterMillModel" "slot" "[I") ∈ lw_tbl := tm_5 _ (List.mem_of_getElem? (i := 152) rfl)
set_option maxRecDepth 20000 in
theorem tw_825 : (Cond.laysFinal RX12 "RegisterMillModel" "slots" "[I") ∈ lw_tbl := tm_5 _ (List.mem_of_getElem? (i := 154) rfl)
set_option maxRecDepth 20000 in
theorem tw_826 : (Cond.laysFinal RX12 "RegisterMillModel" "placesOf" "[I") ∈ lw_tbl := tm_5 _ (List.mem_of_getElem? (i := 156) rfl)
set_option maxRecDepth 20000 in
theorem tw_827 : (Cond.laysFinal RX12 "RegisterMillModel" "holds" "[Z") ∈ lw_tbl := tm_5 _ (List.mem_of_getElem? (i := 158) rfl)
set_option maxRecDepth 20000 in
theorem tw_828 : (Cond.lays RX12 "RegisterMillModel" "ops" "I") ∈ lw_tbl := tm_5 _ (List.mem_of_getElem? (i := 160) rfl)
set_option maxRecDepth 20000 in
theorem tw_829 : (Cond.laysFinal RX12 "RegisterMillModel" "code" "[I") ∈ lw_tbl := tm_5 _ (List.mem_of_getElem? (i := 162) rfl)
set_option maxRecDepth 20000 in
theorem tw_830 : (Cond.laysFinal RX12 "RegisterMillModel" "opsFrom" "[I") ∈ lw_tbl := tm_5 _ (List.mem_of_getElem? (i := 164) rfl)
set_option maxRecDepth 20000 in
theorem tw_831 : (Cond.laysFinal RX12 "RegisterMillModel" "opsOf" "[I") ∈ lw_tbl := tm_5 _ (List.mem_of_getElem? (i := 166) rfl)
set_option maxRecDepth 20000 in
theorem tw_832 : (Cond.lays RX12 "RegisterMillModel" "isTooMuch" "Z") ∈ lw_tbl := tm_5 _ (List.mem_of_getElem? (i := 168) rfl)
set_option maxRecDepth 20000 in
theorem tw_833 : (Cond.lays RX12 "RegisterMillModel" "now" "I") ∈ lw_tbl := tm_5 _ (List.mem_of_getElem? (i := 170) rfl)
set_option maxRecDepth 20000 in
theorem tw_834 : (Cond.laysFinal RX12 "RegisterMillModel" "first" "[I") ∈ lw_tbl := tm_5 _ (List.mem_of_getElem? (i := 172) rfl)
set_option maxRecDepth 20000 in
theorem tw_835 : (Cond.lays RX12 "RegisterMillModel" "isTurned" "Z") ∈ lw_tbl := tm_5 _ (List.mem_of_getElem? (i := 174) rfl)
set_option maxRecDepth 20000 in
theorem tw_836 : (Cond.laysFinal RX12 "RegisterMillModel" "memory" "[I") ∈ lw_tbl := tm_5 _ (List.mem_of_getElem? (i := 176) rfl)
set_option maxRecDepth 20000 in
theorem tw_837 : (Cond.laysFinal RX12 "RegisterMillModel" "end" "[I") ∈ lw_tbl := tm_5 _ (List.mem_of_getElem? (i := 178) rfl)
set_option maxRecDepth 20000 in
theorem tw_838 : (Cond.laysFinal RX12 "RegisterMillModel" "result" "[I") ∈ lw_tbl := tm_5 _ (List.mem_of_getElem? (i := 180) rfl)
set_option maxRecDepth 20000 in
theorem tw_839 : (Cond.laysFinal RX12 "RegisterMillModel" "steps" "[I") ∈ lw_tbl := tm_5 _ (List.mem_of_getElem? (i := 182) rfl)
set_option maxRecDepth 20000 in
theorem tw_840 : (Cond.laysFinal RX12 "RegisterMillModel" "made" "[I") ∈ lw_tbl := tm_5 _ (List.mem_of_getElem? (i := 184) rfl)
set_option maxRecDepth 20000 in
theorem tw_841 : (Cond.laysFinal RX12 "RegisterMillModel" "calls" "[I") ∈ lw_tbl := tm_5 _ (List.mem_of_getElem? (i := 186) rfl)
set_option maxRecDepth 20000 in
theorem tw_842 : (Cond.laysFinal RX12 "RegisterMillModel" "inFunc" "[I") ∈ lw_tbl := tm_5 _ (List.mem_of_getElem? (i := 188) rfl)
set_option maxRecDepth 20000 in
theorem tw_843 : (Cond.laysFinal RX12 "RegisterMillModel" "pc" "[I") ∈ lw_tbl := tm_5 _ (List.mem_of_getElem? (i := 190) rfl)
set_option maxRecDepth 20000 in
theorem tw_844 : (Cond.laysFinal RX12 "RegisterMillModel" "cell" "[I") ∈ lw_tbl := tm_5 _ (List.mem_of_getElem? (i := 192) rfl)
set_option maxRecDepth 20000 in
theorem tw_845 : (Cond.laysFinal RX12 "RegisterMillModel" "top" "[I") ∈ lw_tbl := tm_5 _ (List.mem_of_getElem? (i := 194) rfl)
set_option maxRecDepth 20000 in
theorem tw_846 : (Cond.laysFinal RX12 "RegisterMillModel" "inSlot" "[I") ∈ lw_tbl := tm_5 _ (List.mem_of_getElem? (i := 196) rfl)
set_option maxRecDepth 20000 in
theorem tw_847 : (Cond.laysFinal RX12 "RegisterMillModel" "passed" "[I") ∈ lw_tbl := tm_5 _ (List.mem_of_getElem? (i := 198) rfl)
set_option maxRecDepth 20000 in
theorem tw_848 : (Cond.laysFinal RX12 "RegisterMillModel" "passing" "[I") ∈ lw_tbl := tm_5 _ (List.mem_of_getElem? (i := 200) rfl)
set_option maxRecDepth 20000 in
theorem tw_849 : (Cond.laysFinal RX12 "RegisterMillModel" "toldBy" "[I") ∈ lw_tbl := tm_5 _ (List.mem_of_getElem? (i := 202) rfl)
set_option maxRecDepth 20000 in
theorem tw_850 : (Cond.code yX12_func cX12_func 3 (some .int)) ∈ lw_tbl := tm_5 _ (List.mem_of_getElem? (i := 208) rfl)
set_option maxRecDepth 20000 in
theorem tw_851 : (Cond.fieldLink RX12 137 "RegisterMillModel" "thrown" "I") ∈ lw_tbl := tm_5 _ (List.mem_of_getElem? (i := 48) rfl)
set_option maxRecDepth 20000 in
theorem tw_852 : (Cond.fieldLink RX12 141 "RegisterMillModel" "funcs" "I") ∈ lw_tbl := tm_5 _ (List.mem_of_getElem? (i := 49) rfl)
set_option maxRecDepth 20000 in
theorem tw_853 : (Cond.fieldLink RX12 144 "RegisterMillModel" "isChecked" "Z") ∈ lw_tbl := tm_5 _ (List.mem_of_getElem? (i := 58) rfl)
set_option maxRecDepth 20000 in
theorem tw_854 : (Cond.fieldLink RX12 148 "RegisterMillModel" "all" "I") ∈ lw_tbl := tm_5 _ (List.mem_of_getElem? (i := 54) rfl)
set_option maxRecDepth 20000 in
theorem tw_855 : (Cond.code yX12_word cX12_word 3 (some .int)) ∈ lw_tbl := tm_5 _ (List.mem_of_getElem? (i := 212) rfl)
set_option maxRecDepth 20000 in
theorem tw_856 : (Cond.code yX12_takes cX12_takes 3 (some .int)) ∈ lw_tbl := tm_5 _ (List.mem_of_getElem? (i := 232) rfl)
set_option maxRecDepth 20000 in
theorem tw_857 : (Cond.code yX12_behind cX12_behind 5 (some .int)) ∈ lw_tbl := tm_5 _ (List.mem_of_getElem? (i := 236) rfl)
set_option maxRecDepth 20000 in
theorem tw_858 : (Cond.methodLink RX12 151 yX12_takes) ∈ lw_tbl := tm_5 _ (List.mem_of_getElem? (i := 229) rfl)
set_option maxRecDepth 20000 in
theorem tw_859 : (Cond.instanceMethod yX12_takes) ∈ lw_tbl := tm_5 _ (List.mem_of_getElem? (i := 231) rfl)
set_option maxRecDepth 20000 in
theorem tw_860 : (Cond.selects RX12 yX12_takes yX12_takes) ∈ lw_tbl := List.mem_append_left _ (List.mem_of_getElem? (i := 52) rfl)
set_option maxRecDepth 20000 in
theorem tw_861 : (Cond.initialized RX12) ∈ lw_tbl := tm_1 _ (List.mem_of_getElem? (i := 13) rfl)
set_option maxRecDepth 20000 in
theorem tw_862 : (Cond.code yX12_isTold cX12_isTold 4 (some .boolean)) ∈ lw_tbl := tm_5 _ (List.mem_of_getElem? (i := 228) rfl)
set_option maxRecDepth 20000 in
theorem tw_863 : (Cond.code yX12_comes cX12_comes 5 (some .int)) ∈ lw_tbl := tm_6 _ (List.mem_of_getElem? (i := 0) rfl)
set_option maxRecDepth 20000 in
theorem tw_864 : (Cond.methodLink RX12 165 yX12_isTold) ∈ lw_tbl := tm_5 _ (List.mem_of_getElem? (i := 225) rfl)
set_option maxRecDepth 20000 in
theorem tw_865 : (Cond.instanceMethod yX12_isTold) ∈ lw_tbl := tm_5 _ (List.mem_of_getElem? (i := 227) rfl)
set_option maxRecDepth 20000 in
theorem tw_866 : (Cond.selects RX12 yX12_isTold yX12_isTold) ∈ lw_tbl := List.mem_append_left _ (List.mem_of_getElem? (i := 51) rfl)
set_option maxRecDepth 20000 in
theorem tw_867 : (Cond.methodLink RX12 169 yX12_behind) ∈ lw_tbl := tm_5 _ (List.mem_of_getElem? (i := 233) rfl)
set_option maxRecDepth 20000 in
theorem tw_868 : (Cond.instanceMethod yX12_behind) ∈ lw_tbl := tm_5 _ (List.mem_of_getElem? (i := 235) rfl)
set_option maxRecDepth 20000 in
theorem tw_869 : (Cond.selects RX12 yX12_behind yX12_behind) ∈ lw_tbl := List.mem_append_left _ (List.mem_of_getElem? (i := 53) rfl)
set_option maxRecDepth 20000 in
theorem tw_870 : (Cond.methodLink RX12 173 yX12_comes) ∈ lw_tbl := tm_5 _ (List.mem_of_getElem? (i := 237) rfl)
set_option maxRecDepth 20000 in
theorem tw_871 : (Cond.instanceMethod yX12_comes) ∈ lw_tbl := tm_5 _ (List.mem_of_getElem? (i := 239) rfl)
set_option maxRecDepth 20000 in
theorem tw_872 : (Cond.selects RX12 yX12_comes yX12_comes) ∈ lw_tbl := List.mem_append_left _ (List.mem_of_getElem? (i := 54) rfl)
set_option maxRecDepth 20000 in
theorem tw_873 : (Cond.code yX12_looksAt cX12_looksAt 8 (some .int)) ∈ lw_tbl := tm_5 _ (List.mem_of_getElem? (i := 224) rfl)
set_option maxRecDepth 20000 in
theorem tw_874 : (Cond.methodLink RX12 162 yX12_looksAt) ∈ lw_tbl := tm_5 _ (List.mem_of_getElem? (i := 221) rfl)
set_option maxRecDepth 20000 in
theorem tw_875 : (Cond.instanceMethod yX12_looksAt) ∈ lw_tbl := tm_5 _ (List.mem_of_getElem? (i := 223) rfl)
set_option maxRecDepth 20000 in
theorem tw_876 : (Cond.selects RX12 yX12_looksAt yX12_looksAt) ∈ lw_tbl := List.mem_append_left _ (List.mem_of_getElem? (i := 50) rfl)
set_option maxRecDepth 20000 in
theorem tw_877 : (Cond.code yX12_checks cX12_checks 5 (some .int)) ∈ lw_tbl := tm_5 _ (List.mem_of_getElem? (i := 220) rfl)
set_option maxRecDepth 20000 in
theorem tw_878 : (Cond.code yX12_begin cX12_begin 2 none) ∈ lw_tbl := tm_6 _ (List.mem_of_getElem? (i := 4) rfl)
set_option maxRecDepth 20000 in
theorem tw_879 : (Cond.methodLink RX12 155 yX12_checks) ∈ lw_tbl := tm_5 _ (List.mem_of_getElem? (i := 217) rfl)
set_option maxRecDepth 20000 in
theorem tw_880 : (Cond.instanceMethod yX12_checks) ∈ lw_tbl := tm_5 _ (List.mem_of_getElem? (i := 219) rfl)
set_option maxRecDepth 20000 in
theorem tw_881 : (Cond.selects RX12 yX12_checks yX12_checks) ∈ lw_tbl := List.mem_append_left _ (List.mem_of_getElem? (i := 49) rfl)
set_option maxRecDepth 20000 in
theorem tw_882 : (Cond.methodLink RX12 159 yX12_begin) ∈ lw_tbl := tm_6 _ (List.mem_of_getElem? (i := 1) rfl)
set_option maxRecDepth 20000 in
theorem tw_883 : (Cond.instanceMethod yX12_begin) ∈ lw_tbl := tm_6 _ (List.mem_of_getElem? (i := 3) rfl)
set_option maxRecDepth 20000 in
theorem tw_884 : (Cond.selects RX12 yX12_begin yX12_begin) ∈ lw_tbl := List.mem_append_left _ (List.mem_of_getElem? (i := 55) rfl)
set_option maxRecDepth 20000 in
theorem tw_885 : (Cond.code yX12_check cX12_check 3 (some .int)) ∈ lw_tbl := tm_5 _ (List.mem_of_getElem? (i := 216) rfl)
set_option maxRecDepth 20000 in
theorem tw_886 : (Cond.code yX12_depth cX12_depth 3 (some .int)) ∈ lw_tbl := tm_6 _ (List.mem_of_getElem? (i := 8) rfl)
set_option maxRecDepth 20000 in
theorem tw_887 : (Cond.code yX12_place cX12_place 3 none) ∈ lw_tbl := tm_6 _ (List.mem_of_getElem? (i := 24) rfl)
set_option maxRecDepth 20000 in
theorem tw_888 : (Cond.fieldLink RX12 176 "RegisterMillModel" "places" "I") ∈ lw_tbl := tm_5 _ (List.mem_of_getElem? (i := 60) rfl)
set_option maxRecDepth 20000 in
theorem tw_889 : (Cond.code yX12_tells cX12_tells 2 none) ∈ lw_tbl := tm_6 _ (List.mem_of_getElem? (i := 28) rfl)
set_option maxRecDepth 20000 in
theorem tw_890 : (Cond.code yX12_writes cX12_writes 1 (some .boolean)) ∈ lw_tbl := tm_6 _ (List.mem_of_getElem? (i := 42) rfl)
set_option maxRecDepth 20000 in
theorem tw_891 : (Cond.code yX12_isJump cX12_isJump 1 (some .boolean)) ∈ lw_tbl := tm_6 _ (List.mem_of_getElem? (i := 31) rfl)
set_option maxRecDepth 20000 in
theorem tw_892 : (Cond.code yX12_lay cX12_lay 6 none) ∈ lw_tbl := tm_6 _ (List.mem_of_getElem? (i := 20) rfl)
set_option maxRecDepth 20000 in
theorem tw_893 : (Cond.methodLink RX12 187 yX12_place) ∈ lw_tbl := tm_6 _ (List.mem_of_getElem? (i := 21) rfl)
set_option maxRecDepth 20000 in
theorem tw_894 : (Cond.instanceMethod yX12_place) ∈ lw_tbl := tm_6 _ (List.mem_of_getElem? (i := 23) rfl)
set_option maxRecDepth 20000 in
theorem tw_895 : (Cond.selects RX12 yX12_place yX12_place) ∈ lw_tbl := List.mem_append_left _ (List.mem_of_getElem? (i := 58) rfl)
set_option maxRecDepth 20000 in
theorem tw_896 : (Cond.methodLink RX12 191 yX12_tells) ∈ lw_tbl := tm_6 _ (List.mem_of_getElem? (i := 25) rfl)
set_option maxRecDepth 20000 in
theorem tw_897 : (Cond.instanceMethod yX12_tells) ∈ lw_tbl := tm_6 _ (List.mem_of_getElem? (i := 27) rfl)
set_option maxRecDepth 20000 in
theorem tw_898 : (Cond.selects RX12 yX12_tells yX12_tells) ∈ lw_tbl := List.mem_append_left _ (List.mem_of_getElem? (i := 59) rfl)
set_option maxRecDepth 20000 in
theorem tw_899 : (Cond.methodLink RX12 179 yX12_lay) ∈ lw_tbl := tm_6 _ (List.mem_of_getElem? (i := 17) rfl)
set_option maxRecDepth 20000 in
theorem tw_900 : (Cond.instanceMethod yX12_lay) ∈ lw_tbl := tm_6 _ (List.mem_of_getElem? (i := 19) rfl)
set_option maxRecDepth 20000 in
theorem tw_901 : (Cond.selects RX12 yX12_lay yX12_lay) ∈ lw_tbl := List.mem_append_left _ (List.mem_of_getElem? (i := 57) rfl)
set_option maxRecDepth 20000 in
theorem tw_902 : (Cond.methodLink RX12 183 yX12_isJump) ∈ lw_tbl := tm_6 _ (List.mem_of_getElem? (i := 29) rfl)
set_option maxRecDepth 20000 in
theorem tw_903 : (Cond.static yX12_isJump) ∈ lw_tbl := tm_6 _ (List.mem_of_getElem? (i := 30) rfl)
set_option maxRecDepth 20000 in
theorem tw_904 : (Cond.code yX12_lays cX12_lays 4 none) ∈ lw_tbl := tm_6 _ (List.mem_of_getElem? (i := 16) rfl)
set_option maxRecDepth 20000 in
theorem tw_905 : (Cond.code yX12_forgets cX12_forgets 3 none) ∈ lw_tbl := tm_6 _ (List.mem_of_getElem? (i := 46) rfl)
set_option maxRecDepth 20000 in
theorem tw_906 : (Cond.code yX12_forward cX12_forward 5 none) ∈ lw_tbl := tm_6 _ (List.mem_of_getElem? (i := 39) rfl)
set_option maxRecDepth 20000 in
theorem tw_907 : (Cond.methodLink RX12 198 yX12_writes) ∈ lw_tbl := tm_6 _ (List.mem_of_getElem? (i := 40) rfl)
set_option maxRecDepth 20000 in
theorem tw_908 : (Cond.static yX12_writes) ∈ lw_tbl := tm_6 _ (List.mem_of_getElem? (i := 41) rfl)
set_option maxRecDepth 20000 in
theorem tw_909 : (Cond.methodLink RX12 201 yX12_forgets) ∈ lw_tbl := tm_6 _ (List.mem_of_getElem? (i := 43) rfl)
set_option maxRecDepth 20000 in
theorem tw_910 : (Cond.instanceMethod yX12_forgets) ∈ lw_tbl := tm_6 _ (List.mem_of_getElem? (i := 45) rfl)
set_option maxRecDepth 20000 in
theorem tw_911 : (Cond.selects RX12 yX12_forgets yX12_forgets) ∈ lw_tbl := List.mem_append_left _ (List.mem_of_getElem? (i := 62) rfl)
set_option maxRecDepth 20000 in
theorem tw_912 : (Cond.code yX12_forwards cX12_forwards 3 none) ∈ lw_tbl := tm_6 _ (List.mem_of_getElem? (i := 35) rfl)
set_option maxRecDepth 20000 in
theorem tw_913 : (Cond.methodLink RX12 195 yX12_forward) ∈ lw_tbl := tm_6 _ (List.mem_of_getElem? (i := 36) rfl)
set_option maxRecDepth 20000 in
theorem tw_914 : (Cond.instanceMethod yX12_forward) ∈ lw_tbl := tm_6 _ (List.mem_of_getElem? (i := 38) rfl)
set_option maxRecDepth 20000 in
theorem tw_915 : (Cond.selects RX12 yX12_forward yX12_forward) ∈ lw_tbl := List.mem_append_left _ (List.mem_of_getElem? (i := 61) rfl)
set_option maxRecDepth 20000 in
theorem tw_916 : (Cond.code yX12_liveBehind cX12_liveBehind 4 (some .int)) ∈ lw_tbl := tm_6 _ (List.mem_of_getElem? (i := 62) rfl)
set_option maxRecDepth 20000 in
theorem tw_917 : (Cond.code yX12_liveAhead cX12_liveAhead 5 (some .int)) ∈ lw_tbl := tm_6 _ (List.mem_of_getElem? (i := 58) rfl)
set_option maxRecDepth 20000 in
theorem tw_918 : (Cond.methodLink RX12 204 yX12_liveBehind) ∈ lw_tbl := tm_6 _ (List.mem_of_getElem? (i := 59) rfl)
set_option maxRecDepth 20000 in
theorem tw_919 : (Cond.instanceMethod yX12_liveBehind) ∈ lw_tbl := tm_6 _ (List.mem_of_getElem? (i := 61) rfl)
set_option maxRecDepth 20000 in
theorem tw_920 : (Cond.selects RX12 yX12_liveBehind yX12_liveBehind) ∈ lw_tbl := List.mem_append_left _ (List.mem_of_getElem? (i := 66) rfl)
set_option maxRecDepth 20000 in
theorem tw_921 : (Cond.code yX12_lives cX12_lives 4 none) ∈ lw_tbl := tm_6 _ (List.mem_of_getElem? (i := 54) rfl)
set_option maxRecDepth 20000 in
theorem tw_922 : (Cond.methodLink RX12 207 yX12_liveAhead) ∈ lw_tbl := tm_6 _ (List.mem_of_getElem? (i := 55) rfl)
set_option maxRecDepth 20000 in
theorem tw_923 : (Cond.instanceMethod yX12_liveAhead) ∈ lw_tbl := tm_6 _ (List.mem_of_getElem? (i := 57) rfl)
set_option maxRecDepth 20000 in
theorem tw_924 : (Cond.selects RX12 yX12_liveAhead yX12_liveAhead) ∈ lw_tbl := List.mem_append_left _ (List.mem_of_getElem? (i := 65) rfl)
set_option maxRecDepth 20000 in
theorem tw_925 : (Cond.code yX12_isLeftOut cX12_isLeftOut 3 (some .boolean)) ∈ lw_tbl := tm_6 _ (List.mem_of_getElem? (i := 66) rfl)
set_option maxRecDepth 20000 in
theorem tw_926 : (Cond.code yX12_closesUp cX12_closesUp 5 none) ∈ lw_tbl := tm_6 _ (List.mem_of_getElem? (i := 70) rfl)
set_option maxRecDepth 20000 in
theorem tw_927 : (Cond.methodLink RX12 210 yX12_lives) ∈ lw_tbl := tm_6 _ (List.mem_of_getElem? (i := 51) rfl)
set_option maxRecDepth 20000 in
theorem tw_928 : (Cond.instanceMethod yX12_lives) ∈ lw_tbl := tm_6 _ (List.mem_of_getElem? (i := 53) rfl)
set_option maxRecDepth 20000 in
theorem tw_929 : (Cond.selects RX12 yX12_lives yX12_lives) ∈ lw_tbl := List.mem_append_left _ (List.mem_of_getElem? (i := 64) rfl)
set_option maxRecDepth 20000 in
theorem tw_930 : (Cond.methodLink RX12 213 yX12_isLeftOut) ∈ lw_tbl := tm_6 _ (List.mem_of_getElem? (i := 63) rfl)
set_option maxRecDepth 20000 in
theorem tw_931 : (Cond.instanceMethod yX12_isLeftOut) ∈ lw_tbl := tm_6 _ (List.mem_of_getElem? (i := 65) rfl)
set_option maxRecDepth 20000 in
theorem tw_932 : (Cond.selects RX12 yX12_isLeftOut yX12_isLeftOut) ∈ lw_tbl := List.mem_append_left _ (List.mem_of_getElem? (i := 67) rfl)
set_option maxRecDepth 20000 in
theorem tw_933 : (Cond.methodLink RX12 216 yX12_closesUp) ∈ lw_tbl := tm_6 _ (List.mem_of_getElem? (i := 67) rfl)
set_option maxRecDepth 20000 in
theorem tw_934 : (Cond.instanceMethod yX12_closesUp) ∈ lw_tbl := tm_6 _ (List.mem_of_getElem? (i := 69) rfl)
set_option maxRecDepth 20000 in
theorem tw_935 : (Cond.selects RX12 yX12_closesUp yX12_closesUp) ∈ lw_tbl := List.mem_append_left _ (List.mem_of_getElem? (i := 68) rfl)
set_option maxRecDepth 20000 in
theorem tw_936 : (Cond.code yX12_leavesOut cX12_leavesOut 4 none) ∈ lw_tbl := tm_6 _ (List.mem_of_getElem? (i := 50) rfl)
set_option maxRecDepth 20000 in
theorem tw_937 : (Cond.code yX12_scans cX12_scans 9 none) ∈ lw_tbl := tm_6 _ (List.mem_of_getElem? (i := 78) rfl)
set_option maxRecDepth 20000 in
theorem tw_938 : (Cond.fieldLink RX12 222 "RegisterMillModel" "\x72" "I") ∈ lw_tbl := tm_5 _ (List.mem_of_getElem? (i := 70) rfl)
set_option maxRecDepth 20000 in
theorem tw_939 : (Cond.code yX12_spans cX12_spans 5 none) ∈ lw_tbl := tm_6 _ (List.mem_of_getElem? (i := 74) rfl)
set_option maxRecDepth 20000 in
theorem tw_940 : (Cond.methodLink RX12 219 yX12_scans) ∈ lw_tbl := tm_6 _ (List.mem_of_getElem? (i := 75) rfl)
set_option maxRecDepth 20000 in
theorem tw_941 : (Cond.instanceMethod yX12_scans) ∈ lw_tbl := tm_6 _ (List.mem_of_getElem? (i := 77) rfl)
set_option maxRecDepth 20000 in
theorem tw_942 : (Cond.selects RX12 yX12_scans yX12_scans) ∈ lw_tbl := List.mem_append_left _ (List.mem_of_getElem? (i := 70) rfl)
set_option maxRecDepth 20000 in
theorem tw_943 : (Cond.code yX12_emit cX12_emit 6 none) ∈ lw_tbl := tm_6 _ (List.mem_of_getElem? (i := 98) rfl)
set_option maxRecDepth 20000 in
theorem tw_944 : (Cond.fieldLink RX12 225 "RegisterMillModel" "ops" "I") ∈ lw_tbl := tm_5 _ (List.mem_of_getElem? (i := 78) rfl)
set_option maxRecDepth 20000 in
theorem tw_945 : (Cond.fieldLink RX12 228 "RegisterMillModel" "isTooMuch" "Z") ∈ lw_tbl := tm_5 _ (List.mem_of_getElem? (i := 82) rfl)
set_option maxRecDepth 20000 in
theorem tw_946 : (Cond.code yX12_registerOf cX12_registerOf 2 (some .int)) ∈ lw_tbl := tm_6 _ (List.mem_of_getElem? (i := 94) rfl)
set_option maxRecDepth 20000 in
theorem tw_947 : (Cond.fieldLink RX12 231 "RegisterMillModel" "now" "I") ∈ lw_tbl := tm_5 _ (List.mem_of_getElem? (i := 83) rfl)
set_option maxRecDepth 20000 in
theorem tw_948 : (Cond.code yX12_slotOf cX12_slotOf 2 (some .int)) ∈ lw_tbl := tm_6 _ (List.mem_of_getElem? (i := 90) rfl)
set_option maxRecDepth 20000 in
theorem tw_949 : (Cond.code yX12_read cX12_read 3 (some .int)) ∈ lw_tbl := tm_6 _ (List.mem_of_getElem? (i := 114) rfl)
set_option maxRecDepth 20000 in
theorem tw_950 : (Cond.methodLink RX12 234 yX12_slotOf) ∈ lw_tbl := tm_6 _ (List.mem_of_getElem? (i := 87) rfl)
set_option maxRecDepth 20000 in
theorem tw_951 : (Cond.instanceMethod yX12_slotOf) ∈ lw_tbl := tm_6 _ (List.mem_of_getElem? (i := 89) rfl)
set_option maxRecDepth 20000 in
theorem tw_952 : (Cond.selects RX12 yX12_slotOf yX12_slotOf) ∈ lw_tbl := List.mem_append_left _ (List.mem_of_getElem? (i := 73) rfl)
set_option maxRecDepth 20000 in
theorem tw_953 : (Cond.methodLink RX12 237 yX12_registerOf) ∈ lw_tbl := tm_6 _ (List.mem_of_getElem? (i := 91) rfl)
set_option maxRecDepth 20000 in
theorem tw_954 : (Cond.instanceMethod yX12_registerOf) ∈ lw_tbl := tm_6 _ (List.mem_of_getElem? (i := 93) rfl)
set_option maxRecDepth 20000 in
theorem tw_955 : (Cond.selects RX12 yX12_registerOf yX12_registerOf) ∈ lw_tbl := List.mem_append_left _ (List.mem_of_getElem? (i := 74) rfl)
set_option maxRecDepth 20000 in
theorem tw_956 : (Cond.methodLink RX12 240 yX12_emit) ∈ lw_tbl := tm_6 _ (List.mem_of_getElem? (i := 95) rfl)
set_option maxRecDepth 20000 in
theorem tw_957 : (Cond.instanceMethod yX12_emit) ∈ lw_tbl := tm_6 _ (List.mem_of_getElem? (i := 97) rfl)
set_option maxRecDepth 20000 in
theorem tw_958 : (Cond.selects RX12 yX12_emit yX12_emit) ∈ lw_tbl := List.mem_append_left _ (List.mem_of_getElem? (i := 75) rfl)
set_option maxRecDepth 20000 in
theorem tw_959 : (Cond.code yX12_written cX12_written 2 (some .int)) ∈ lw_tbl := tm_6 _ (List.mem_of_getElem? (i := 86) rfl)
set_option maxRecDepth 20000 in
theorem tw_960 : (Cond.code yX12_saved cX12_saved 2 none) ∈ lw_tbl := tm_6 _ (List.mem_of_getElem? (i := 102) rfl)
set_option maxRecDepth 20000 in
theorem tw_961 : (Cond.code yX12_moves cX12_moves 3 none) ∈ lw_tbl := tm_6 _ (List.mem_of_getElem? (i := 110) rfl)
set_option maxRecDepth 20000 in
theorem tw_962 : (Cond.code yX12_into cX12_into 3 none) ∈ lw_tbl := tm_6 _ (List.mem_of_getElem? (i := 122) rfl)
set_option maxRecDepth 20000 in
theorem tw_963 : (Cond.code yX12_outOf cX12_outOf 3 none) ∈ lw_tbl := tm_6 _ (List.mem_of_getElem? (i := 126) rfl)
set_option maxRecDepth 20000 in
theorem tw_964 : (Cond.methodLink RX12 262 yX12_into) ∈ lw_tbl := tm_6 _ (List.mem_of_getElem? (i := 119) rfl)
set_option maxRecDepth 20000 in
theorem tw_965 : (Cond.instanceMethod yX12_into) ∈ lw_tbl := tm_6 _ (List.mem_of_getElem? (i := 121) rfl)
set_option maxRecDepth 20000 in
theorem tw_966 : (Cond.selects RX12 yX12_into yX12_into) ∈ lw_tbl := List.mem_append_left _ (List.mem_of_getElem? (i := 81) rfl)
set_option maxRecDepth 20000 in
theorem tw_967 : (Cond.methodLink RX12 265 yX12_outOf) ∈ lw_tbl := tm_6 _ (List.mem_of_getElem? (i := 123) rfl)
set_option maxRecDepth 20000 in
theorem tw_968 : (Cond.instanceMethod yX12_outOf) ∈ lw_tbl := tm_6 _ (List.mem_of_getElem? (i := 125) rfl)
set_option maxRecDepth 20000 in
theorem tw_969 : (Cond.selects RX12 yX12_outOf yX12_outOf) ∈ lw_tbl := List.mem_append_left _ (List.mem_of_getElem? (i := 82) rfl)
set_option maxRecDepth 20000 in
theorem tw_970 : (Cond.code yX12_swaps cX12_swaps 5 none) ∈ lw_tbl := tm_6 _ (List.mem_of_getElem? (i := 118) rfl)
set_option maxRecDepth 20000 in
theorem tw_971 : (Cond.methodLink RX12 244 yX12_written) ∈ lw_tbl := tm_6 _ (List.mem_of_getElem? (i := 83) rfl)
set_option maxRecDepth 20000 in
theorem tw_972 : (Cond.instanceMethod yX12_written) ∈ lw_tbl := tm_6 _ (List.mem_of_getElem? (i := 85) rfl)
set_option maxRecDepth 20000 in
theorem tw_973 : (Cond.selects RX12 yX12_written yX12_written) ∈ lw_tbl := List.mem_append_left _ (List.mem_of_getElem? (i := 72) rfl)
set_option maxRecDepth 20000 in
theorem tw_974 : (Cond.methodLink RX12 247 yX12_saved) ∈ lw_tbl := tm_6 _ (List.mem_of_getElem? (i := 99) rfl)
set_option maxRecDepth 20000 in
theorem tw_975 : (Cond.instanceMethod yX12_saved) ∈ lw_tbl := tm_6 _ (List.mem_of_getElem? (i := 101) rfl)
set_option maxRecDepth 20000 in
theorem tw_976 : (Cond.selects RX12 yX12_saved yX12_saved) ∈ lw_tbl := List.mem_append_left _ (List.mem_of_getElem? (i := 76) rfl)
set_option maxRecDepth 20000 in
theorem tw_977 : (Cond.methodLink RX12 253 yX12_moves) ∈ lw_tbl := tm_6 _ (List.mem_of_getElem? (i := 107) rfl)
set_option maxRecDepth 20000 in
theorem tw_978 : (Cond.instanceMethod yX12_moves) ∈ lw_tbl := tm_6 _ (List.mem_of_getElem? (i := 109) rfl)
set_option maxRecDepth 20000 in
theorem tw_979 : (Cond.selects RX12 yX12_moves yX12_moves) ∈ lw_tbl := List.mem_append_left _ (List.mem_of_getElem? (i := 78) rfl)
set_option maxRecDepth 20000 in
theorem tw_980 : (Cond.methodLink RX12 256 yX12_read) ∈ lw_tbl := tm_6 _ (List.mem_of_getElem? (i := 111) rfl)
set_option maxRecDepth 20000 in
theorem tw_981 : (Cond.instanceMethod yX12_read) ∈ lw_tbl := tm_6 _ (List.mem_of_getElem? (i := 113) rfl)
set_option maxRecDepth 20000 in
theorem tw_982 : (Cond.selects RX12 yX12_read yX12_read) ∈ lw_tbl := List.mem_append_left _ (List.mem_of_getElem? (i := 79) rfl)
set_option maxRecDepth 20000 in
theorem tw_983 : (Cond.methodLink RX12 259 yX12_swaps) ∈ lw_tbl := tm_6 _ (List.mem_of_getElem? (i := 115) rfl)
set_option maxRecDepth 20000 in
theorem tw_984 : (Cond.instanceMethod yX12_swaps) ∈ lw_tbl := tm_6 _ (List.mem_of_getElem? (i := 117) rfl)
set_option maxRecDepth 20000 in
theorem tw_985 : (Cond.selects RX12 yX12_swaps yX12_swaps) ∈ lw_tbl := List.mem_append_left _ (List.mem_of_getElem? (i := 80) rfl)
set_option maxRecDepth 20000 in
theorem tw_986 : (Cond.code yX12_codePlace cX12_codePlace 10 none) ∈ lw_tbl := tm_6 _ (List.mem_of_getElem? (i := 106) rfl)
set_option maxRecDepth 20000 in
theorem tw_987 : (Cond.methodLink RX12 250 yX12_codePlace) ∈ lw_tbl := tm_6 _ (List.mem_of_getElem? (i := 103) rfl)
set_option maxRecDepth 20000 in
theorem tw_988 : (Cond.instanceMethod yX12_codePlace) ∈ lw_tbl := tm_6 _ (List.mem_of_getElem? (i := 105) rfl)
set_option maxRecDepth 20000 in
theorem tw_989 : (Cond.selects RX12 yX12_codePlace yX12_codePlace) ∈ lw_tbl := List.mem_append_left _ (List.mem_of_getElem? (i := 77) rfl)
set_option maxRecDepth 20000 in
theorem tw_990 : (Cond.code yX12_codes cX12_codes 3 none) ∈ lw_tbl := tm_6 _ (List.mem_of_getElem? (i := 82) rfl)
set_option maxRecDepth 20000 in
theorem tw_991 : (Cond.fieldLink RX12 268 "RegisterMillModel" "isTurned" "Z") ∈ lw_tbl := tm_5 _ (List.mem_of_getElem? (i := 85) rfl)
set_option maxRecDepth 20000 in
theorem tw_992 : (Cond.methodLink RX12 271 yX12_lays) ∈ lw_tbl := tm_6 _ (List.mem_of_getElem? (i := 13) rfl)
set_option maxRecDepth 20000 in
theorem tw_993 : (Cond.instanceMethod yX12_lays) ∈ lw_tbl := tm_6 _ (List.mem_of_getElem? (i := 15) rfl)
set_option maxRecDepth 20000 in
theorem tw_994 : (Cond.selects RX12 yX12_lays yX12_lays) ∈ lw_tbl := List.mem_append_left _ (List.mem_of_getElem? (i := 56) rfl)
set_option maxRecDepth 20000 in
theorem tw_995 : (Cond.methodLink RX12 274 yX12_forwards) ∈ lw_tbl := tm_6 _ (List.mem_of_getElem? (i := 32) rfl)
set_option maxRecDepth 20000 in
theorem tw_996 : (Cond.instanceMethod yX12_forwards) ∈ lw_tbl := tm_6 _ (List.mem_of_getElem? (i := 34) rfl)
set_option maxRecDepth 20000 in
theorem tw_997 : (Cond.selects RX12 yX12_forwards yX12_forwards) ∈ lw_tbl := List.mem_append_left _ (List.mem_of_getElem? (i := 60) rfl)
set_option maxRecDepth 20000 in
theorem tw_998 : (Cond.methodLink RX12 277 yX12_leavesOut) ∈ lw_tbl := tm_6 _ (List.mem_of_getElem? (i := 47) rfl)
set_option maxRecDepth 20000 in
theorem tw_999 : (Cond.instanceMethod yX12_leavesOut) ∈ lw_tbl := tm_6 _ (List.mem_of_getElem? (i := 49) rfl)
set_option maxRecDepth 20000 in
theorem tw_1000 : (Cond.selects RX12 yX12_leavesOut yX12_leavesOut) ∈ lw_tbl := List.mem_append_left _ (List.mem_of_getElem? (i := 63) rfl)
set_option maxRecDepth 20000 in
theorem tw_1001 : (Cond.methodLink RX12 280 yX12_spans) ∈ lw_tbl := tm_6 _ (List.mem_of_getElem? (i := 71) rfl)
set_option maxRecDepth 20000 in
theorem tw_1002 : (Cond.instanceMethod yX12_spans) ∈ lw_tbl := tm_6 _ (List.mem_of_getElem? (i := 73) rfl)
set_option maxRecDepth 20000 in
theorem tw_1003 : (Cond.selects RX12 yX12_spans yX12_spans) ∈ lw_tbl := List.mem_append_left _ (List.mem_of_getElem? (i := 69) rfl)
set_option maxRecDepth 20000 in
theorem tw_1004 : (Cond.methodLink RX12 283 yX12_codes) ∈ lw_tbl := tm_6 _ (List.mem_of_getElem? (i := 79) rfl)
set_option maxRecDepth 20000 in
theorem tw_1005 : (Cond.instanceMethod yX12_codes) ∈ lw_tbl := tm_6 _ (List.mem_of_getElem? (i := 81) rfl)
set_option maxRecDepth 20000 in
theorem tw_1006 : (Cond.selects RX12 yX12_codes yX12_codes) ∈ lw_tbl := List.mem_append_left _ (List.mem_of_getElem? (i := 71) rfl)
set_option maxRecDepth 20000 in
theorem tw_1007 : (Cond.code yX12_turn cX12_turn 3 (some .int)) ∈ lw_tbl := tm_6 _ (List.mem_of_getElem? (i := 12) rfl)
set_option maxRecDepth 20000 in
theorem tw_1008 : (Cond.code yX12_enters cX12_enters 5 none) ∈ lw_tbl := tm_6 _ (List.mem_of_getElem? (i := 142) rfl)
set_option maxRecDepth 20000 in
theorem tw_1009 : (Cond.code yX12_ends cX12_ends 3 none) ∈ lw_tbl := tm_6 _ (List.mem_of_getElem? (i := 162) rfl)
set_option maxRecDepth 20000 in
theorem tw_1010 : (Cond.code yX12_push cX12_push 3 none) ∈ lw_tbl := tm_6 _ (List.mem_of_getElem? (i := 146) rfl)
set_option maxRecDepth 20000 in
theorem tw_1011 : (Cond.code yX12_over cX12_over 3 none) ∈ lw_tbl := tm_6 _ (List.mem_of_getElem? (i := 166) rfl)
set_option maxRecDepth 20000 in
theorem tw_1012 : (Cond.methodLink RX12 286 yX12_ends) ∈ lw_tbl := tm_6 _ (List.mem_of_getElem? (i := 159) rfl)
set_option maxRecDepth 20000 in
theorem tw_1013 : (Cond.instanceMethod yX12_ends) ∈ lw_tbl := tm_6 _ (List.mem_of_getElem? (i := 161) rfl)
set_option maxRecDepth 20000 in
theorem tw_1014 : (Cond.selects RX12 yX12_ends yX12_ends) ∈ lw_tbl := List.mem_append_left _ (List.mem_of_getElem? (i := 90) rfl)
set_option maxRecDepth 20000 in
theorem tw_1015 : (Cond.methodLink RX12 289 yX12_push) ∈ lw_tbl := tm_6 _ (List.mem_of_getElem? (i := 143) rfl)
set_option maxRecDepth 20000 in
theorem tw_1016 : (Cond.instanceMethod yX12_push) ∈ lw_tbl := tm_6 _ (List.mem_of_getElem? (i := 145) rfl)
set_option maxRecDepth 20000 in
theorem tw_1017 : (Cond.selects RX12 yX12_push yX12_push) ∈ lw_tbl := List.mem_append_left _ (List.mem_of_getElem? (i := 86) rfl)
set_option maxRecDepth 20000 in
theorem tw_1018 : (Cond.code yX12_pop cX12_pop 2 (some .int)) ∈ lw_tbl := tm_6 _ (List.mem_of_getElem? (i := 150) rfl)
set_option maxRecDepth 20000 in
theorem tw_1019 : (Cond.code yX12_works cX12_works 4 (some .int)) ∈ lw_tbl := tm_6 _ (List.mem_of_getElem? (i := 185) rfl)
set_option maxRecDepth 20000 in
theorem tw_1020 : (Cond.code yX12_swapTop cX12_swapTop 3 none) ∈ lw_tbl := tm_6 _ (List.mem_of_getElem? (i := 154) rfl)
set_option maxRecDepth 20000 in
theorem tw_1021 : (Cond.methodLink RX12 295 yX12_pop) ∈ lw_tbl := tm_6 _ (List.mem_of_getElem? (i := 147) rfl)
set_option maxRecDepth 20000 in
theorem tw_1022 : (Cond.instanceMethod yX12_pop) ∈ lw_tbl := tm_6 _ (List.mem_of_getElem? (i := 149) rfl)
set_option maxRecDepth 20000 in
theorem tw_1023 : (Cond.selects RX12 yX12_pop yX12_pop) ∈ lw_tbl := List.mem_append_left _ (List.mem_of_getElem? (i := 87) rfl)
set_option maxRecDepth 20000 in
theorem tw_1024 : (Cond.methodLink RX12 292 yX12_enters) ∈ lw_tbl := tm_6 _ (List.mem_of_getElem? (i := 139) rfl)
set_option maxRecDepth 20000 in
theorem tw_1025 : (Cond.instanceMethod yX12_enters) ∈ lw_tbl := tm_6 _ (List.mem_of_getElem? (i := 141) rfl)
set_option maxRecDepth 20000 in
theorem tw_1026 : (Cond.selects RX12 yX12_enters yX12_enters) ∈ lw_tbl := List.mem_append_left _ (List.mem_of_getElem? (i := 85) rfl)
set_option maxRecDepth 20000 in
theorem tw_1027 : (Cond.code yX12_callStack cX12_callStack 3 none) ∈ lw_tbl := tm_6 _ (List.mem_of_getElem? (i := 158) rfl)
set_option maxRecDepth 20000 in
theorem tw_1028 : (Cond.code yX12_isCell cX12_isCell 1 (some .boolean)) ∈ lw_tbl := tm_6 _ (List.mem_of_getElem? (i := 173) rfl)
set_option maxRecDepth 20000 in
theorem tw_1029 : (Cond.code yX12_readStack cX12_readStack 2 none) ∈ lw_tbl := tm_6 _ (List.mem_of_getElem? (i := 170) rfl)
set_option maxRecDepth 20000 in
theorem tw_1030 : (Cond.methodLink RX12 317 yX12_isCell) ∈ lw_tbl := tm_6 _ (List.mem_of_getElem? (i := 171) rfl)
set_option maxRecDepth 20000 in
theorem tw_1031 : (Cond.static yX12_isCell) ∈ lw_tbl := tm_6 _ (List.mem_of_getElem? (i := 172) rfl)
set_option maxRecDepth 20000 in
theorem tw_1032 : (Cond.code yX12_writeStack cX12_writeStack 3 none) ∈ lw_tbl := tm_6 _ (List.mem_of_getElem? (i := 177) rfl)
set_option maxRecDepth 20000 in
theorem tw_1033 : (Cond.code yX12_workStack cX12_workStack 4 none) ∈ lw_tbl := tm_6 _ (List.mem_of_getElem? (i := 181) rfl)
set_option maxRecDepth 20000 in
theorem tw_1034 : (Cond.methodLink RX12 320 yX12_works) ∈ lw_tbl := tm_6 _ (List.mem_of_getElem? (i := 182) rfl)
set_option maxRecDepth 20000 in
theorem tw_1035 : (Cond.instanceMethod yX12_works) ∈ lw_tbl := tm_6 _ (List.mem_of_getElem? (i := 184) rfl)
set_option maxRecDepth 20000 in
theorem tw_1036 : (Cond.selects RX12 yX12_works yX12_works) ∈ lw_tbl := List.mem_append_left _ (List.mem_of_getElem? (i := 95) rfl)
set_option maxRecDepth 20000 in
theorem tw_1037 : (Cond.methodLink RX12 299 yX12_swapTop) ∈ lw_tbl := tm_6 _ (List.mem_of_getElem? (i := 151) rfl)
set_option maxRecDepth 20000 in
theorem tw_1038 : (Cond.instanceMethod yX12_swapTop) ∈ lw_tbl := tm_6 _ (List.mem_of_getElem? (i := 153) rfl)
set_option maxRecDepth 20000 in
theorem tw_1039 : (Cond.selects RX12 yX12_swapTop yX12_swapTop) ∈ lw_tbl := List.mem_append_left _ (List.mem_of_getElem? (i := 88) rfl)
set_option maxRecDepth 20000 in
theorem tw_1040 : (Cond.methodLink RX12 302 yX12_callStack) ∈ lw_tbl := tm_6 _ (List.mem_of_getElem? (i := 155) rfl)
set_option maxRecDepth 20000 in
theorem tw_1041 : (Cond.instanceMethod yX12_callStack) ∈ lw_tbl := tm_6 _ (List.mem_of_getElem? (i := 157) rfl)
set_option maxRecDepth 20000 in
theorem tw_1042 : (Cond.selects RX12 yX12_callStack yX12_callStack) ∈ lw_tbl := List.mem_append_left _ (List.mem_of_getElem? (i := 89) rfl)
set_option maxRecDepth 20000 in
theorem tw_1043 : (Cond.methodLink RX12 305 yX12_over) ∈ lw_tbl := tm_6 _ (List.mem_of_getElem? (i := 163) rfl)
set_option maxRecDepth 20000 in
theorem tw_1044 : (Cond.instanceMethod yX12_over) ∈ lw_tbl := tm_6 _ (List.mem_of_getElem? (i := 165) rfl)
set_option maxRecDepth 20000 in
theorem tw_1045 : (Cond.selects RX12 yX12_over yX12_over) ∈ lw_tbl := List.mem_append_left _ (List.mem_of_getElem? (i := 91) rfl)
set_option maxRecDepth 20000 in
theorem tw_1046 : (Cond.methodLink RX12 308 yX12_readStack) ∈ lw_tbl := tm_6 _ (List.mem_of_getElem? (i := 167) rfl)
set_option maxRecDepth 20000 in
theorem tw_1047 : (Cond.instanceMethod yX12_readStack) ∈ lw_tbl := tm_6 _ (List.mem_of_getElem? (i := 169) rfl)
set_option maxRecDepth 20000 in
theorem tw_1048 : (Cond.selects RX12 yX12_readStack yX12_readStack) ∈ lw_tbl := List.mem_append_left _ (List.mem_of_getElem? (i := 92) rfl)
set_option maxRecDepth 20000 in
theorem tw_1049 : (Cond.methodLink RX12 311 yX12_writeStack) ∈ lw_tbl := tm_6 _ (List.mem_of_getElem? (i := 174) rfl)
set_option maxRecDepth 20000 in
theorem tw_1050 : (Cond.instanceMethod yX12_writeStack) ∈ lw_tbl := tm_6 _ (List.mem_of_getElem? (i := 176) rfl)
set_option maxRecDepth 20000 in
theorem tw_1051 : (Cond.selects RX12 yX12_writeStack yX12_writeStack) ∈ lw_tbl := List.mem_append_left _ (List.mem_of_getElem? (i := 93) rfl)
set_option maxRecDepth 20000 in
theorem tw_1052 : (Cond.methodLink RX12 314 yX12_workStack) ∈ lw_tbl := tm_6 _ (List.mem_of_getElem? (i := 178) rfl)
set_option maxRecDepth 20000 in
theorem tw_1053 : (Cond.instanceMethod yX12_workStack) ∈ lw_tbl := tm_6 _ (List.mem_of_getElem? (i := 180) rfl)
set_option maxRecDepth 20000 in
theorem tw_1054 : (Cond.selects RX12 yX12_workStack yX12_workStack) ∈ lw_tbl := List.mem_append_left _ (List.mem_of_getElem? (i := 94) rfl)
set_option maxRecDepth 20000 in
theorem tw_1055 : (Cond.code yX12_stepStack cX12_stepStack 4 none) ∈ lw_tbl := tm_6 _ (List.mem_of_getElem? (i := 138) rfl)
set_option maxRecDepth 20000 in
theorem tw_1056 : (Cond.code yX12_stepCall cX12_stepCall 6 none) ∈ lw_tbl := tm_6 _ (List.mem_of_getElem? (i := 193) rfl)
set_option maxRecDepth 20000 in
theorem tw_1057 : (Cond.methodLink RX12 323 yX12_stepCall) ∈ lw_tbl := tm_6 _ (List.mem_of_getElem? (i := 190) rfl)
set_option maxRecDepth 20000 in
theorem tw_1058 : (Cond.instanceMethod yX12_stepCall) ∈ lw_tbl := tm_6 _ (List.mem_of_getElem? (i := 192) rfl)
set_option maxRecDepth 20000 in
theorem tw_1059 : (Cond.selects RX12 yX12_stepCall yX12_stepCall) ∈ lw_tbl := List.mem_append_left _ (List.mem_of_getElem? (i := 97) rfl)
set_option maxRecDepth 20000 in
theorem tw_1060 : (Cond.code yX12_stepRegisters cX12_stepRegisters 8 none) ∈ lw_tbl := tm_6 _ (List.mem_of_getElem? (i := 189) rfl)
set_option maxRecDepth 20000 in
theorem tw_1061 : (Cond.methodLink RX12 326 yX12_stepStack) ∈ lw_tbl := tm_6 _ (List.mem_of_getElem? (i := 135) rfl)
set_option maxRecDepth 20000 in
theorem tw_1062 : (Cond.instanceMethod yX12_stepStack) ∈ lw_tbl := tm_6 _ (List.mem_of_getElem? (i := 137) rfl)
set_option maxRecDepth 20000 in
theorem tw_1063 : (Cond.selects RX12 yX12_stepStack yX12_stepStack) ∈ lw_tbl := List.mem_append_left _ (List.mem_of_getElem? (i := 84) rfl)
set_option maxRecDepth 20000 in
theorem tw_1064 : (Cond.methodLink RX12 329 yX12_stepRegisters) ∈ lw_tbl := tm_6 _ (List.mem_of_getElem? (i := 186) rfl)
set_option maxRecDepth 20000 in
theorem tw_1065 : (Cond.instanceMethod yX12_stepRegisters) ∈ lw_tbl := tm_6 _ (List.mem_of_getElem? (i := 188) rfl)
set_option maxRecDepth 20000 in
theorem tw_1066 : (Cond.selects RX12 yX12_stepRegisters yX12_stepRegisters) ∈ lw_tbl := List.mem_append_left _ (List.mem_of_getElem? (i := 96) rfl)
set_option maxRecDepth 20000 in
theorem tw_1067 : (Cond.code yX12_run cX12_run 4 (some .int)) ∈ lw_tbl := tm_6 _ (List.mem_of_getElem? (i := 134) rfl)
set_option maxRecDepth 20000 in
theorem tw_1068 : (Cond.methodLink RX12 332 yX12_run) ∈ lw_tbl := tm_6 _ (List.mem_of_getElem? (i := 131) rfl)
set_option maxRecDepth 20000 in
theorem tw_1069 : (Cond.instanceMethod yX12_run) ∈ lw_tbl := tm_6 _ (List.mem_of_getElem? (i := 133) rfl)
set_option maxRecDepth 20000 in
theorem tw_1070 : (Cond.selects RX12 yX12_run yX12_run) ∈ lw_tbl := List.mem_append_left _ (List.mem_of_getElem? (i := 83) rfl)
set_option maxRecDepth 20000 in
theorem tw_1071 : (Cond.code yX12_runStack cX12_runStack 2 (some .int)) ∈ lw_tbl := tm_6 _ (List.mem_of_getElem? (i := 130) rfl)
set_option maxRecDepth 20000 in
theorem tw_1072 : (Cond.code yX12_runRegisters cX12_runRegisters 2 (some .int)) ∈ lw_tbl := tm_6 _ (List.mem_of_getElem? (i := 197) rfl)
set_option maxRecDepth 20000 in
theorem tw_1073 : (Cond.code yX12_again cX12_again 1 (some .boolean)) ∈ lw_tbl := tm_6 _ (List.mem_of_getElem? (i := 201) rfl)
set_option maxRecDepth 20000 in
theorem tw_1074 : (Cond.code yX12_cell cX12_cell 3 (some .boolean)) ∈ lw_tbl := tm_6 _ (List.mem_of_getElem? (i := 205) rfl)
set_option maxRecDepth 20000 in
theorem tw_1075 : (Cond.code yX12_clear cX12_clear 2 none) ∈ lw_tbl := tm_6 _ (List.mem_of_getElem? (i := 209) rfl)
set_option maxRecDepth 20000 in
theorem tw_1076 : (Cond.code yX12_op cX12_op 4 (some .int)) ∈ lw_tbl := tm_6 _ (List.mem_of_getElem? (i := 213) rfl)
set_option maxRecDepth 20000 in
theorem tw_1077 : (Cond.code yX12_isFunc cX12_isFunc 2 (some .boolean)) ∈ lw_tbl := tm_6 _ (List.mem_of_getElem? (i := 221) rfl)
set_option maxRecDepth 20000 in
theorem tw_1078 : (Cond.code yX12_size cX12_size 2 (some .int)) ∈ lw_tbl := tm_6 _ (List.mem_of_getElem? (i := 217) rfl)
set_option maxRecDepth 20000 in
theorem tw_1079 : (Cond.methodLink RX12 335 yX12_isFunc) ∈ lw_tbl := tm_6 _ (List.mem_of_getElem? (i := 218) rfl)
set_option maxRecDepth 20000 in
theorem tw_1080 : (Cond.instanceMethod yX12_isFunc) ∈ lw_tbl := tm_6 _ (List.mem_of_getElem? (i := 220) rfl)
set_option maxRecDepth 20000 in
theorem tw_1081 : (Cond.selects RX12 yX12_isFunc yX12_isFunc) ∈ lw_tbl := List.mem_append_left _ (List.mem_of_getElem? (i := 98) rfl)
set_option maxRecDepth 20000 in
theorem tw_1082 : (Cond.code yX12_value cX12_value 5 (some .int)) ∈ lw_tbl := tm_6 _ (List.mem_of_getElem? (i := 225) rfl)
set_option maxRecDepth 20000 in
theorem tw_1083 : (Cond.code yX12_slots cX12_slots 2 (some .int)) ∈ lw_tbl := tm_6 _ (List.mem_of_getElem? (i := 229) rfl)
set_option maxRecDepth 20000 in
theorem tw_1084 : (Cond.code yX12_places cX12_places 2 (some .int)) ∈ lw_tbl := tm_6 _ (List.mem_of_getElem? (i := 233) rfl)
set_option maxRecDepth 20000 in
theorem tw_1085 : (Cond.code yX12_look cX12_look 3 (some .int)) ∈ lw_tbl := tm_6 _ (List.mem_of_getElem? (i := 237) rfl)
set_option maxRecDepth 20000 in
theorem tw_1086 : (Cond.code yX12_peek cX12_peek 3 (some .int)) ∈ lw_tbl := tm_7 _ (List.mem_of_getElem? (i := 1) rfl)
set_option maxRecDepth 20000 in
theorem tw_1087 : (Cond.code yX12_count cX12_count 2 (some .int)) ∈ lw_tbl := tm_7 _ (List.mem_of_getElem? (i := 5) rfl)
set_option maxRecDepth 20000 in
theorem tw_1088 : (Cond.code yJ9_max_7cf53 cJ9_max_7cf53 2 (some .int)) ∈ lw_tbl := tm_3 _ (List.mem_of_getElem? (i := 139) rfl)
set_option maxRecDepth 20000 in
theorem tw_1089 : (Cond.code yJ9_min_7cf53 cJ9_min_7cf53 2 (some .int)) ∈ lw_tbl := tm_2 _ (List.mem_of_getElem? (i := 207) rfl)
set_option maxRecDepth 20000 in
theorem tw_1090 : (Cond.classLink RL 13 "java/util/NoSuchElementException") ∈ lw_tbl := tm_4 _ (List.mem_of_getElem? (i := 201) rfl)
set_option maxRecDepth 20000 in
theorem tw_1091 : (Cond.methodLink RL 7 yX11_op) ∈ lw_tbl := tm_4 _ (List.mem_of_getElem? (i := 202) rfl)
set_option maxRecDepth 20000 in
theorem tw_1092 : (Cond.instanceMethod yX11_op) ∈ lw_tbl := tm_4 _ (List.mem_of_getElem? (i := 203) rfl)
set_option maxRecDepth 20000 in
theorem tw_1093 : (Cond.selects RX11 yX11_op yX11_op) ∈ lw_tbl := tm_4 _ (List.mem_of_getElem? (i := 204) rfl)
set_option maxRecDepth 20000 in
theorem tw_1094 : (Cond.methodLink RL 15 yX11_peek) ∈ lw_tbl := tm_5 _ (List.mem_of_getElem? (i := 37) rfl)
set_option maxRecDepth 20000 in
theorem tw_1095 : (Cond.instanceMethod yX11_peek) ∈ lw_tbl := tm_5 _ (List.mem_of_getElem? (i := 38) rfl)
set_option maxRecDepth 20000 in
theorem tw_1096 : (Cond.selects RX11 yX11_peek yX11_peek) ∈ lw_tbl := tm_5 _ (List.mem_of_getElem? (i := 39) rfl)
set_option maxRecDepth 20000 in
theorem tw_1097 : (Cond.classLink RL 8 RX11) ∈ lw_tbl := tm_1 _ (List.mem_of_getElem? (i := 21) rfl)
set_option maxRecDepth 20000 in
theorem tw_1098 : (Cond.instantiable RX11 5) ∈ lw_tbl := tm_1 _ (List.mem_of_getElem? (i := 22) rfl)
set_option maxRecDepth 20000 in
theorem tw_1099 : (Cond.classLink RL 20 RX12) ∈ lw_tbl := tm_5 _ (List.mem_of_getElem? (i := 42) rfl)
set_option maxRecDepth 20000 in
theorem tw_1100 : (Cond.instantiable RX12 52) ∈ lw_tbl := tm_5 _ (List.mem_of_getElem? (i := 43) rfl)
set_option maxRecDepth 20000 in
theorem tw_1101 : (Cond.arrayClass .long) ∈ lw_tbl := tm_7 _ (List.mem_of_getElem? (i := 6) rfl)
set_option maxRecDepth 20000 in
theorem tw_1102 : (Cond.methodLink RL 19 yX11_init) ∈ lw_tbl := tm_1 _ (List.mem_of_getElem? (i := 23) rfl)
set_option maxRecDepth 20000 in
theorem tw_1103 : (Cond.instanceMethod yX11_init) ∈ lw_tbl := tm_1 _ (List.mem_of_getElem? (i := 24) rfl)
set_option maxRecDepth 20000 in
theorem tw_1104 : (Cond.methodLink RL 22 yX12_init) ∈ lw_tbl := tm_5 _ (List.mem_of_getElem? (i := 44) rfl)
set_option maxRecDepth 20000 in
theorem tw_1105 : (Cond.instanceMethod yX12_init) ∈ lw_tbl := tm_5 _ (List.mem_of_getElem? (i := 45) rfl)
set_option maxRecDepth 20000 in
theorem tw_1106 : (Cond.methodLink RL 23 yX11_func) ∈ lw_tbl := tm_2 _ (List.mem_of_getElem? (i := 149) rfl)
set_option maxRecDepth 20000 in
theorem tw_1107 : (Cond.instanceMethod yX11_func) ∈ lw_tbl := tm_2 _ (List.mem_of_getElem? (i := 150) rfl)
set_option maxRecDepth 20000 in
theorem tw_1108 : (Cond.selects RX11 yX11_func yX11_func) ∈ lw_tbl := tm_2 _ (List.mem_of_getElem? (i := 151) rfl)
set_option maxRecDepth 20000 in
theorem tw_1109 : (Cond.methodLink RL 26 yX12_func) ∈ lw_tbl := tm_5 _ (List.mem_of_getElem? (i := 205) rfl)
set_option maxRecDepth 20000 in
theorem tw_1110 : (Cond.instanceMethod yX12_func) ∈ lw_tbl := tm_5 _ (List.mem_of_getElem? (i := 206) rfl)
set_option maxRecDepth 20000 in
theorem tw_1111 : (Cond.selects RX12 yX12_func yX12_func) ∈ lw_tbl := tm_5 _ (List.mem_of_getElem? (i := 207) rfl)
set_option maxRecDepth 20000 in
theorem tw_1112 : (Cond.methodLink RL 27 yX11_word) ∈ lw_tbl := tm_2 _ (List.mem_of_getElem? (i := 157) rfl)
set_option maxRecDepth 20000 in
theorem tw_1113 : (Cond.instanceMethod yX11_word) ∈ lw_tbl := tm_2 _ (List.mem_of_getElem? (i := 158) rfl)
set_option maxRecDepth 20000 in
theorem tw_1114 : (Cond.selects RX11 yX11_word yX11_word) ∈ lw_tbl := tm_2 _ (List.mem_of_getElem? (i := 159) rfl)
set_option maxRecDepth 20000 in
theorem tw_1115 : (Cond.methodLink RL 30 yX12_word) ∈ lw_tbl := tm_5 _ (List.mem_of_getElem? (i := 209) rfl)
set_option maxRecDepth 20000 in
theorem tw_1116 : (Cond.instanceMethod yX12_word) ∈ lw_tbl := tm_5 _ (List.mem_of_getElem? (i := 210) rfl)
set_option maxRecDepth 20000 in
theorem tw_1117 : (Cond.selects RX12 yX12_word yX12_word) ∈ lw_tbl := tm_5 _ (List.mem_of_getElem? (i := 211) rfl)
set_option maxRecDepth 20000 in
theorem tw_1118 : (Cond.methodLink RL 31 yX11_check) ∈ lw_tbl := tm_2 _ (List.mem_of_getElem? (i := 165) rfl)
set_option maxRecDepth 20000 in
theorem tw_1119 : (Cond.instanceMethod yX11_check) ∈ lw_tbl := tm_2 _ (List.mem_of_getElem? (i := 166) rfl)
set_option maxRecDepth 20000 in
theorem tw_1120 : (Cond.selects RX11 yX11_check yX11_check) ∈ lw_tbl := tm_2 _ (List.mem_of_getElem? (i := 167) rfl)
set_option maxRecDepth 20000 in
theorem tw_1121 : (Cond.methodLink RL 35 yX12_check) ∈ lw_tbl := tm_5 _ (List.mem_of_getElem? (i := 213) rfl)
set_option maxRecDepth 20000 in
theorem tw_1122 : (Cond.instanceMethod yX12_check) ∈ lw_tbl := tm_5 _ (List.mem_of_getElem? (i := 214) rfl)
set_option maxRecDepth 20000 in
theorem tw_1123 : (Cond.selects RX12 yX12_check yX12_check) ∈ lw_tbl := tm_5 _ (List.mem_of_getElem? (i := 215) rfl)
set_option maxRecDepth 20000 in
theorem tw_1124 : (Cond.methodLink RL 36 yX11_depth) ∈ lw_tbl := tm_2 _ (List.mem_of_getElem? (i := 208) rfl)
set_option maxRecDepth 20000 in
theorem tw_1125 : (Cond.instanceMethod yX11_depth) ∈ lw_tbl := tm_2 _ (List.mem_of_getElem? (i := 209) rfl)
set_option maxRecDepth 20000 in
theorem tw_1126 : (Cond.selects RX11 yX11_depth yX11_depth) ∈ lw_tbl := tm_2 _ (List.mem_of_getElem? (i := 210) rfl)
set_option maxRecDepth 20000 in
theorem tw_1127 : (Cond.methodLink RL 39 yX12_depth) ∈ lw_tbl := tm_6 _ (List.mem_of_getElem? (i := 5) rfl)
set_option maxRecDepth 20000 in
theorem tw_1128 : (Cond.instanceMethod yX12_depth) ∈ lw_tbl := tm_6 _ (List.mem_of_getElem? (i := 6) rfl)
set_option maxRecDepth 20000 in
theorem tw_1129 : (Cond.selects RX12 yX12_depth yX12_depth) ∈ lw_tbl := tm_6 _ (List.mem_of_getElem? (i := 7) rfl)
set_option maxRecDepth 20000 in
theorem tw_1130 : (Cond.methodLink RL 40 yX11_clear) ∈ lw_tbl := tm_2 _ (List.mem_of_getElem? (i := 213) rfl)
set_option maxRecDepth 20000 in
theorem tw_1131 : (Cond.instanceMethod yX11_clear) ∈ lw_tbl := tm_2 _ (List.mem_of_getElem? (i := 214) rfl)
set_option maxRecDepth 20000 in
theorem tw_1132 : (Cond.selects RX11 yX11_clear yX11_clear) ∈ lw_tbl := tm_2 _ (List.mem_of_getElem? (i := 215) rfl)
set_option maxRecDepth 20000 in
theorem tw_1133 : (Cond.methodLink RL 43 yX12_clear) ∈ lw_tbl := tm_6 _ (List.mem_of_getElem? (i := 206) rfl)
set_option maxRecDepth 20000 in
theorem tw_1134 : (Cond.instanceMethod yX12_clear) ∈ lw_tbl := tm_6 _ (List.mem_of_getElem? (i := 207) rfl)
set_option maxRecDepth 20000 in
theorem tw_1135 : (Cond.selects RX12 yX12_clear yX12_clear) ∈ lw_tbl := tm_6 _ (List.mem_of_getElem? (i := 208) rfl)
set_option maxRecDepth 20000 in
theorem tw_1136 : (Cond.methodLink RL 44 yX11_turn) ∈ lw_tbl := tm_3 _ (List.mem_of_getElem? (i := 1) rfl)
set_option maxRecDepth 20000 in
theorem tw_1137 : (Cond.instanceMethod yX11_turn) ∈ lw_tbl := tm_3 _ (List.mem_of_getElem? (i := 2) rfl)
set_option maxRecDepth 20000 in
theorem tw_1138 : (Cond.selects RX11 yX11_turn yX11_turn) ∈ lw_tbl := tm_3 _ (List.mem_of_getElem? (i := 3) rfl)
set_option maxRecDepth 20000 in
theorem tw_1139 : (Cond.methodLink RL 48 yX12_turn) ∈ lw_tbl := tm_6 _ (List.mem_of_getElem? (i := 9) rfl)
set_option maxRecDepth 20000 in
theorem tw_1140 : (Cond.instanceMethod yX12_turn) ∈ lw_tbl := tm_6 _ (List.mem_of_getElem? (i := 10) rfl)
set_option maxRecDepth 20000 in
theorem tw_1141 : (Cond.selects RX12 yX12_turn yX12_turn) ∈ lw_tbl := tm_6 _ (List.mem_of_getElem? (i := 11) rfl)
set_option maxRecDepth 20000 in
theorem tw_1142 : (Cond.methodLink RL 49 yL_op) ∈ lw_tbl := tm_4 _ (List.mem_of_getElem? (i := 198) rfl)
set_option maxRecDepth 20000 in
theorem tw_1143 : (Cond.static yL_op) ∈ lw_tbl := tm_4 _ (List.mem_of_getElem? (i := 199) rfl)
set_option maxRecDepth 20000 in
theorem tw_1144 : (Cond.initialized RL) ∈ lw_tbl := tm_1 _ (List.mem_of_getElem? (i := 0) rfl)
set_option maxRecDepth 20000 in
theorem tw_1145 : (Cond.methodLink RL 54 yX12_op) ∈ lw_tbl := tm_6 _ (List.mem_of_getElem? (i := 210) rfl)
set_option maxRecDepth 20000 in
theorem tw_1146 : (Cond.instanceMethod yX12_op) ∈ lw_tbl := tm_6 _ (List.mem_of_getElem? (i := 211) rfl)
set_option maxRecDepth 20000 in
theorem tw_1147 : (Cond.selects RX12 yX12_op yX12_op) ∈ lw_tbl := tm_6 _ (List.mem_of_getElem? (i := 212) rfl)
set_option maxRecDepth 20000 in
theorem tw_1148 : (Cond.methodLink RL 55 yX11_size) ∈ lw_tbl := tm_3 _ (List.mem_of_getElem? (i := 231) rfl)
set_option maxRecDepth 20000 in
theorem tw_1149 : (Cond.instanceMethod yX11_size) ∈ lw_tbl := tm_3 _ (List.mem_of_getElem? (i := 232) rfl)
set_option maxRecDepth 20000 in
theorem tw_1150 : (Cond.selects RX11 yX11_size yX11_size) ∈ lw_tbl := tm_3 _ (List.mem_of_getElem? (i := 233) rfl)
set_option maxRecDepth 20000 in
theorem tw_1151 : (Cond.methodLink RL 58 yX12_size) ∈ lw_tbl := tm_6 _ (List.mem_of_getElem? (i := 214) rfl)
set_option maxRecDepth 20000 in
theorem tw_1152 : (Cond.instanceMethod yX12_size) ∈ lw_tbl := tm_6 _ (List.mem_of_getElem? (i := 215) rfl)
set_option maxRecDepth 20000 in
theorem tw_1153 : (Cond.selects RX12 yX12_size yX12_size) ∈ lw_tbl := tm_6 _ (List.mem_of_getElem? (i := 216) rfl)
set_option maxRecDepth 20000 in
theorem tw_1154 : (Cond.methodLink RL 59 yX11_value) ∈ lw_tbl := tm_3 _ (List.mem_of_getElem? (i := 239) rfl)
set_option maxRecDepth 20000 in
theorem tw_1155 : (Cond.instanceMethod yX11_value) ∈ lw_tbl := tm_4 _ (List.mem_of_getElem? (i := 0) rfl)
set_option maxRecDepth 20000 in
theorem tw_1156 : (Cond.selects RX11 yX11_value yX11_value) ∈ lw_tbl := tm_4 _ (List.mem_of_getElem? (i := 1) rfl)
set_option maxRecDepth 20000 in
theorem tw_1157 : (Cond.methodLink RL 62 yX12_value) ∈ lw_tbl := tm_6 _ (List.mem_of_getElem? (i := 222) rfl)
set_option maxRecDepth 20000 in
theorem tw_1158 : (Cond.instanceMethod yX12_value) ∈ lw_tbl := tm_6 _ (List.mem_of_getElem? (i := 223) rfl)
set_option maxRecDepth 20000 in
theorem tw_1159 : (Cond.selects RX12 yX12_value yX12_value) ∈ lw_tbl := tm_6 _ (List.mem_of_getElem? (i := 224) rfl)
set_option maxRecDepth 20000 in
theorem tw_1160 : (Cond.methodLink RL 63 yX11_slots) ∈ lw_tbl := tm_4 _ (List.mem_of_getElem? (i := 7) rfl)
set_option maxRecDepth 20000 in
theorem tw_1161 : (Cond.instanceMethod yX11_slots) ∈ lw_tbl := tm_4 _ (List.mem_of_getElem? (i := 8) rfl)
set_option maxRecDepth 20000 in
theorem tw_1162 : (Cond.selects RX11 yX11_slots yX11_slots) ∈ lw_tbl := tm_4 _ (List.mem_of_getElem? (i := 9) rfl)
set_option maxRecDepth 20000 in
theorem tw_1163 : (Cond.methodLink RL 66 yX12_slots) ∈ lw_tbl := tm_6 _ (List.mem_of_getElem? (i := 226) rfl)
set_option maxRecDepth 20000 in
theorem tw_1164 : (Cond.instanceMethod yX12_slots) ∈ lw_tbl := tm_6 _ (List.mem_of_getElem? (i := 227) rfl)
set_option maxRecDepth 20000 in
theorem tw_1165 : (Cond.selects RX12 yX12_slots yX12_slots) ∈ lw_tbl := tm_6 _ (List.mem_of_getElem? (i := 228) rfl)
set_option maxRecDepth 20000 in
theorem tw_1166 : (Cond.methodLink RL 67 yX11_places) ∈ lw_tbl := tm_4 _ (List.mem_of_getElem? (i := 11) rfl)
set_option maxRecDepth 20000 in
theorem tw_1167 : (Cond.instanceMethod yX11_places) ∈ lw_tbl := tm_4 _ (List.mem_of_getElem? (i := 12) rfl)
set_option maxRecDepth 20000 in
theorem tw_1168 : (Cond.selects RX11 yX11_places yX11_places) ∈ lw_tbl := tm_4 _ (List.mem_of_getElem? (i := 13) rfl)
set_option maxRecDepth 20000 in
theorem tw_1169 : (Cond.methodLink RL 70 yX12_places) ∈ lw_tbl := tm_6 _ (List.mem_of_getElem? (i := 230) rfl)
set_option maxRecDepth 20000 in
theorem tw_1170 : (Cond.instanceMethod yX12_places) ∈ lw_tbl := tm_6 _ (List.mem_of_getElem? (i := 231) rfl)
set_option maxRecDepth 20000 in
theorem tw_1171 : (Cond.selects RX12 yX12_places yX12_places) ∈ lw_tbl := tm_6 _ (List.mem_of_getElem? (i := 232) rfl)
set_option maxRecDepth 20000 in
theorem tw_1172 : (Cond.methodLink RL 71 yX11_cell) ∈ lw_tbl := tm_4 _ (List.mem_of_getElem? (i := 15) rfl)
set_option maxRecDepth 20000 in
theorem tw_1173 : (Cond.instanceMethod yX11_cell) ∈ lw_tbl := tm_4 _ (List.mem_of_getElem? (i := 16) rfl)
set_option maxRecDepth 20000 in
theorem tw_1174 : (Cond.selects RX11 yX11_cell yX11_cell) ∈ lw_tbl := tm_4 _ (List.mem_of_getElem? (i := 17) rfl)
set_option maxRecDepth 20000 in
theorem tw_1175 : (Cond.methodLink RL 75 yX12_cell) ∈ lw_tbl := tm_6 _ (List.mem_of_getElem? (i := 202) rfl)
set_option maxRecDepth 20000 in
theorem tw_1176 : (Cond.instanceMethod yX12_cell) ∈ lw_tbl := tm_6 _ (List.mem_of_getElem? (i := 203) rfl)
set_option maxRecDepth 20000 in
theorem tw_1177 : (Cond.selects RX12 yX12_cell yX12_cell) ∈ lw_tbl := tm_6 _ (List.mem_of_getElem? (i := 204) rfl)
set_option maxRecDepth 20000 in
theorem tw_1178 : (Cond.methodLink RL 76 yX11_again) ∈ lw_tbl := tm_4 _ (List.mem_of_getElem? (i := 19) rfl)
set_option maxRecDepth 20000 in
theorem tw_1179 : (Cond.instanceMethod yX11_again) ∈ lw_tbl := tm_4 _ (List.mem_of_getElem? (i := 20) rfl)
set_option maxRecDepth 20000 in
theorem tw_1180 : (Cond.selects RX11 yX11_again yX11_again) ∈ lw_tbl := tm_4 _ (List.mem_of_getElem? (i := 21) rfl)
set_option maxRecDepth 20000 in
theorem tw_1181 : (Cond.methodLink RL 80 yX12_again) ∈ lw_tbl := tm_6 _ (List.mem_of_getElem? (i := 198) rfl)
set_option maxRecDepth 20000 in
theorem tw_1182 : (Cond.instanceMethod yX12_again) ∈ lw_tbl := tm_6 _ (List.mem_of_getElem? (i := 199) rfl)
set_option maxRecDepth 20000 in
theorem tw_1183 : (Cond.selects RX12 yX12_again yX12_again) ∈ lw_tbl := tm_6 _ (List.mem_of_getElem? (i := 200) rfl)
set_option maxRecDepth 20000 in
theorem tw_1184 : (Cond.methodLink RL 81 yX11_runStack) ∈ lw_tbl := tm_4 _ (List.mem_of_getElem? (i := 23) rfl)
set_option maxRecDepth 20000 in
theorem tw_1185 : (Cond.instanceMethod yX11_runStack) ∈ lw_tbl := tm_4 _ (List.mem_of_getElem? (i := 24) rfl)
set_option maxRecDepth 20000 in
theorem tw_1186 : (Cond.selects RX11 yX11_runStack yX11_runStack) ∈ lw_tbl := tm_4 _ (List.mem_of_getElem? (i := 25) rfl)
set_option maxRecDepth 20000 in
theorem tw_1187 : (Cond.methodLink RL 84 yX12_runStack) ∈ lw_tbl := tm_6 _ (List.mem_of_getElem? (i := 127) rfl)
set_option maxRecDepth 20000 in
theorem tw_1188 : (Cond.instanceMethod yX12_runStack) ∈ lw_tbl := tm_6 _ (List.mem_of_getElem? (i := 128) rfl)
set_option maxRecDepth 20000 in
theorem tw_1189 : (Cond.selects RX12 yX12_runStack yX12_runStack) ∈ lw_tbl := tm_6 _ (List.mem_of_getElem? (i := 129) rfl)
set_option maxRecDepth 20000 in
theorem tw_1190 : (Cond.methodLink RL 85 yX11_runRegisters) ∈ lw_tbl := tm_4 _ (List.mem_of_getElem? (i := 176) rfl)
set_option maxRecDepth 20000 in
theorem tw_1191 : (Cond.instanceMethod yX11_runRegisters) ∈ lw_tbl := tm_4 _ (List.mem_of_getElem? (i := 177) rfl)
set_option maxRecDepth 20000 in
theorem tw_1192 : (Cond.selects RX11 yX11_runRegisters yX11_runRegisters) ∈ lw_tbl := tm_4 _ (List.mem_of_getElem? (i := 178) rfl)
set_option maxRecDepth 20000 in
theorem tw_1193 : (Cond.methodLink RL 88 yX12_runRegisters) ∈ lw_tbl := tm_6 _ (List.mem_of_getElem? (i := 194) rfl)
set_option maxRecDepth 20000 in
theorem tw_1194 : (Cond.instanceMethod yX12_runRegisters) ∈ lw_tbl := tm_6 _ (List.mem_of_getElem? (i := 195) rfl)
set_option maxRecDepth 20000 in
theorem tw_1195 : (Cond.selects RX12 yX12_runRegisters yX12_runRegisters) ∈ lw_tbl := tm_6 _ (List.mem_of_getElem? (i := 196) rfl)
set_option maxRecDepth 20000 in
theorem tw_1196 : (Cond.methodLink RL 89 yX11_look) ∈ lw_tbl := tm_4 _ (List.mem_of_getElem? (i := 180) rfl)
set_option maxRecDepth 20000 in
theorem tw_1197 : (Cond.instanceMethod yX11_look) ∈ lw_tbl := tm_4 _ (List.mem_of_getElem? (i := 181) rfl)
set_option maxRecDepth 20000 in
theorem tw_1198 : (Cond.selects RX11 yX11_look yX11_look) ∈ lw_tbl := tm_4 _ (List.mem_of_getElem? (i := 182) rfl)
set_option maxRecDepth 20000 in
theorem tw_1199 : (Cond.methodLink RL 92 yX12_look) ∈ lw_tbl := tm_6 _ (List.mem_of_getElem? (i := 234) rfl)
set_option maxRecDepth 20000 in
theorem tw_1200 : (Cond.instanceMethod yX12_look) ∈ lw_tbl := tm_6 _ (List.mem_of_getElem? (i := 235) rfl)
set_option maxRecDepth 20000 in
theorem tw_1201 : (Cond.selects RX12 yX12_look yX12_look) ∈ lw_tbl := tm_6 _ (List.mem_of_getElem? (i := 236) rfl)
set_option maxRecDepth 20000 in
theorem tw_1202 : (Cond.methodLink RL 93 yL_peek) ∈ lw_tbl := tm_5 _ (List.mem_of_getElem? (i := 34) rfl)
set_option maxRecDepth 20000 in
theorem tw_1203 : (Cond.static yL_peek) ∈ lw_tbl := tm_5 _ (List.mem_of_getElem? (i := 35) rfl)
set_option maxRecDepth 20000 in
theorem tw_1204 : (Cond.methodLink RL 96 yX12_peek) ∈ lw_tbl := tm_6 _ (List.mem_of_getElem? (i := 238) rfl)
set_option maxRecDepth 20000 in
theorem tw_1205 : (Cond.instanceMethod yX12_peek) ∈ lw_tbl := tm_6 _ (List.mem_of_getElem? (i := 239) rfl)
set_option maxRecDepth 20000 in
theorem tw_1206 : (Cond.selects RX12 yX12_peek yX12_peek) ∈ lw_tbl := tm_7 _ (List.mem_of_getElem? (i := 0) rfl)
set_option maxRecDepth 20000 in
theorem tw_1207 : (Cond.methodLink RL 97 yX11_count) ∈ lw_tbl := tm_4 _ (List.mem_of_getElem? (i := 194) rfl)
set_option maxRecDepth 20000 in
theorem tw_1208 : (Cond.instanceMethod yX11_count) ∈ lw_tbl := tm_4 _ (List.mem_of_getElem? (i := 195) rfl)
set_option maxRecDepth 20000 in
theorem tw_1209 : (Cond.selects RX11 yX11_count yX11_count) ∈ lw_tbl := tm_4 _ (List.mem_of_getElem? (i := 196) rfl)
set_option maxRecDepth 20000 in
theorem tw_1210 : (Cond.methodLink RL 100 yX12_count) ∈ lw_tbl := tm_7 _ (List.mem_of_getElem? (i := 2) rfl)
set_option maxRecDepth 20000 in
theorem tw_1211 : (Cond.instanceMethod yX12_count) ∈ lw_tbl := tm_7 _ (List.mem_of_getElem? (i := 3) rfl)
set_option maxRecDepth 20000 in
theorem tw_1212 : (Cond.selects RX12 yX12_count yX12_count) ∈ lw_tbl := tm_7 _ (List.mem_of_getElem? (i := 4) rfl)
set_option maxRecDepth 20000 in
theorem tw_1213 : (Cond.methodLink RJ7 150 arraycopyName) ∈ lw_tbl := tm_3 _ (List.mem_of_getElem? (i := 151) rfl)
set_option maxRecDepth 20000 in
theorem tw_1214 : (Cond.static arraycopyName) ∈ lw_tbl := tm_3 _ (List.mem_of_getElem? (i := 152) rfl)
set_option maxRecDepth 20000 in
theorem tw_1215 : (Cond.native arraycopyName) ∈ lw_tbl := tm_3 _ (List.mem_of_getElem? (i := 153) rfl)
theorem tb_0 : ∀ w ∈ bg_0, w ∈ lw_tbl := nm_c tw_0 (nm_c tw_1 (nm_c tw_2 (nm_c tw_3 (nm_c tw_4 (nm_c tw_5 (nm_c tw_6 (nm_c tw_7 (nm_c tw_8 (nm_c tw_9 (nm_c tw_10 (nm_c tw_11 (nm_c tw_12 (nm_c tw_13 (nm_c tw_14 (nm_c tw_15 (nm_c tw_16 (nm_c tw_17 (nm_c tw_18 (nm_c tw_19 (nm_c tw_20 (nm_c tw_21 (nm_c tw_22 (nm_c tw_23 (nm_c tw_24 (nm_c tw_25 (nm_c tw_26 (nm_c tw_27 (nm_c tw_28 (nm_c tw_29 (nm_c tw_30 (nm_c tw_31 (nm_c tw_32 (nm_c tw_33 (nm_c tw_34 (nm_c tw_35 (nm_c tw_36 (nm_c tw_37 (nm_c tw_38 (nm_c tw_39 (nm_n))))))))))))))))))))))))))))))))))))))))
theorem tb_1 : ∀ w ∈ bg_1, w ∈ lw_tbl := nm_c tw_40 (nm_c tw_41 (nm_c tw_42 (nm_c tw_43 (nm_c tw_44 (nm_c tw_45 (nm_c tw_46 (nm_c tw_47 (nm_c tw_48 (nm_c tw_49 (nm_c tw_50 (nm_c tw_51 (nm_c tw_52 (nm_c tw_53 (nm_c tw_54 (nm_c tw_55 (nm_c tw_56 (nm_c tw_57 (nm_c tw_58 (nm_c tw_59 (nm_c tw_60 (nm_c tw_61 (nm_c tw_62 (nm_c tw_63 (nm_c tw_64 (nm_c tw_65 (nm_c tw_66 (nm_c tw_67 (nm_c tw_68 (nm_c tw_69 (nm_c tw_70 (nm_c tw_71 (nm_c tw_72 (nm_c tw_73 (nm_c tw_74 (nm_c tw_75 (nm_c tw_76 (nm_c tw_77 (nm_c tw_78 (nm_c tw_79 (nm_n))))))))))))))))))))))))))))))))))))))))
theorem tb_2 : ∀ w ∈ bg_2, w ∈ lw_tbl := nm_c tw_80 (nm_c tw_81 (nm_c tw_82 (nm_c tw_83 (nm_c tw_84 (nm_c tw_85 (nm_c tw_86 (nm_c tw_87 (nm_c tw_88 (nm_c tw_89 (nm_c tw_90 (nm_c tw_91 (nm_c tw_92 (nm_c tw_93 (nm_c tw_94 (nm_c tw_95 (nm_c tw_96 (nm_c tw_97 (nm_c tw_98 (nm_c tw_99 (nm_c tw_100 (nm_c tw_101 (nm_c tw_102 (nm_c tw_103 (nm_c tw_104 (nm_c tw_105 (nm_c tw_106 (nm_c tw_107 (nm_c tw_108 (nm_c tw_109 (nm_c tw_110 (nm_c tw_111 (nm_c tw_112 (nm_c tw_113 (nm_c tw_114 (nm_c tw_115 (nm_c tw_116 (nm_c tw_117 (nm_c tw_118 (nm_c tw_119 (nm_n))))))))))))))))))))))))))))))))))))))))
theorem tb_3 : ∀ w ∈ bg_3, w ∈ lw_tbl := nm_c tw_120 (nm_c tw_121 (nm_c tw_122 (nm_c tw_123 (nm_c tw_124 (nm_c tw_125 (nm_c tw_126 (nm_c tw_127 (nm_c tw_128 (nm_c tw_129 (nm_c tw_130 (nm_c tw_131 (nm_c tw_132 (nm_c tw_133 (nm_c tw_134 (nm_c tw_135 (nm_c tw_136 (nm_c tw_137 (nm_c tw_138 (nm_c tw_139 (nm_c tw_140 (nm_c tw_141 (nm_c tw_142 (nm_c tw_143 (nm_c tw_144 (nm_c tw_145 (nm_c tw_146 (nm_c tw_147 (nm_c tw_148 (nm_c tw_149 (nm_c tw_150 (nm_c tw_151 (nm_c tw_152 (nm_c tw_153 (nm_c tw_154 (nm_c tw_155 (nm_c tw_156 (nm_c tw_157 (nm_c tw_158 (nm_c tw_159 (nm_n))))))))))))))))))))))))))))))))))))))))
theorem tb_4 : ∀ w ∈ bg_4, w ∈ lw_tbl := nm_c tw_160 (nm_c tw_161 (nm_c tw_162 (nm_c tw_163 (nm_c tw_164 (nm_c tw_165 (nm_c tw_166 (nm_c tw_167 (nm_c tw_168 (nm_c tw_169 (nm_c tw_170 (nm_c tw_171 (nm_c tw_172 (nm_c tw_173 (nm_c tw_174 (nm_c tw_175 (nm_c tw_176 (nm_c tw_177 (nm_c tw_178 (nm_c tw_179 (nm_c tw_180 (nm_c tw_181 (nm_c tw_182 (nm_c tw_183 (nm_c tw_184 (nm_c tw_185 (nm_c tw_186 (nm_c tw_187 (nm_c tw_188 (nm_c tw_189 (nm_c tw_190 (nm_c tw_191 (nm_c tw_192 (nm_c tw_193 (nm_c tw_194 (nm_c tw_195 (nm_c tw_196 (nm_c tw_197 (nm_c tw_198 (nm_c tw_199 (nm_n))))))))))))))))))))))))))))))))))))))))
theorem tb_5 : ∀ w ∈ bg_5, w ∈ lw_tbl := nm_c tw_200 (nm_c tw_201 (nm_c tw_202 (nm_c tw_203 (nm_c tw_204 (nm_c tw_205 (nm_c tw_206 (nm_c tw_207 (nm_c tw_208 (nm_c tw_209 (nm_c tw_210 (nm_c tw_211 (nm_c tw_212 (nm_c tw_213 (nm_c tw_214 (nm_c tw_215 (nm_c tw_216 (nm_c tw_217 (nm_c tw_218 (nm_c tw_219 (nm_c tw_220 (nm_c tw_221 (nm_c tw_222 (nm_c tw_223 (nm_c tw_224 (nm_c tw_225 (nm_c tw_226 (nm_c tw_227 (nm_c tw_228 (nm_c tw_229 (nm_c tw_230 (nm_c tw_231 (nm_c tw_232 (nm_c tw_233 (nm_c tw_234 (nm_c tw_235 (nm_c tw_236 (nm_c tw_237 (nm_c tw_238 (nm_c tw_239 (nm_n))))))))))))))))))))))))))))))))))))))))
theorem tb_6 : ∀ w ∈ bg_6, w ∈ lw_tbl := nm_c tw_240 (nm_c tw_241 (nm_c tw_242 (nm_c tw_243 (nm_c tw_244 (nm_c tw_245 (nm_c tw_246 (nm_c tw_247 (nm_c tw_248 (nm_c tw_249 (nm_c tw_250 (nm_c tw_251 (nm_c tw_252 (nm_c tw_253 (nm_c tw_254 (nm_c tw_255 (nm_c tw_256 (nm_c tw_257 (nm_c tw_258 (nm_c tw_259 (nm_c tw_260 (nm_c tw_261 (nm_c tw_262 (nm_c tw_263 (nm_c tw_264 (nm_c tw_265 (nm_c tw_266 (nm_c tw_267 (nm_c tw_268 (nm_c tw_269 (nm_c tw_270 (nm_c tw_271 (nm_c tw_272 (nm_c tw_273 (nm_c tw_274 (nm_c tw_275 (nm_c tw_276 (nm_c tw_277 (nm_c tw_278 (nm_c tw_279 (nm_n))))))))))))))))))))))))))))))))))))))))
theorem tb_7 : ∀ w ∈ bg_7, w ∈ lw_tbl := nm_c tw_280 (nm_c tw_281 (nm_c tw_282 (nm_c tw_283 (nm_c tw_284 (nm_c tw_285 (nm_c tw_286 (nm_c tw_287 (nm_c tw_288 (nm_c tw_289 (nm_c tw_290 (nm_c tw_291 (nm_c tw_292 (nm_c tw_293 (nm_c tw_294 (nm_c tw_295 (nm_c tw_296 (nm_c tw_297 (nm_c tw_298 (nm_c tw_299 (nm_c tw_300 (nm_c tw_301 (nm_c tw_302 (nm_c tw_303 (nm_c tw_304 (nm_c tw_305 (nm_c tw_306 (nm_c tw_307 (nm_c tw_308 (nm_c tw_309 (nm_c tw_310 (nm_c tw_311 (nm_c tw_312 (nm_c tw_313 (nm_c tw_314 (nm_c tw_315 (nm_c tw_316 (nm_c tw_317 (nm_c tw_318 (nm_c tw_319 (nm_n))))))))))))))))))))))))))))))))))))))))
theorem tb_8 : ∀ w ∈ bg_8, w ∈ lw_tbl := nm_c tw_320 (nm_c tw_321 (nm_c tw_322 (nm_c tw_323 (nm_c tw_324 (nm_c tw_325 (nm_c tw_326 (nm_c tw_327 (nm_c tw_328 (nm_c tw_329 (nm_c tw_330 (nm_c tw_331 (nm_c tw_332 (nm_c tw_333 (nm_c tw_334 (nm_c tw_335 (nm_c tw_336 (nm_c tw_337 (nm_c tw_338 (nm_c tw_339 (nm_c tw_340 (nm_c tw_341 (nm_c tw_342 (nm_c tw_343 (nm_c tw_344 (nm_c tw_345 (nm_c tw_346 (nm_c tw_347 (nm_c tw_348 (nm_c tw_349 (nm_c tw_350 (nm_c tw_351 (nm_c tw_352 (nm_c tw_353 (nm_c tw_354 (nm_c tw_355 (nm_c tw_356 (nm_c tw_357 (nm_c tw_358 (nm_c tw_359 (nm_n))))))))))))))))))))))))))))))))))))))))
theorem tb_9 : ∀ w ∈ bg_9, w ∈ lw_tbl := nm_c tw_360 (nm_c tw_361 (nm_c tw_362 (nm_c tw_363 (nm_c tw_364 (nm_c tw_365 (nm_c tw_366 (nm_c tw_367 (nm_c tw_368 (nm_c tw_369 (nm_c tw_370 (nm_c tw_371 (nm_c tw_372 (nm_c tw_373 (nm_c tw_374 (nm_c tw_375 (nm_c tw_376 (nm_c tw_377 (nm_c tw_378 (nm_c tw_379 (nm_c tw_380 (nm_c tw_381 (nm_c tw_382 (nm_c tw_383 (nm_c tw_384 (nm_c tw_385 (nm_c tw_386 (nm_c tw_387 (nm_c tw_388 (nm_c tw_389 (nm_c tw_390 (nm_c tw_391 (nm_c tw_392 (nm_c tw_393 (nm_c tw_394 (nm_c tw_395 (nm_c tw_396 (nm_c tw_397 (nm_c tw_398 (nm_c tw_399 (nm_n))))))))))))))))))))))))))))))))))))))))
theorem tb_10 : ∀ w ∈ bg_10, w ∈ lw_tbl := nm_c tw_400 (nm_c tw_401 (nm_c tw_402 (nm_c tw_403 (nm_c tw_404 (nm_c tw_405 (nm_c tw_406 (nm_c tw_407 (nm_c tw_408 (nm_c tw_409 (nm_c tw_410 (nm_c tw_411 (nm_c tw_412 (nm_c tw_413 (nm_c tw_414 (nm_c tw_415 (nm_c tw_416 (nm_c tw_417 (nm_c tw_418 (nm_c tw_419 (nm_c tw_420 (nm_c tw_421 (nm_c tw_422 (nm_c tw_423 (nm_c tw_424 (nm_c tw_425 (nm_c tw_426 (nm_c tw_427 (nm_c tw_428 (nm_c tw_429 (nm_c tw_430 (nm_c tw_431 (nm_c tw_432 (nm_c tw_433 (nm_c tw_434 (nm_c tw_435 (nm_c tw_436 (nm_c tw_437 (nm_c tw_438 (nm_c tw_439 (nm_n))))))))))))))))))))))))))))))))))))))))
theorem tb_11 : ∀ w ∈ bg_11, w ∈ lw_tbl := nm_c tw_440 (nm_c tw_441 (nm_c tw_442 (nm_c tw_443 (nm_c tw_444 (nm_c tw_445 (nm_c tw_446 (nm_c tw_447 (nm_c tw_448 (nm_c tw_449 (nm_c tw_450 (nm_c tw_451 (nm_c tw_452 (nm_c tw_453 (nm_c tw_454 (nm_c tw_455 (nm_c tw_456 (nm_c tw_457 (nm_c tw_458 (nm_c tw_459 (nm_c tw_460 (nm_c tw_461 (nm_c tw_462 (nm_c tw_463 (nm_c tw_464 (nm_c tw_465 (nm_c tw_466 (nm_c tw_467 (nm_c tw_468 (nm_c tw_469 (nm_c tw_470 (nm_c tw_471 (nm_c tw_472 (nm_c tw_473 (nm_c tw_474 (nm_c tw_475 (nm_c tw_476 (nm_c tw_477 (nm_c tw_478 (nm_c tw_479 (nm_n))))))))))))))))))))))))))))))))))))))))
theorem tb_12 : ∀ w ∈ bg_12, w ∈ lw_tbl := nm_c tw_480 (nm_c tw_481 (nm_c tw_482 (nm_c tw_483 (nm_c tw_484 (nm_c tw_485 (nm_c tw_486 (nm_c tw_487 (nm_c tw_488 (nm_c tw_489 (nm_c tw_490 (nm_c tw_491 (nm_c tw_492 (nm_c tw_493 (nm_c tw_494 (nm_c tw_495 (nm_c tw_496 (nm_c tw_497 (nm_c tw_498 (nm_c tw_499 (nm_c tw_500 (nm_c tw_501 (nm_c tw_502 (nm_c tw_503 (nm_c tw_504 (nm_c tw_505 (nm_c tw_506 (nm_c tw_507 (nm_c tw_508 (nm_c tw_509 (nm_c tw_510 (nm_c tw_511 (nm_c tw_512 (nm_c tw_513 (nm_c tw_514 (nm_c tw_515 (nm_c tw_516 (nm_c tw_517 (nm_c tw_518 (nm_c tw_519 (nm_n))))))))))))))))))))))))))))))))))))))))
theorem tb_13 : ∀ w ∈ bg_13, w ∈ lw_tbl := nm_c tw_520 (nm_c tw_521 (nm_c tw_522 (nm_c tw_523 (nm_c tw_524 (nm_c tw_525 (nm_c tw_526 (nm_c tw_527 (nm_c tw_528 (nm_c tw_529 (nm_c tw_530 (nm_c tw_531 (nm_c tw_532 (nm_c tw_533 (nm_c tw_534 (nm_c tw_535 (nm_c tw_536 (nm_c tw_537 (nm_c tw_538 (nm_c tw_539 (nm_c tw_540 (nm_c tw_541 (nm_c tw_542 (nm_c tw_543 (nm_c tw_544 (nm_c tw_545 (nm_c tw_546 (nm_c tw_547 (nm_c tw_548 (nm_c tw_549 (nm_c tw_550 (nm_c tw_551 (nm_c tw_552 (nm_c tw_553 (nm_c tw_554 (nm_c tw_555 (nm_c tw_556 (nm_c tw_557 (nm_c tw_558 (nm_c tw_559 (nm_n))))))))))))))))))))))))))))))))))))))))
theorem tb_14 : ∀ w ∈ bg_14, w ∈ lw_tbl := nm_c tw_560 (nm_c tw_561 (nm_c tw_562 (nm_c tw_563 (nm_c tw_564 (nm_c tw_565 (nm_c tw_566 (nm_c tw_567 (nm_c tw_568 (nm_c tw_569 (nm_c tw_570 (nm_c tw_571 (nm_c tw_572 (nm_c tw_573 (nm_c tw_574 (nm_c tw_575 (nm_c tw_576 (nm_c tw_577 (nm_c tw_578 (nm_c tw_579 (nm_c tw_580 (nm_c tw_581 (nm_c tw_582 (nm_c tw_583 (nm_c tw_584 (nm_c tw_585 (nm_c tw_586 (nm_c tw_587 (nm_c tw_588 (nm_c tw_589 (nm_c tw_590 (nm_c tw_591 (nm_c tw_592 (nm_c tw_593 (nm_c tw_594 (nm_c tw_595 (nm_c tw_596 (nm_c tw_597 (nm_c tw_598 (nm_c tw_599 (nm_n))))))))))))))))))))))))))))))))))))))))
theorem tb_15 : ∀ w ∈ bg_15, w ∈ lw_tbl := nm_c tw_600 (nm_c tw_601 (nm_c tw_602 (nm_c tw_603 (nm_c tw_604 (nm_c tw_605 (nm_c tw_606 (nm_c tw_607 (nm_c tw_608 (nm_c tw_609 (nm_c tw_610 (nm_c tw_611 (nm_c tw_612 (nm_c tw_613 (nm_c tw_614 (nm_c tw_615 (nm_c tw_616 (nm_c tw_617 (nm_c tw_618 (nm_c tw_619 (nm_c tw_620 (nm_c tw_621 (nm_c tw_622 (nm_c tw_623 (nm_c tw_624 (nm_c tw_625 (nm_c tw_626 (nm_c tw_627 (nm_c tw_628 (nm_c tw_629 (nm_c tw_630 (nm_c tw_631 (nm_c tw_632 (nm_c tw_633 (nm_c tw_634 (nm_c tw_635 (nm_c tw_636 (nm_c tw_637 (nm_c tw_638 (nm_c tw_639 (nm_n))))))))))))))))))))))))))))))))))))))))
theorem tb_16 : ∀ w ∈ bg_16, w ∈ lw_tbl := nm_c tw_640 (nm_c tw_641 (nm_c tw_642 (nm_c tw_643 (nm_c tw_644 (nm_c tw_645 (nm_c tw_646 (nm_c tw_647 (nm_c tw_648 (nm_c tw_649 (nm_c tw_650 (nm_c tw_651 (nm_c tw_652 (nm_c tw_653 (nm_c tw_654 (nm_c tw_655 (nm_c tw_656 (nm_c tw_657 (nm_c tw_658 (nm_c tw_659 (nm_c tw_660 (nm_c tw_661 (nm_c tw_662 (nm_c tw_663 (nm_c tw_664 (nm_c tw_665 (nm_c tw_666 (nm_c tw_667 (nm_c tw_668 (nm_c tw_669 (nm_c tw_670 (nm_c tw_671 (nm_c tw_672 (nm_c tw_673 (nm_c tw_674 (nm_c tw_675 (nm_c tw_676 (nm_c tw_677 (nm_c tw_678 (nm_c tw_679 (nm_n))))))))))))))))))))))))))))))))))))))))
theorem tb_17 : ∀ w ∈ bg_17, w ∈ lw_tbl := nm_c tw_680 (nm_c tw_681 (nm_c tw_682 (nm_c tw_683 (nm_c tw_684 (nm_c tw_685 (nm_c tw_686 (nm_c tw_687 (nm_c tw_688 (nm_c tw_689 (nm_c tw_690 (nm_c tw_691 (nm_c tw_692 (nm_c tw_693 (nm_c tw_694 (nm_c tw_695 (nm_c tw_696 (nm_c tw_697 (nm_c tw_698 (nm_c tw_699 (nm_c tw_700 (nm_c tw_701 (nm_c tw_702 (nm_c tw_703 (nm_c tw_704 (nm_c tw_705 (nm_c tw_706 (nm_c tw_707 (nm_c tw_708 (nm_c tw_709 (nm_c tw_710 (nm_c tw_711 (nm_c tw_712 (nm_c tw_713 (nm_c tw_714 (nm_c tw_715 (nm_c tw_716 (nm_c tw_717 (nm_c tw_718 (nm_c tw_719 (nm_n))))))))))))))))))))))))))))))))))))))))
theorem tb_18 : ∀ w ∈ bg_18, w ∈ lw_tbl := nm_c tw_720 (nm_c tw_721 (nm_c tw_722 (nm_c tw_723 (nm_c tw_724 (nm_c tw_725 (nm_c tw_726 (nm_c tw_727 (nm_c tw_728 (nm_c tw_729 (nm_c tw_730 (nm_c tw_731 (nm_c tw_732 (nm_c tw_733 (nm_c tw_734 (nm_c tw_735 (nm_c tw_736 (nm_c tw_737 (nm_c tw_738 (nm_c tw_739 (nm_c tw_740 (nm_c tw_741 (nm_c tw_742 (nm_c tw_743 (nm_c tw_744 (nm_c tw_745 (nm_c tw_746 (nm_c tw_747 (nm_c tw_748 (nm_c tw_749 (nm_c tw_750 (nm_c tw_751 (nm_c tw_752 (nm_c tw_753 (nm_c tw_754 (nm_c tw_755 (nm_c tw_756 (nm_c tw_757 (nm_c tw_758 (nm_c tw_759 (nm_n))))))))))))))))))))))))))))))))))))))))
theorem tb_19 : ∀ w ∈ bg_19, w ∈ lw_tbl := nm_c tw_760 (nm_c tw_761 (nm_c tw_762 (nm_c tw_763 (nm_c tw_764 (nm_c tw_765 (nm_c tw_766 (nm_c tw_767 (nm_c tw_768 (nm_c tw_769 (nm_c tw_770 (nm_c tw_771 (nm_c tw_772 (nm_c tw_773 (nm_c tw_774 (nm_c tw_775 (nm_c tw_776 (nm_c tw_777 (nm_c tw_778 (nm_c tw_779 (nm_c tw_780 (nm_c tw_781 (nm_c tw_782 (nm_c tw_783 (nm_c tw_784 (nm_c tw_785 (nm_c tw_786 (nm_c tw_787 (nm_c tw_788 (nm_c tw_789 (nm_c tw_790 (nm_c tw_791 (nm_c tw_792 (nm_c tw_793 (nm_c tw_794 (nm_c tw_795 (nm_c tw_796 (nm_c tw_797 (nm_c tw_798 (nm_c tw_799 (nm_n))))))))))))))))))))))))))))))))))))))))
theorem tb_20 : ∀ w ∈ bg_20, w ∈ lw_tbl := nm_c tw_800 (nm_c tw_801 (nm_c tw_802 (nm_c tw_803 (nm_c tw_804 (nm_c tw_805 (nm_c tw_806 (nm_c tw_807 (nm_c tw_808 (nm_c tw_809 (nm_c tw_810 (nm_c tw_811 (nm_c tw_812 (nm_c tw_813 (nm_c tw_814 (nm_c tw_815 (nm_c tw_816 (nm_c tw_817 (nm_c tw_818 (nm_c tw_819 (nm_c tw_820 (nm_c tw_821 (nm_c tw_822 (nm_c tw_823 (nm_c tw_824 (nm_c tw_825 (nm_c tw_826 (nm_c tw_827 (nm_c tw_828 (nm_c tw_829 (nm_c tw_830 (nm_c tw_831 (nm_c tw_832 (nm_c tw_833 (nm_c tw_834 (nm_c tw_835 (nm_c tw_836 (nm_c tw_837 (nm_c tw_838 (nm_c tw_839 (nm_n))))))))))))))))))))))))))))))))))))))))
theorem tb_21 : ∀ w ∈ bg_21, w ∈ lw_tbl := nm_c tw_840 (nm_c tw_841 (nm_c tw_842 (nm_c tw_843 (nm_c tw_844 (nm_c tw_845 (nm_c tw_846 (nm_c tw_847 (nm_c tw_848 (nm_c tw_849 (nm_c tw_850 (nm_c tw_851 (nm_c tw_852 (nm_c tw_853 (nm_c tw_854 (nm_c tw_855 (nm_c tw_856 (nm_c tw_857 (nm_c tw_858 (nm_c tw_859 (nm_c tw_860 (nm_c tw_861 (nm_c tw_862 (nm_c tw_863 (nm_c tw_864 (nm_c tw_865 (nm_c tw_866 (nm_c tw_867 (nm_c tw_868 (nm_c tw_869 (nm_c tw_870 (nm_c tw_871 (nm_c tw_872 (nm_c tw_873 (nm_c tw_874 (nm_c tw_875 (nm_c tw_876 (nm_c tw_877 (nm_c tw_878 (nm_c tw_879 (nm_n))))))))))))))))))))))))))))))))))))))))
theorem tb_22 : ∀ w ∈ bg_22, w ∈ lw_tbl := nm_c tw_880 (nm_c tw_881 (nm_c tw_882 (nm_c tw_883 (nm_c tw_884 (nm_c tw_885 (nm_c tw_886 (nm_c tw_887 (nm_c tw_888 (nm_c tw_889 (nm_c tw_890 (nm_c tw_891 (nm_c tw_892 (nm_c tw_893 (nm_c tw_894 (nm_c tw_895 (nm_c tw_896 (nm_c tw_897 (nm_c tw_898 (nm_c tw_899 (nm_c tw_900 (nm_c tw_901 (nm_c tw_902 (nm_c tw_903 (nm_c tw_904 (nm_c tw_905 (nm_c tw_906 (nm_c tw_907 (nm_c tw_908 (nm_c tw_909 (nm_c tw_910 (nm_c tw_911 (nm_c tw_912 (nm_c tw_913 (nm_c tw_914 (nm_c tw_915 (nm_c tw_916 (nm_c tw_917 (nm_c tw_918 (nm_c tw_919 (nm_n))))))))))))))))))))))))))))))))))))))))
theorem tb_23 : ∀ w ∈ bg_23, w ∈ lw_tbl := nm_c tw_920 (nm_c tw_921 (nm_c tw_922 (nm_c tw_923 (nm_c tw_924 (nm_c tw_925 (nm_c tw_926 (nm_c tw_927 (nm_c tw_928 (nm_c tw_929 (nm_c tw_930 (nm_c tw_931 (nm_c tw_932 (nm_c tw_933 (nm_c tw_934 (nm_c tw_935 (nm_c tw_936 (nm_c tw_937 (nm_c tw_938 (nm_c tw_939 (nm_c tw_940 (nm_c tw_941 (nm_c tw_942 (nm_c tw_943 (nm_c tw_944 (nm_c tw_945 (nm_c tw_946 (nm_c tw_947 (nm_c tw_948 (nm_c tw_949 (nm_c tw_950 (nm_c tw_951 (nm_c tw_952 (nm_c tw_953 (nm_c tw_954 (nm_c tw_955 (nm_c tw_956 (nm_c tw_957 (nm_c tw_958 (nm_c tw_959 (nm_n))))))))))))))))))))))))))))))))))))))))
theorem tb_24 : ∀ w ∈ bg_24, w ∈ lw_tbl := nm_c tw_960 (nm_c tw_961 (nm_c tw_962 (nm_c tw_963 (nm_c tw_964 (nm_c tw_965 (nm_c tw_966 (nm_c tw_967 (nm_c tw_968 (nm_c tw_969 (nm_c tw_970 (nm_c tw_971 (nm_c tw_972 (nm_c tw_973 (nm_c tw_974 (nm_c tw_975 (nm_c tw_976 (nm_c tw_977 (nm_c tw_978 (nm_c tw_979 (nm_c tw_980 (nm_c tw_981 (nm_c tw_982 (nm_c tw_983 (nm_c tw_984 (nm_c tw_985 (nm_c tw_986 (nm_c tw_987 (nm_c tw_988 (nm_c tw_989 (nm_c tw_990 (nm_c tw_991 (nm_c tw_992 (nm_c tw_993 (nm_c tw_994 (nm_c tw_995 (nm_c tw_996 (nm_c tw_997 (nm_c tw_998 (nm_c tw_999 (nm_n))))))))))))))))))))))))))))))))))))))))
theorem tb_25 : ∀ w ∈ bg_25, w ∈ lw_tbl := nm_c tw_1000 (nm_c tw_1001 (nm_c tw_1002 (nm_c tw_1003 (nm_c tw_1004 (nm_c tw_1005 (nm_c tw_1006 (nm_c tw_1007 (nm_c tw_1008 (nm_c tw_1009 (nm_c tw_1010 (nm_c tw_1011 (nm_c tw_1012 (nm_c tw_1013 (nm_c tw_1014 (nm_c tw_1015 (nm_c tw_1016 (nm_c tw_1017 (nm_c tw_1018 (nm_c tw_1019 (nm_c tw_1020 (nm_c tw_1021 (nm_c tw_1022 (nm_c tw_1023 (nm_c tw_1024 (nm_c tw_1025 (nm_c tw_1026 (nm_c tw_1027 (nm_c tw_1028 (nm_c tw_1029 (nm_c tw_1030 (nm_c tw_1031 (nm_c tw_1032 (nm_c tw_1033 (nm_c tw_1034 (nm_c tw_1035 (nm_c tw_1036 (nm_c tw_1037 (nm_c tw_1038 (nm_c tw_1039 (nm_n))))))))))))))))))))))))))))))))))))))))
theorem tb_26 : ∀ w ∈ bg_26, w ∈ lw_tbl := nm_c tw_1040 (nm_c tw_1041 (nm_c tw_1042 (nm_c tw_1043 (nm_c tw_1044 (nm_c tw_1045 (nm_c tw_1046 (nm_c tw_1047 (nm_c tw_1048 (nm_c tw_1049 (nm_c tw_1050 (nm_c tw_1051 (nm_c tw_1052 (nm_c tw_1053 (nm_c tw_1054 (nm_c tw_1055 (nm_c tw_1056 (nm_c tw_1057 (nm_c tw_1058 (nm_c tw_1059 (nm_c tw_1060 (nm_c tw_1061 (nm_c tw_1062 (nm_c tw_1063 (nm_c tw_1064 (nm_c tw_1065 (nm_c tw_1066 (nm_c tw_1067 (nm_c tw_1068 (nm_c tw_1069 (nm_c tw_1070 (nm_c tw_1071 (nm_c tw_1072 (nm_c tw_1073 (nm_c tw_1074 (nm_c tw_1075 (nm_c tw_1076 (nm_c tw_1077 (nm_c tw_1078 (nm_c tw_1079 (nm_n))))))))))))))))))))))))))))))))))))))))
theorem tb_27 : ∀ w ∈ bg_27, w ∈ lw_tbl := nm_c tw_1080 (nm_c tw_1081 (nm_c tw_1082 (nm_c tw_1083 (nm_c tw_1084 (nm_c tw_1085 (nm_c tw_1086 (nm_c tw_1087 (nm_c tw_1088 (nm_c tw_1089 (nm_c tw_1090 (nm_c tw_1091 (nm_c tw_1092 (nm_c tw_1093 (nm_c tw_1094 (nm_c tw_1095 (nm_c tw_1096 (nm_c tw_1097 (nm_c tw_1098 (nm_c tw_1099 (nm_c tw_1100 (nm_c tw_1101 (nm_c tw_1102 (nm_c tw_1103 (nm_c tw_1104 (nm_c tw_1105 (nm_c tw_1106 (nm_c tw_1107 (nm_c tw_1108 (nm_c tw_1109 (nm_c tw_1110 (nm_c tw_1111 (nm_c tw_1112 (nm_c tw_1113 (nm_c tw_1114 (nm_c tw_1115 (nm_c tw_1116 (nm_c tw_1117 (nm_c tw_1118 (nm_c tw_1119 (nm_n))))))))))))))))))))))))))))))))))))))))
theorem tb_28 : ∀ w ∈ bg_28, w ∈ lw_tbl := nm_c tw_1120 (nm_c tw_1121 (nm_c tw_1122 (nm_c tw_1123 (nm_c tw_1124 (nm_c tw_1125 (nm_c tw_1126 (nm_c tw_1127 (nm_c tw_1128 (nm_c tw_1129 (nm_c tw_1130 (nm_c tw_1131 (nm_c tw_1132 (nm_c tw_1133 (nm_c tw_1134 (nm_c tw_1135 (nm_c tw_1136 (nm_c tw_1137 (nm_c tw_1138 (nm_c tw_1139 (nm_c tw_1140 (nm_c tw_1141 (nm_c tw_1142 (nm_c tw_1143 (nm_c tw_1144 (nm_c tw_1145 (nm_c tw_1146 (nm_c tw_1147 (nm_c tw_1148 (nm_c tw_1149 (nm_c tw_1150 (nm_c tw_1151 (nm_c tw_1152 (nm_c tw_1153 (nm_c tw_1154 (nm_c tw_1155 (nm_c tw_1156 (nm_c tw_1157 (nm_c tw_1158 (nm_c tw_1159 (nm_n))))))))))))))))))))))))))))))))))))))))
theorem tb_29 : ∀ w ∈ bg_29, w ∈ lw_tbl := nm_c tw_1160 (nm_c tw_1161 (nm_c tw_1162 (nm_c tw_1163 (nm_c tw_1164 (nm_c tw_1165 (nm_c tw_1166 (nm_c tw_1167 (nm_c tw_1168 (nm_c tw_1169 (nm_c tw_1170 (nm_c tw_1171 (nm_c tw_1172 (nm_c tw_1173 (nm_c tw_1174 (nm_c tw_1175 (nm_c tw_1176 (nm_c tw_1177 (nm_c tw_1178 (nm_c tw_1179 (nm_c tw_1180 (nm_c tw_1181 (nm_c tw_1182 (nm_c tw_1183 (nm_c tw_1184 (nm_c tw_1185 (nm_c tw_1186 (nm_c tw_1187 (nm_c tw_1188 (nm_c tw_1189 (nm_c tw_1190 (nm_c tw_1191 (nm_c tw_1192 (nm_c tw_1193 (nm_c tw_1194 (nm_c tw_1195 (nm_c tw_1196 (nm_c tw_1197 (nm_c tw_1198 (nm_c tw_1199 (nm_n))))))))))))))))))))))))))))))))))))))))
theorem tb_30 : ∀ w ∈ bg_30, w ∈ lw_tbl := nm_c tw_1200 (nm_c tw_1201 (nm_c tw_1202 (nm_c tw_1203 (nm_c tw_1204 (nm_c tw_1205 (nm_c tw_1206 (nm_c tw_1207 (nm_c tw_1208 (nm_c tw_1209 (nm_c tw_1210 (nm_c tw_1211 (nm_c tw_1212 (nm_c tw_1213 (nm_c tw_1214 (nm_c tw_1215 (nm_n))))))))))))))))
theorem tb_BIG : ∀ w ∈ BIG, w ∈ lw_tbl := by
  intro w h
  rcases List.mem_append.mp h with h | h
  · exact tb_0 w h
  rcases List.mem_append.mp h with h | h
  · exact tb_1 w h
  rcases List.mem_append.mp h with h | h
  · exact tb_2 w h
  rcases List.mem_append.mp h with h | h
  · exact tb_3 w h
  rcases List.mem_append.mp h with h | h
  · exact tb_4 w h
  rcases List.mem_append.mp h with h | h
  · exact tb_5 w h
  rcases List.mem_append.mp h with h | h
  · exact tb_6 w h
  rcases List.mem_append.mp h with h | h
  · exact tb_7 w h
  rcases List.mem_append.mp h with h | h
  · exact tb_8 w h
  rcases List.mem_append.mp h with h | h
  · exact tb_9 w h
  rcases List.mem_append.mp h with h | h
  · exact tb_10 w h
  rcases List.mem_append.mp h with h | h
  · exact tb_11 w h
  rcases List.mem_append.mp h with h | h
  · exact tb_12 w h
  rcases List.mem_append.mp h with h | h
  · exact tb_13 w h
  rcases List.mem_append.mp h with h | h
  · exact tb_14 w h
  rcases List.mem_append.mp h with h | h
  · exact tb_15 w h
  rcases List.mem_append.mp h with h | h
  · exact tb_16 w h
  rcases List.mem_append.mp h with h | h
  · exact tb_17 w h
  rcases List.mem_append.mp h with h | h
  · exact tb_18 w h
  rcases List.mem_append.mp h with h | h
  · exact tb_19 w h
  rcases List.mem_append.mp h with h | h
  · exact tb_20 w h
  rcases List.mem_append.mp h with h | h
  · exact tb_21 w h
  rcases List.mem_append.mp h with h | h
  · exact tb_22 w h
  rcases List.mem_append.mp h with h | h
  · exact tb_23 w h
  rcases List.mem_append.mp h with h | h
  · exact tb_24 w h
  rcases List.mem_append.mp h with h | h
  · exact tb_25 w h
  rcases List.mem_append.mp h with h | h
  · exact tb_26 w h
  rcases List.mem_append.mp h with h | h
  · exact tb_27 w h
  rcases List.mem_append.mp h with h | h
  · exact tb_28 w h
  rcases List.mem_append.mp h with h | h
  · exact tb_29 w h
  exact tb_30 w h
theorem tb_cwo : (Cond.codeWith yL_op cL_op 6 (some .int) [(0, 12, 15, 13)]) ∈ lw_tbl := List.mem_of_getElem? (i := 1019) (by decide +kernel)
theorem tb_cwp : (Cond.codeWith yL_peek cL_peek 5 (some .int) [(0, 10, 13, 13)]) ∈ lw_tbl := List.mem_of_getElem? (i := 1095) (by decide +kernel)
theorem tb_TL : ∀ w ∈ TL, w ∈ lw_tbl := by
  intro w h
  rcases List.mem_cons.mp h with rfl | h
  · exact tb_cwo
  rcases List.mem_cons.mp h with rfl | h
  · exact tb_cwp
  rcases List.mem_append.mp h with h | h
  · exact tb_BIG w h
  · exact (gzS_lw_tbl w h).1
set_option maxRecDepth 20000 in
theorem gq_L_law_X11_init_19 : GoodIn lw_tbl (wq_X11_init) := goodIn_r _ [124, 125, 126, 127, 128, 129, 101, 132, 133, 192, 134, 138, 143, 148, 152, 156, 160, 131, 472, 193, 194, 102, 197, 198, 209, 200, 199, 195, 196, 473, 210, 211, 103, 214, 215, 216, 217, 104, 220, 221, 224, 226, 228, 231, 233, 222, 235, 242, 243, 244, 219, 360, 266, 267, 105, 270, 271, 272, 275, 269, 361, 282, 283, 106, 286, 287, 288, 289, 290, 291, 292, 294, 285, 362, 308, 309, 107, 312, 313, 314, 315, 321, 311, 364, 367, 359, 331, 332, 108, 335, 336, 340, 337, 338, 339, 333, 334, 366, 212, 213, 474, 388, 389, 110, 392, 395, 396, 402, 408, 409, 109, 394, 398, 399, 400, 397, 390, 391, 475, 442, 443, 111, 365, 446, 449, 450, 451, 448, 444, 445, 476, 171, 173, 175, 177, 179, 181, 183, 185, 187, 189, 477, 479, 481, 483, 485, 202, 204, 206, 371, 373, 375, 377, 379, 381, 383, 385, 245, 247, 249, 251, 253, 255, 257, 259, 261, 263, 277, 279, 295, 297, 299, 301, 303, 305, 322, 324, 326, 328, 344, 346, 348, 350, 352, 354, 356, 425, 427, 429, 431, 433, 435, 437, 439, 415, 417, 419, 421, 423, 463, 464, 465, 466, 467, 468, 469, 470, 453, 455, 457, 459, 461] (by decide +kernel) (by decide +kernel)
set_option maxRecDepth 20000 in
theorem gq_L_law_X12_init_22 : GoodIn lw_tbl (wq_X12_init) := goodIn_r _ [1105, 1106, 126, 127, 192, 1109, 1110, 1111, 1112, 1114, 1115, 1116, 209, 1118, 1120, 1121, 1122, 1123, 1124, 1125, 1126, 1127, 1128, 1130, 1131, 1132, 1133, 1134, 1135, 1136, 1138, 1139, 1140, 1143, 1145, 1146, 1147, 1148, 1149, 1150, 1151, 1152, 1153, 1154, 1155, 1156, 1157, 1158, 1159, 1161, 1163, 1165, 1167, 1169, 1171, 1173, 1175, 1177, 1179, 1181, 1183, 1185, 1187, 1189, 1191, 1193, 1195, 1197, 1199, 1201, 1203, 1205, 1207, 1209, 1211, 1213, 1215, 1217, 1219, 1221, 1223, 1225, 1227, 1229, 1231, 1233, 1235, 1237, 1239, 1241, 1243, 1245, 1247, 1249, 1251, 1253, 1255, 1257, 1259, 1261] (by decide +kernel) (by decide +kernel)
set_option maxRecDepth 20000 in
theorem hiT_X0 : ∀ w ∈ wsX00, w ∈ lw_tbl := fun w h => (goodIn_r wsX00 [202, 204, 206] (by decide +kernel) (by decide +kernel) w h).1
set_option maxRecDepth 20000 in
theorem hiT_X1 : ∀ w ∈ wsX10, w ∈ lw_tbl := fun w h => (goodIn_r wsX10 [322, 324, 326, 328] (by decide +kernel) (by decide +kernel) w h).1
set_option maxRecDepth 20000 in
theorem hiT_X2 : ∀ w ∈ wsX20, w ∈ lw_tbl := fun w h => (goodIn_r wsX20 [295, 297, 299, 301, 303, 305] (by decide +kernel) (by decide +kernel) w h).1
set_option maxRecDepth 20000 in
theorem hiT_X3 : ∀ w ∈ wsX30, w ∈ lw_tbl := fun w h => (goodIn_r wsX30 [277, 279] (by decide +kernel) (by decide +kernel) w h).1
set_option maxRecDepth 20000 in
theorem hiT_X5 : ∀ w ∈ wsX50, w ∈ lw_tbl := fun w h => (goodIn_r wsX50 [245, 247, 249, 251, 253, 255, 257, 259, 261, 263] (by decide +kernel) (by decide +kernel) w h).1
set_option maxRecDepth 20000 in
theorem hiT_X6 : ∀ w ∈ wsX60, w ∈ lw_tbl := fun w h => (goodIn_r wsX60 [171, 173, 175, 177, 179, 181, 183, 185, 187, 189] (by decide +kernel) (by decide +kernel) w h).1
set_option maxRecDepth 20000 in
theorem hiT_X7 : ∀ w ∈ wsX70, w ∈ lw_tbl := fun w h => (goodIn_r wsX70 [463, 464, 465, 466, 467, 468, 469, 470, 453, 455, 457, 459, 461] (by decide +kernel) (by decide +kernel) w h).1
set_option maxRecDepth 20000 in
theorem hiT_X8 : ∀ w ∈ wsX80, w ∈ lw_tbl := fun w h => (goodIn_r wsX80 [425, 427, 429, 431, 433, 435, 437, 439, 415, 417, 419, 421, 423] (by decide +kernel) (by decide +kernel) w h).1
set_option maxRecDepth 20000 in
theorem hiT_X9 : ∀ w ∈ wsX90, w ∈ lw_tbl := fun w h => (goodIn_r wsX90 [371, 373, 375, 377, 379, 381, 383, 385] (by decide +kernel) (by decide +kernel) w h).1
set_option maxRecDepth 20000 in
theorem hiT_X10 : ∀ w ∈ wsX100, w ∈ lw_tbl := fun w h => (goodIn_r wsX100 [344, 346, 348, 350, 352, 354, 356] (by decide +kernel) (by decide +kernel) w h).1
set_option maxRecDepth 20000 in
theorem hiT_X11 : ∀ w ∈ wsX110, w ∈ lw_tbl := fun w h => (goodIn_r wsX110 [477, 479, 481, 483, 485] (by decide +kernel) (by decide +kernel) w h).1
set_option maxRecDepth 20000 in
theorem hiT_X12 : ∀ w ∈ wsX120, w ∈ lw_tbl := fun w h => (goodIn_r wsX120 [1159, 1161, 1163, 1165, 1167, 1169, 1171, 1173, 1175, 1177, 1179, 1181, 1183, 1185, 1187, 1189, 1191, 1193, 1195, 1197, 1199, 1201, 1203, 1205, 1207, 1209, 1211, 1213, 1215, 1217, 1219, 1221, 1223, 1225, 1227, 1229, 1231, 1233, 1235, 1237, 1239, 1241, 1243, 1245, 1247, 1249, 1251, 1253, 1255, 1257, 1259, 1261] (by decide +kernel) (by decide +kernel) w h).1
