section MW
variable {p : Program} {l : Launch} {e : Env} {R : Room} {s : State} {m : MethodId} {args : Array Value} {below : List Frame} {meth : Method} {c : Code} {H : Heap} {locs : List Loc} {cells slots : Nat} {Q : State → Prop}
/-- what holds while the rows of new int[N][K] are made: i of them stand -/
def mz_I (p : Program) (l : Launch) (e : Env) (R : Room) (s : State) (m : MethodId) (args : Array Value) (below : List Frame) (meth : Method) (c : Code) (locs : List Loc) (cells slots : Nat) (T : State) (f : JFrame) (cA : ClassId) (N K : Nat) (xs : List Nat) (u : State) : Prop :=
  ∃ (i : Nat) (U : State) (oc : Cell), i ≤ N ∧ xs = List.range' i (N - i) ∧ u = U.setTop f ∧ Stand p l e R s m args below meth c U locs (cells + 1 + i) (slots + N + i * K) ∧ U.heap.size = T.heap.size + 1 + i ∧ U.heap[T.heap.size]? = some oc ∧ oc.cls = cA ∧ oc.vm = .none ∧ oc.slots.size = N ∧ U.vm = T.vm ∧ (∀ a : Nat, a < T.heap.size → U.heap[a]? = T.heap[a]?) ∧ U.slotsUsed = T.slotsUsed + N + i * K
theorem mz_make {E : CtlPost} {d : Bool} {acts : List Action} {T : State} {f : JFrame} {cA comp cc : ClassId} {kA kC : Class} {n k : Int32} {N K : Nat} (X : Stand p l e R s m args below meth c T locs cells slots)
    (hkA : T.vm.classes[cA]? = some kA) (hkindA : kA.kind = .array comp (.array .int)) (hkC : T.vm.classes[comp]? = some kC) (hkindC : kC.kind = .array cc .int)
    (hn : ¬ n < 0) (hk : ¬ k < 0) (hN : n.toNatClampNeg = N) (hK : k.toNatClampNeg = K) (hb1 : N * 4 ≤ 536870912) (hb2 : K * 4 ≤ 536870912) (hcells : cells + (1 + N) ≤ R.cells) (hslots : slots + (N + N * K) ≤ R.slots) {P : Addr → Pre}
    (hq : ∀ (U : State) d' acts', Stand p l e R s m args below meth c U locs (cells + 1 + N) (slots + N + N * K) → (∀ a : Nat, a < T.heap.size → U.heap[a]? = T.heap[a]?) → T.heap.size ≤ U.heap.size → P T.heap.size d' acts' (U.setTop f)) :
    wp (multianewarray.make cA [n, k]) P E e d acts (T.setTop f) := by
  obtain ⟨hr1, hr2⟩ := X.roomAbove hcells hslots
  have hl1 : N ≤ e.platform.arrayLengthLimit := by rw [Launch.admits_arrayLengthLimit X.admits]; omega
  have hl2 : K ≤ e.platform.arrayLengthLimit := by rw [Launch.admits_arrayLengthLimit X.admits]; omega
  have hh1 : N * componentBytes (.array .int) ≤ e.platform.maxHeapBytes := by rw [Launch.admits_maxHeapBytes X.admits]; exact hb1
  have hh2 : K * componentBytes .int ≤ e.platform.maxHeapBytes := by rw [Launch.admits_maxHeapBytes X.admits]; exact hb2
  have hfind : ([k].find? (· < 0)) = none := by simp [hk]
  rw [multianewarray.make]
  simp only [wp_bind', W.ite, hn, if_false, wp_pure', W.theClass, hkA, hkindA, Option.some.injEq, exists_eq_left', State.vm_setTop]
  rw [hN]
  refine mz_newArray (u := T.setTop f) (k := kA) hkA hkindA hl1 hh1 rfl rfl (by show T.heap.size < _; omega) (by show T.slotsUsed + N ≤ _; have := Nat.zero_le (N * K); omega) (fun d' acts' => ?_)
  simp only [hfind]
  rw [ite_self, wp_bind', Std.Legacy.Range.forIn_eq_forIn_range']
  have hsz : ([:N] : Std.Legacy.Range).size = N := by simp [Std.Legacy.Range.size]
  rw [hsz]
  show wp (forIn (List.range' 0 N 1) PUnit.unit _) _ E e _ _ _
  refine wp_forIn_inv (mz_I p l e R s m args below meth c locs cells slots T f cA N K) _ _ ?_ ?_ ?_
  · have X0 := X.pushed ({ cls := cA, slots := Array.replicate N .null, vm := .none } : Cell)
    rw [show ({ cls := cA, slots := Array.replicate N .null, vm := .none } : Cell).slots.size = N by simp] at X0
    refine ⟨0, T.pushCell { cls := cA, slots := Array.replicate N .null, vm := .none }, _, Nat.zero_le _, rfl, rfl, by simpa using X0, by simp, State.heap_pushCell_size _ _, rfl, rfl, by simp, rfl, fun a ha => State.heap_pushCell_of_lt _ _ ha, by simp [State.pushCell]⟩
  · rintro x xs u d1 acts1 Q' ⟨i, U, oc, hi, hl, rfl, XU, hz, ho, ho1, ho2, ho3, hv, hold, hus⟩ hnext
    have hlt : i < N := by
      rcases Nat.lt_or_ge i N with h | h
      · exact h
      · rw [show N - i = 0 by omega] at hl
        simp at hl
    obtain ⟨rfl, hrest⟩ : x = i ∧ xs = List.range' (i + 1) (N - (i + 1)) := by
      rw [show N - i = (N - (i + 1)) + 1 by omega, List.range'_succ] at hl
      exact ⟨(List.cons.inj hl).1, (List.cons.inj hl).2⟩
    have hmul : x * K + K ≤ N * K := by
      have h := Nat.mul_le_mul_right K (show x + 1 ≤ N from hlt)
      rw [Nat.succ_mul] at h
      exact h
    simp only [wp_bind']
    rw [multianewarray.make]
    simp only [wp_bind', W.ite, hk, if_false, wp_pure', W.theClass, State.vm_setTop, hv, hkC, hkindC, Option.some.injEq, exists_eq_left']
    rw [hK]
    refine mz_newArray (u := U.setTop f) (k := kC) (by rw [State.vm_setTop, hv]; exact hkC) hkindC hl2 hh2 rfl rfl (by show U.heap.size < _; omega) (by show U.slotsUsed + K ≤ _; omega) (fun d2 acts2 => ?_)
    have hlt0 : T.heap.size < U.heap.size := by omega
    have XP := XU.pushed ({ cls := comp, slots := Array.replicate K (defaultValue .int), vm := .none } : Cell)
    rw [show ({ cls := comp, slots := Array.replicate K (defaultValue .int), vm := .none } : Cell).slots.size = K by simp] at XP
    have hoc : (U.pushCell { cls := comp, slots := Array.replicate K (defaultValue .int), vm := .none }).heap[T.heap.size]? = some oc := by rw [State.heap_pushCell_of_lt (h := hlt0)]; exact ho
    have XS := XP.stored hoc x (.ref U.heap.size)
    have XD : Stand p l e R s m args below meth c _ locs (cells + 1 + x + 1) (slots + N + x * K + K) := Stand.dropFresh XS (fun z hz9 => by
      rw [List.mem_singleton.mp hz9]
      exact X.heapGrown)
    simp only [wp_bind', W.writeLoc, wp_pure']
    refine ⟨oc, hoc, by rw [ho2]; simp, by rw [ho3]; exact hlt, ?_, hnext _ _ _ ⟨x + 1, (U.pushCell { cls := comp, slots := Array.replicate K (defaultValue .int), vm := .none }).setCell T.heap.size (oc.setSlot x (.ref U.heap.size)), oc.setSlot x (.ref U.heap.size), hlt, hrest, rfl, ?_, ?_, ?_, ?_, ?_, ?_, ?_, ?_, ?_⟩⟩
    · rw [ho1, ho2]
      simp [State.fitsSlot, State.slotType?, State.pushCell, hv, hkA, hkindA, fits]
    · have e3 : slots + N + (x + 1) * K = slots + N + x * K + K := by rw [Nat.succ_mul]; omega
      rw [e3]
      exact XD
    · simp [State.setCell, State.pushCell]
      omega
    · exact State.heap_setCell_self hoc
    · simp [Cell.setSlot, ho1]
    · simp [Cell.setSlot, ho2]
    · simp [Cell.setSlot, ho3]
    · simp [State.setCell, State.pushCell, hv]
    · intro a ha
      rw [State.heap_setCell_other (show T.heap.size ≠ a by omega), State.heap_pushCell_of_lt (h := (by omega : a < U.heap.size))]
      exact hold a ha
    · simp [State.setCell, State.pushCell, hus, Nat.succ_mul]
      omega
  · rintro u d1 acts1 ⟨i, U, oc, hi, hl, rfl, XU, hz, -, -, -, -, -, hold, -⟩
    have hiN : i = N := by
      rcases Nat.lt_or_ge i N with h | h
      · rw [show N - i = (N - (i + 1)) + 1 by omega, List.range'_succ] at hl
        cases hl
      · omega
    subst hiN
    simp only [wp_pure']
    exact hq U _ _ XU hold (by omega)
variable {cc : ByteArray} {pc : Nat} {ls : Array Slot} {rest : List Value} {D : va_G} {cl : List vw_C} {A : Nat → Prop} {ws : va_W} {H0 : Heap}
/-- new int[N][K], of which nothing is read -/
theorem mz_multi (hexec : p.tables.exec = Jvm.exec) (hb : c.code = cc) {own : String} {index : Nat} (hown : s.vm.findClass own = some m.cls) (hclink : (Cond.classLink own index "[[I").before args s = true) (hAO : nw_AO s) (harr : (Cond.arrayClass .int).before args s = true)
    (hP : va_P D cl ws H) (hD : va_D A ws) (hS : va_S A H0 H locs) (hA : ∀ q, H0.size ≤ q → A q) {n k : Int32} {N K : Nat} (hn : ¬ n < 0) (hk : ¬ k < 0) (hN : n.toNatClampNeg = N) (hK : k.toNatClampNeg = K) (hb1 : N * 4 ≤ 536870912) (hb2 : K * 4 ≤ 536870912) (hcells : cells + (1 + N) ≤ R.cells) (hslots : slots + (N + N * K) ≤ R.slots) (hdg : decode cc pc = .ok (.multianewarray index 2, 4))
    (kk : ∀ (q : Nat) (H1 : Heap), va_P D cl ws H1 → va_D A ws → va_S A H0 H1 locs → W p l e R s m args below meth c H1 locs (cells + (1 + N)) (slots + (N + N * K)) Q (F0 m (pc + 4) ls (.ref q :: rest))) : W p l e R s m args below meth c H locs cells slots Q (F0 m pc ls (.int k :: .int n :: rest)) := by
  intro T hT X
  have hpl : e.platform.magicAccessors = ({} : Platform).magicAccessors := by rw [X.admits.platform]
  obtain ⟨comp, cA, kA, hcomp, hkA, hkindA, hnameA⟩ := hAO
  obtain ⟨comp', kC, cC, hcomp', hkC, hkindC⟩ := Cond.arrayClass_spec harr
  obtain rfl : comp = comp' := Option.some.inj (hcomp.symm.trans hcomp')
  obtain ⟨c0, hfc0, hcl⟩ := Cond.classLink_spec hown hclink e.platform hpl
  have en : "[" ++ (FieldType.array .int).toString = "[[I" := by decide +kernel
  rw [en] at hnameA
  obtain rfl : cA = c0 := Option.some.inj (hnameA.symm.trans hfc0)
  obtain ⟨hg₁, hwarm₁, hready₁⟩ := State.classEntry (e := e) X.warmed hcl
  generalize hvm1 : T.vm.noted m.cls index (.cls cA) = vm₁ at hg₁ hwarm₁ hready₁
  have hal : s.vm.Alike vm₁ := hwarm₁.alike
  obtain ⟨kA₁, hkA₁, heA⟩ := hal.2.2 _ _ hkA
  obtain ⟨kC₁, hkC₁, heC⟩ := hal.2.2 _ _ hkC
  have X₁ := X.noted hwarm₁
  have hd2 : decode c.code pc = .ok (.multianewarray index 2, 4) := by rw [hb]; exact hdg
  have fin : ∀ (U : State), Stand p l e R s m args below meth c U locs (cells + 1 + N) (slots + N + N * K) → (∀ a : Nat, a < T.heap.size → U.heap[a]? = T.heap[a]?) → T.heap.size ≤ U.heap.size → ∃ t, Steps p.tables e below (U.setTop (F0 m (pc + 4) ls (.ref T.heap.size :: rest))) t ∧ Q t := by
    intro U XU hold hsz
    have hP1 : va_P D cl ws U.heap := hP.kept (fun k x hx => by rw [hold x.1 (by rw [hT]; exact (hP k x hx).lt), hT])
    have hS1 : va_S A H0 U.heap locs := ⟨Nat.le_trans hS.1 (by rw [← hT]; exact hsz), fun q h1 h2 => by rw [hold q (by rw [hT]; exact Nat.lt_of_lt_of_le h1 hS.1), hT]; exact hS.2.1 q h1 h2, hS.2.2⟩
    exact kk T.heap.size U.heap hP1 hD hS1 U rfl (by rw [show cells + (1 + N) = cells + 1 + N by omega, show slots + (N + N * K) = slots + N + N * K by omega]; exact XU)
  have hw : wpRun (p.tables.exec (.multianewarray index 2)) (fun _ s₁ _ => ∃ U : State, s₁ = U.setTop (F0 m pc ls (.ref T.heap.size :: rest)) ∧ Stand p l e R s m args below meth c U locs (cells + 1 + N) (slots + N + N * K) ∧ (∀ a : Nat, a < T.heap.size → U.heap[a]? = T.heap[a]?) ∧ T.heap.size ≤ U.heap.size) (fun _ _ _ => False) e (T.setTop (F0 m pc ls (.int k :: .int n :: rest))) := by
    rw [hexec]
    simp only [wpRun, exec]
    simp only [multianewarray.sem, wp_bind', W.resolveClassAt_links (State.method?_setTop (F0 m pc ls (.int k :: .int n :: rest)) X.here.top) hg₁]
    rw [W.popN, if_neg (by decide)]
    refine ⟨F0 m pc ls (.int k :: .int n :: rest), State.topJava?_setTop' (s := T.setVm vm₁) _ X.here.top, [.int n, .int k], rest, rfl, rfl, ?_⟩
    simp only [List.mapM_cons, List.mapM_nil, wp_bind', wp_pure']
    have eS : ((T.setTop (F0 m pc ls (.int k :: .int n :: rest))).setVm vm₁).setTop { F0 m pc ls (.int k :: .int n :: rest) with stack := rest } = (T.setVm vm₁).setTop (F0 m pc ls rest) := by
      show ((T.setVm vm₁).setTop _).setTop _ = _
      rw [State.setTop_setTop]
    rw [eS]
    refine mz_make (f := F0 m pc ls rest) (kA := kA₁) (kC := kC₁) (comp := comp) (cc := cC) X₁ hkA₁ (by rw [heA]; exact hkindA) hkC₁ (by rw [heC]; exact hkindC) hn hk hN hK hb1 hb2 hcells hslots (fun U d' acts' XU hold hsz => ?_)
    simp only [wp_bind', W.mark, W.pushRef, State.topJava?_setTop' _ XU.here.top, Option.some.injEq, exists_eq_left', State.setTop_setTop]
    exact ⟨U, rfl, XU, hold, hsz⟩
  have hrun := (wpRun_iff_run _ _ _ _ _).mp hw
  cases hr : (p.tables.exec (.multianewarray index 2)).run e (T.setTop (F0 m pc ls (.int k :: .int n :: rest))) with
  | ok a s₁ acts =>
    rw [hr] at hrun
    obtain ⟨U, hU, XU, hold, hsz⟩ := hrun
    obtain ⟨t, st, hQ⟩ := fin U XU hold hsz
    refine ⟨t, ?_, hQ⟩
    refine Steps.instr (f := F0 m pc ls (.int k :: .int n :: rest)) (c := c) X.here ?_
    rw [show decode c.code (F0 m pc ls (.int k :: .int n :: rest)).pc = .ok (.multianewarray index 2, 4) from hd2]
    refine (wpRun_iff_run _ _ _ _ _).mpr ?_
    rw [hr]
    intro acts'
    subst hU
    simp [jvm, XU.here.top]
    exact st
  | ctl x s₁ acts =>
    rw [hr] at hrun
    cases x <;> exact False.elim hrun
end MW
