section PB
variable {p : Program} {l : Launch} {e : Env} {R : Room} {s : State} {m : MethodId} {args : Array Value} {below : List Frame} {meth : Method} {c : Code} {H : Heap} {locs : List Loc} {cells slots : Nat} {Q : State → Prop}
variable {cc : ByteArray} {pc : Nat} {ls : Array Slot} {rest : List Value} {D : va_G} {cl : List vw_C} {A : Nat → Prop} {tys : List (ClassId × FieldType)} {ws : va_W} {H0 : Heap}
/-- new boolean[N] -/
theorem pz_newb (hexec : p.tables.exec = Jvm.exec) (hb : c.code = cc) (harr : (Cond.arrayClass .boolean).before args s = true) {cy : ClassId} {x0 : ClassId × FieldType} (hK : va_K D cl (x0 :: (cy, .boolean) :: tys) s) (hP : va_P D cl ws H) (hD : va_D A ws) (hS : va_S A H0 H locs) (hA : ∀ q, H0.size ≤ q → A q)
    {n : Int32} (N : Nat) (hn : ¬ n < 0) (hN : n.toNatClampNeg = N) (hbytes : N * 1 ≤ 536870912) (hcells : cells + 1 ≤ R.cells) (hslots : slots + N ≤ R.slots) (hdg : decode cc pc = .ok (.newarray .boolean, 2))
    (kk : ∀ (q : Nat) (H1 : Heap), va_P D cl (ws ++ [(q, .inl (cy, N, .inl (fun _ => 0)))]) H1 → va_D A (ws ++ [(q, .inl (cy, N, .inl (fun _ => 0)))]) → va_S A H0 H1 locs →
      W p l e R s m args below meth c H1 locs (cells + 1) (slots + N) Q (F0 m (pc + 2) ls (.ref q :: rest))) : W p l e R s m args below meth c H locs cells slots Q (F0 m pc ls (.int n :: rest)) := by
  refine va_newa (atype := .boolean) (ty := .boolean) (a0 := (N, .inl (fun _ => 0))) (N' := N) hexec hb harr rfl hK hP hD hS hA (fun cA => rfl) hn hN hbytes hcells hslots hdg (fun q cA H1 hK1 hP1 hD1 hS1 => ?_)
  have h1 : s.vm.findClass ("[" ++ FieldType.boolean.toString) = some cy := (hK.2 1 _ rfl).2
  have h2 : s.vm.findClass ("[" ++ FieldType.boolean.toString) = some cA := (hK1.2 (tys.length + 2) (cA, .boolean) (by simp)).2
  obtain rfl : cy = cA := Option.some.inj (h1.symm.trans h2)
  exact kk q H1 hP1 hD1 hS1
theorem md_D {q : Nat} {l9 : va_W} (hP : va_P D cl ws H) (hD : va_D A ws) (hq : H.size = q) (hA : ∀ x, q ≤ x → A x) (hl : ∀ (k : Nat) (x : Nat × va_E), l9[k]? = some x → x.1 = q + k) : va_D A (ws ++ l9) := by
  refine ⟨fun i j x y hi hj he => ?_, fun k x hk => ?_⟩
  · by_cases h1 : i < ws.length
    · rw [List.getElem?_append_left h1] at hi
      by_cases h2 : j < ws.length
      · rw [List.getElem?_append_left h2] at hj
        exact hD.1 i j x y hi hj he
      · rw [List.getElem?_append_right (by omega)] at hj
        have a1 := (hP i x hi).lt
        have a2 := hl _ _ hj
        omega
    · rw [List.getElem?_append_right (by omega)] at hi
      have a1 := hl _ _ hi
      by_cases h2 : j < ws.length
      · rw [List.getElem?_append_left h2] at hj
        have a2 := (hP j y hj).lt
        omega
      · rw [List.getElem?_append_right (by omega)] at hj
        have a2 := hl _ _ hj
        omega
  · by_cases h1 : k < ws.length
    · rw [List.getElem?_append_left h1] at hk
      exact hD.2 k x hk
    · rw [List.getElem?_append_right (by omega)] at hk
      rw [hl _ _ hk]
      exact hA _ (by omega)
theorem md_P {H1 : Heap} {l9 : va_W} (hP : va_P D cl ws H1) (hl : ∀ (k : Nat) (x : Nat × va_E), l9[k]? = some x → va_at D cl x H1) : va_P D cl (ws ++ l9) H1 := by
  intro k x hk
  by_cases h1 : k < ws.length
  · rw [List.getElem?_append_left h1] at hk
    exact hP k x hk
  · rw [List.getElem?_append_right (by omega)] at hk
    exact hl _ _ hk
theorem arrV_congr {cA : ClassId} {N : Nat} {f g : Nat → Value} (h : ∀ j, j < N → f j = g j) : arrV cA N f = arrV cA N g := by
  unfold arrV
  congr 1
  apply Array.ext
  · simp
  · intro i h1 h2
    simp at h1
    simp [h i h1]
end PB
section MW
variable {p : Program} {l : Launch} {e : Env} {R : Room} {s : State} {m : MethodId} {args : Array Value} {below : List Frame} {meth : Method} {c : Code} {H : Heap} {locs : List Loc} {cells slots : Nat} {Q : State → Prop}
/-- what holds while the rows of new int[N][K] are made: i of them stand -/
def mz2_I (p : Program) (l : Launch) (e : Env) (R : Room) (s : State) (m : MethodId) (args : Array Value) (below : List Frame) (meth : Method) (c : Code) (locs : List Loc) (cells slots : Nat) (T : State) (f : JFrame) (cA comp : ClassId) (N K : Nat) (xs : List Nat) (u : State) : Prop :=
  ∃ (i : Nat) (U : State), i ≤ N ∧ xs = List.range' i (N - i) ∧ u = U.setTop f ∧ Stand p l e R s m args below meth c U locs (cells + 1 + i) (slots + N + i * K) ∧ U.heap.size = T.heap.size + 1 + i ∧ U.heap[T.heap.size]? = some (arrV cA N (fun j => if j < i then .ref (T.heap.size + 1 + j) else .null)) ∧ (∀ j : Nat, j < i → U.heap[T.heap.size + 1 + j]? = some (arrV comp K (fun _ => .int 0))) ∧ U.vm = T.vm ∧ (∀ a : Nat, a < T.heap.size → U.heap[a]? = T.heap[a]?) ∧ U.slotsUsed = T.slotsUsed + N + i * K
theorem mz2_make {E : CtlPost} {d : Bool} {acts : List Action} {T : State} {f : JFrame} {cA comp cc : ClassId} {kA kC : Class} {n k : Int32} {N K : Nat} (X : Stand p l e R s m args below meth c T locs cells slots)
    (hkA : T.vm.classes[cA]? = some kA) (hkindA : kA.kind = .array comp (.array .int)) (hkC : T.vm.classes[comp]? = some kC) (hkindC : kC.kind = .array cc .int)
    (hn : ¬ n < 0) (hk : ¬ k < 0) (hN : n.toNatClampNeg = N) (hK : k.toNatClampNeg = K) (hb1 : N * 4 ≤ 536870912) (hb2 : K * 4 ≤ 536870912) (hcells : cells + (1 + N) ≤ R.cells) (hslots : slots + (N + N * K) ≤ R.slots) {P : Addr → Pre}
    (hq : ∀ (U : State) d' acts', Stand p l e R s m args below meth c U locs (cells + 1 + N) (slots + N + N * K) → (∀ a : Nat, a < T.heap.size → U.heap[a]? = T.heap[a]?) → U.heap.size = T.heap.size + 1 + N → U.heap[T.heap.size]? = some (arrV cA N (fun j => .ref (T.heap.size + 1 + j))) → (∀ j : Nat, j < N → U.heap[T.heap.size + 1 + j]? = some (arrV comp K (fun _ => .int 0))) → P T.heap.size d' acts' (U.setTop f)) :
    wp (multianewarray.make cA [n, k]) P E e d acts (T.setTop f) := by
  obtain ⟨hr1, hr2⟩ := X.roomAbove hcells hslots
  have hl1 : N ≤ e.platform.arrayLengthLimit := by rw [Launch.admits_arrayLengthLimit X.admits]; omega
  have hl2 : K ≤ e.platform.arrayLengthLimit := by rw [Launch.admits_arrayLengthLimit X.admits]; omega
  have hh1 : N * componentBytes (.array .int) ≤ e.platform.maxHeapBytes := by rw [Launch.admits_maxHeapBytes X.admits]; exact hb1
  have hh2 : K * componentBytes .int ≤ e.platform.maxHeapBytes := by rw [Launch.admits_maxHeapBytes X.admits]; exact hb2
  have hfind : ([k].find? (· < 0)) = none := by simp [hk]
  rw [multianewarray.make]
  simp only [wp_bind', W.ite, hn, if_false, wp_pure', W.theClass, hkA, hkindA, Option.some.injEq, exists_eq_left', State.vm_setTop]
  rw [hN]
  refine mz_newArray (u := T.setTop f) (k := kA) hkA hkindA hl1 hh1 rfl rfl (by show T.heap.size < _; omega) (by show T.slotsUsed + N ≤ _; have := Nat.zero_le (N * K); omega) (fun d' acts' => ?_)
  simp only [hfind]
  rw [ite_self, wp_bind', Std.Legacy.Range.forIn_eq_forIn_range']
  have hsz : ([:N] : Std.Legacy.Range).size = N := by simp [Std.Legacy.Range.size]
  rw [hsz]
  show wp (forIn (List.range' 0 N 1) PUnit.unit _) _ E e _ _ _
  refine wp_forIn_inv (mz2_I p l e R s m args below meth c locs cells slots T f cA comp N K) _ _ ?_ ?_ ?_
  · have X0 := X.pushed ({ cls := cA, slots := Array.replicate N .null, vm := .none } : Cell)
    rw [show ({ cls := cA, slots := Array.replicate N .null, vm := .none } : Cell).slots.size = N by simp] at X0
    refine ⟨0, T.pushCell { cls := cA, slots := Array.replicate N .null, vm := .none }, Nat.zero_le _, rfl, rfl, by simpa using X0, by simp, ?_, fun j hj => absurd hj (Nat.not_lt_zero j), rfl, fun a ha => State.heap_pushCell_of_lt _ _ ha, by simp [State.pushCell]⟩
    rw [State.heap_pushCell_size, arrV_new]
    exact congrArg some (arrV_congr (fun j _ => by simp))
  · rintro x xs u d1 acts1 Q' ⟨i, U, hi, hl, rfl, XU, hz, ho, hrw, hv, hold, hus⟩ hnext
    have hlt : i < N := by
      rcases Nat.lt_or_ge i N with h | h
      · exact h
      · rw [show N - i = 0 by omega] at hl
        simp at hl
    obtain ⟨rfl, hrest⟩ : x = i ∧ xs = List.range' (i + 1) (N - (i + 1)) := by
      rw [show N - i = (N - (i + 1)) + 1 by omega, List.range'_succ] at hl
      exact ⟨(List.cons.inj hl).1, (List.cons.inj hl).2⟩
    have hmul : x * K + K ≤ N * K := by
      have h := Nat.mul_le_mul_right K (show x + 1 ≤ N from hlt)
      rw [Nat.succ_mul] at h
      exact h
    simp only [wp_bind']
    rw [multianewarray.make]
    simp only [wp_bind', W.ite, hk, if_false, wp_pure', W.theClass, State.vm_setTop, hv, hkC, hkindC, Option.some.injEq, exists_eq_left']
    rw [hK]
    refine mz_newArray (u := U.setTop f) (k := kC) (by rw [State.vm_setTop, hv]; exact hkC) hkindC hl2 hh2 rfl rfl (by show U.heap.size < _; omega) (by show U.slotsUsed + K ≤ _; omega) (fun d2 acts2 => ?_)
    have hlt0 : T.heap.size < U.heap.size := by omega
    have XP := XU.pushed ({ cls := comp, slots := Array.replicate K (defaultValue .int), vm := .none } : Cell)
    rw [show ({ cls := comp, slots := Array.replicate K (defaultValue .int), vm := .none } : Cell).slots.size = K by simp] at XP
    have hoc : (U.pushCell { cls := comp, slots := Array.replicate K (defaultValue .int), vm := .none }).heap[T.heap.size]? = some (arrV cA N (fun j => if j < x then .ref (T.heap.size + 1 + j) else .null)) := by rw [State.heap_pushCell_of_lt (h := hlt0)]; exact ho
    have XS := XP.stored hoc x (.ref U.heap.size)
    have XD : Stand p l e R s m args below meth c _ locs (cells + 1 + x + 1) (slots + N + x * K + K) := Stand.dropFresh XS (fun z hz9 => by
      rw [List.mem_singleton.mp hz9]
      exact X.heapGrown)
    simp only [wp_bind', W.writeLoc, wp_pure']
    refine ⟨_, hoc, by simp [arrV], by rw [arrV_size]; exact hlt, ?_, hnext _ _ _ ⟨x + 1, (U.pushCell { cls := comp, slots := Array.replicate K (defaultValue .int), vm := .none }).setCell T.heap.size ((arrV cA N (fun j => if j < x then .ref (T.heap.size + 1 + j) else .null)).setSlot x (.ref U.heap.size)), hlt, hrest, rfl, ?_, ?_, ?_, ?_, ?_, ?_, ?_⟩⟩
    · show State.fitsSlot _ cA .none _ _ = true
      simp [State.fitsSlot, State.slotType?, State.pushCell, hv, hkA, hkindA, fits]
    · have e3 : slots + N + (x + 1) * K = slots + N + x * K + K := by rw [Nat.succ_mul]; omega
      rw [e3]
      exact XD
    · simp [State.setCell, State.pushCell]
      omega
    · rw [State.heap_setCell_self hoc, arrV_store]
      refine congrArg some (arrV_congr (fun j _ => ?_))
      unfold updV
      by_cases h : j = x
      · subst h
        rw [if_pos rfl, if_pos (Nat.lt_succ_self _), hz]
      · rw [if_neg h]
        show (if j < x then Value.ref (T.heap.size + 1 + j) else Value.null) = (if j < x + 1 then Value.ref (T.heap.size + 1 + j) else Value.null)
        by_cases h2 : j < x
        · rw [if_pos h2, if_pos (Nat.lt_succ_of_lt h2)]
        · rw [if_neg h2, if_neg (by omega)]
    · intro j hj
      rw [State.heap_setCell_other (show T.heap.size ≠ T.heap.size + 1 + j by omega)]
      by_cases h : j < x
      · rw [State.heap_pushCell_of_lt (h := (by omega : T.heap.size + 1 + j < U.heap.size))]
        exact hrw j h
      · have e4 : T.heap.size + 1 + j = U.heap.size := by omega
        rw [e4, State.heap_pushCell_size, arrV_new]
        rfl
    · simp [State.setCell, State.pushCell, hv]
    · intro a ha
      rw [State.heap_setCell_other (show T.heap.size ≠ a by omega), State.heap_pushCell_of_lt (h := (by omega : a < U.heap.size))]
      exact hold a ha
    · simp [State.setCell, State.pushCell, hus, Nat.succ_mul]
      omega
  · rintro u d1 acts1 ⟨i, U, hi, hl, rfl, XU, hz, ho, hrw, -, hold, -⟩
    have hiN : i = N := by
      rcases Nat.lt_or_ge i N with h | h
      · rw [show N - i = (N - (i + 1)) + 1 by omega, List.range'_succ] at hl
        cases hl
      · omega
    subst hiN
    simp only [wp_pure']
    exact hq U _ _ XU hold hz (by rw [ho]; exact congrArg some (arrV_congr (fun j hj => if_pos hj))) hrw
variable {cc : ByteArray} {pc : Nat} {ls : Array Slot} {rest : List Value} {D : va_G} {cl : List vw_C} {A : Nat → Prop} {ws : va_W} {H0 : Heap}
/-- new int[6][300] -/
theorem mz2_multi (hexec : p.tables.exec = Jvm.exec) (hb : c.code = cc) {own : String} {index : Nat} (hown : s.vm.findClass own = some m.cls) (hclink : (Cond.classLink own index "[[I").before args s = true) (hAO : nw_AO s) (harr : (Cond.arrayClass .int).before args s = true)
    {cyI cyZ cyR : ClassId} {tys : List (ClassId × FieldType)} (hKK : va_K D cl ((cyI, .int) :: (cyZ, .boolean) :: (cyR, .array .int) :: tys) s) (hP : va_P D cl ws H) (hD : va_D A ws) (hS : va_S A H0 H locs) (hA : ∀ q, H0.size ≤ q → A q) (hcells : cells + 7 ≤ R.cells) (hslots : slots + 1806 ≤ R.slots) (hdg : decode cc pc = .ok (.multianewarray index 2, 4))
    (kk : ∀ (q : Nat) (H1 : Heap), va_P D cl (ws ++ [(q, .inl (cyR, 6, .inr (.inr (.inr (.inr (fun i => some (q + 1 + i))))))), (q + 1, .inl (cyI, 300, .inl (fun _ => 0))), (q + 2, .inl (cyI, 300, .inl (fun _ => 0))), (q + 3, .inl (cyI, 300, .inl (fun _ => 0))), (q + 4, .inl (cyI, 300, .inl (fun _ => 0))), (q + 5, .inl (cyI, 300, .inl (fun _ => 0))), (q + 6, .inl (cyI, 300, .inl (fun _ => 0)))]) H1 → va_D A (ws ++ [(q, .inl (cyR, 6, .inr (.inr (.inr (.inr (fun i => some (q + 1 + i))))))), (q + 1, .inl (cyI, 300, .inl (fun _ => 0))), (q + 2, .inl (cyI, 300, .inl (fun _ => 0))), (q + 3, .inl (cyI, 300, .inl (fun _ => 0))), (q + 4, .inl (cyI, 300, .inl (fun _ => 0))), (q + 5, .inl (cyI, 300, .inl (fun _ => 0))), (q + 6, .inl (cyI, 300, .inl (fun _ => 0)))]) → va_S A H0 H1 locs → W p l e R s m args below meth c H1 locs (cells + 7) (slots + 1806) Q (F0 m (pc + 4) ls (.ref q :: rest))) : W p l e R s m args below meth c H locs cells slots Q (F0 m pc ls (.int 300 :: .int 6 :: rest)) := by
  intro T hT X
  have hpl : e.platform.magicAccessors = ({} : Platform).magicAccessors := by rw [X.admits.platform]
  obtain ⟨comp, cA, kA, hcomp, hkA, hkindA, hnameA⟩ := hAO
  obtain ⟨comp', kC, cC, hcomp', hkC, hkindC⟩ := Cond.arrayClass_spec harr
  obtain rfl : comp = comp' := Option.some.inj (hcomp.symm.trans hcomp')
  obtain ⟨c0, hfc0, hcl⟩ := Cond.classLink_spec hown hclink e.platform hpl
  have en : "[" ++ (FieldType.array .int).toString = "[[I" := by decide +kernel
  rw [en] at hnameA
  obtain rfl : cA = c0 := Option.some.inj (hnameA.symm.trans hfc0)
  obtain ⟨hg₁, hwarm₁, hready₁⟩ := State.classEntry (e := e) X.warmed hcl
  generalize hvm1 : T.vm.noted m.cls index (.cls cA) = vm₁ at hg₁ hwarm₁ hready₁
  have hal : s.vm.Alike vm₁ := hwarm₁.alike
  obtain ⟨kA₁, hkA₁, heA⟩ := hal.2.2 _ _ hkA
  obtain ⟨kC₁, hkC₁, heC⟩ := hal.2.2 _ _ hkC
  have X₁ := X.noted hwarm₁
  obtain rfl : cyI = comp := by
    have h1 := va_nm_int (hKK.2 0 _ rfl).2
    have h2 : s.vm.findClass "[I" = some comp := hcomp
    exact (Option.some.inj (h2.symm.trans h1)).symm
  obtain rfl : cyR = cA := by
    have h1 : s.vm.findClass ("[" ++ (FieldType.array .int).toString) = some cyR := (hKK.2 2 _ rfl).2
    rw [en] at h1
    exact (Option.some.inj (hfc0.symm.trans h1)).symm
  have hd2 : decode c.code pc = .ok (.multianewarray index 2, 4) := by rw [hb]; exact hdg
  have fin : ∀ (U : State), Stand p l e R s m args below meth c U locs (cells + 1 + 6) (slots + 6 + 6 * 300) → (∀ a : Nat, a < T.heap.size → U.heap[a]? = T.heap[a]?) → U.heap.size = T.heap.size + 1 + 6 → U.heap[T.heap.size]? = some (arrV cyR 6 (fun j => .ref (T.heap.size + 1 + j))) → (∀ j : Nat, j < 6 → U.heap[T.heap.size + 1 + j]? = some (arrV cyI 300 (fun _ => .int 0))) → ∃ t, Steps p.tables e below (U.setTop (F0 m (pc + 4) ls (.ref T.heap.size :: rest))) t ∧ Q t := by
    intro U XU hold hsz hout hrow
    have hP1 : va_P D cl ws U.heap := hP.kept (fun k x hx => by rw [hold x.1 (by rw [hT]; exact (hP k x hx).lt), hT])
    have hS1 : va_S A H0 U.heap locs := ⟨Nat.le_trans hS.1 (by rw [← hT]; omega), fun q h1 h2 => by rw [hold q (by rw [hT]; exact Nat.lt_of_lt_of_le h1 hS.1), hT]; exact hS.2.1 q h1 h2, hS.2.2⟩
    obtain ⟨q, hq⟩ : ∃ q, q = T.heap.size := ⟨_, rfl⟩
    rw [← hq] at hout hrow ⊢
    have hP2 : va_P D cl (ws ++ [(q, .inl (cyR, 6, .inr (.inr (.inr (.inr (fun i => some (q + 1 + i))))))), (q + 1, .inl (cyI, 300, .inl (fun _ => 0))), (q + 2, .inl (cyI, 300, .inl (fun _ => 0))), (q + 3, .inl (cyI, 300, .inl (fun _ => 0))), (q + 4, .inl (cyI, 300, .inl (fun _ => 0))), (q + 5, .inl (cyI, 300, .inl (fun _ => 0))), (q + 6, .inl (cyI, 300, .inl (fun _ => 0)))]) U.heap := md_P hP1 (fun k x hx => by
      match k, hx with
      | 0, hx => cases hx; exact hout
      | 1, hx => cases hx; exact hrow 0 (by decide)
      | 2, hx => cases hx; exact hrow 1 (by decide)
      | 3, hx => cases hx; exact hrow 2 (by decide)
      | 4, hx => cases hx; exact hrow 3 (by decide)
      | 5, hx => cases hx; exact hrow 4 (by decide)
      | 6, hx => cases hx; exact hrow 5 (by decide)
      | k + 7, hx => simp at hx)
    have hD2 : va_D A (ws ++ [(q, .inl (cyR, 6, .inr (.inr (.inr (.inr (fun i => some (q + 1 + i))))))), (q + 1, .inl (cyI, 300, .inl (fun _ => 0))), (q + 2, .inl (cyI, 300, .inl (fun _ => 0))), (q + 3, .inl (cyI, 300, .inl (fun _ => 0))), (q + 4, .inl (cyI, 300, .inl (fun _ => 0))), (q + 5, .inl (cyI, 300, .inl (fun _ => 0))), (q + 6, .inl (cyI, 300, .inl (fun _ => 0)))]) := md_D (q := q) hP hD (by rw [← hT]; exact hq.symm) (fun x hx => hA x (Nat.le_trans hS.1 (by rw [← hT, ← hq]; exact hx))) (fun k x hx => by
      match k, hx with
      | 0, hx => cases hx; rfl
      | 1, hx => cases hx; rfl
      | 2, hx => cases hx; rfl
      | 3, hx => cases hx; rfl
      | 4, hx => cases hx; rfl
      | 5, hx => cases hx; rfl
      | 6, hx => cases hx; rfl
      | k + 7, hx => simp at hx)
    exact kk q U.heap hP2 hD2 hS1 U rfl XU
  have hw : wpRun (p.tables.exec (.multianewarray index 2)) (fun _ s₁ _ => ∃ U : State, s₁ = U.setTop (F0 m pc ls (.ref T.heap.size :: rest)) ∧ Stand p l e R s m args below meth c U locs (cells + 1 + 6) (slots + 6 + 6 * 300) ∧ (∀ a : Nat, a < T.heap.size → U.heap[a]? = T.heap[a]?) ∧ U.heap.size = T.heap.size + 1 + 6 ∧ U.heap[T.heap.size]? = some (arrV cyR 6 (fun j => .ref (T.heap.size + 1 + j))) ∧ (∀ j : Nat, j < 6 → U.heap[T.heap.size + 1 + j]? = some (arrV cyI 300 (fun _ => .int 0)))) (fun _ _ _ => False) e (T.setTop (F0 m pc ls (.int 300 :: .int 6 :: rest))) := by
    rw [hexec]
    simp only [wpRun, exec]
    simp only [multianewarray.sem, wp_bind', W.resolveClassAt_links (State.method?_setTop (F0 m pc ls (.int 300 :: .int 6 :: rest)) X.here.top) hg₁]
    rw [W.popN, if_neg (by decide)]
    refine ⟨F0 m pc ls (.int 300 :: .int 6 :: rest), State.topJava?_setTop' (s := T.setVm vm₁) _ X.here.top, [.int 6, .int 300], rest, rfl, rfl, ?_⟩
    simp only [List.mapM_cons, List.mapM_nil, wp_bind', wp_pure']
    have eS : ((T.setTop (F0 m pc ls (.int 300 :: .int 6 :: rest))).setVm vm₁).setTop { F0 m pc ls (.int 300 :: .int 6 :: rest) with stack := rest } = (T.setVm vm₁).setTop (F0 m pc ls rest) := by
      show ((T.setVm vm₁).setTop _).setTop _ = _
      rw [State.setTop_setTop]
    rw [eS]
    refine mz2_make (f := F0 m pc ls rest) (kA := kA₁) (kC := kC₁) (comp := cyI) (N := 6) (K := 300) (cc := cC) X₁ hkA₁ (by rw [heA]; exact hkindA) hkC₁ (by rw [heC]; exact hkindC) (by decide) (by decide) (by decide) (by decide) (by decide) (by decide) hcells hslots (fun U d' acts' XU hold hsz hout hrow => ?_)
    simp only [wp_bind', W.mark, W.pushRef, State.topJava?_setTop' _ XU.here.top, Option.some.injEq, exists_eq_left', State.setTop_setTop]
    exact ⟨U, rfl, XU, hold, hsz, hout, hrow⟩
  have hrun := (wpRun_iff_run _ _ _ _ _).mp hw
  cases hr : (p.tables.exec (.multianewarray index 2)).run e (T.setTop (F0 m pc ls (.int 300 :: .int 6 :: rest))) with
  | ok a s₁ acts =>
    rw [hr] at hrun
    obtain ⟨U, hU, XU, hold, hsz, hout, hrow⟩ := hrun
    obtain ⟨t, st, hQ⟩ := fin U XU hold hsz hout hrow
    refine ⟨t, ?_, hQ⟩
    refine Steps.instr (f := F0 m pc ls (.int 300 :: .int 6 :: rest)) (c := c) X.here ?_
    rw [show decode c.code (F0 m pc ls (.int 300 :: .int 6 :: rest)).pc = .ok (.multianewarray index 2, 4) from hd2]
    refine (wpRun_iff_run _ _ _ _ _).mpr ?_
    rw [hr]
    intro acts'
    subst hU
    simp [jvm, XU.here.top]
    exact st
  | ctl x s₁ acts =>
    rw [hr] at hrun
    cases x <;> exact False.elim hrun
end MW
