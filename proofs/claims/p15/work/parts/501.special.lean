theorem pd_X10_begin : yX10_begin.cls = RX10 ∧ yX10_begin.cls ≠ "java/lang/invoke/MethodHandle" ∧ yX10_begin.cls ≠ "java/lang/invoke/VarHandle" ∧ (parseMethodDescriptor yX10_begin.desc).map (fun d => d.parameters.length) = some 2 := by decide +kernel
theorem pd_X10_writeEntry : yX10_writeEntry.cls = RX10 ∧ yX10_writeEntry.cls ≠ "java/lang/invoke/MethodHandle" ∧ yX10_writeEntry.cls ≠ "java/lang/invoke/VarHandle" ∧ (parseMethodDescriptor yX10_writeEntry.desc).map (fun d => d.parameters.length) = some 2 := by decide +kernel
theorem pd_X10_writePlaces : yX10_writePlaces.cls = RX10 ∧ yX10_writePlaces.cls ≠ "java/lang/invoke/MethodHandle" ∧ yX10_writePlaces.cls ≠ "java/lang/invoke/VarHandle" ∧ (parseMethodDescriptor yX10_writePlaces.desc).map (fun d => d.parameters.length) = some 0 := by decide +kernel
theorem pd_X11_machineOf : yX11_machineOf.cls = RX11 ∧ yX11_machineOf.cls ≠ "java/lang/invoke/MethodHandle" ∧ yX11_machineOf.cls ≠ "java/lang/invoke/VarHandle" ∧ (parseMethodDescriptor yX11_machineOf.desc).map (fun d => d.parameters.length) = some 1 := by decide +kernel
theorem pd_X1_open : yX1_open.cls = RX1 ∧ yX1_open.cls ≠ "java/lang/invoke/MethodHandle" ∧ yX1_open.cls ≠ "java/lang/invoke/VarHandle" ∧ (parseMethodDescriptor yX1_open.desc).map (fun d => d.parameters.length) = some 2 := by decide +kernel
theorem pd_X2_give : yX2_give.cls = RX2 ∧ yX2_give.cls ≠ "java/lang/invoke/MethodHandle" ∧ yX2_give.cls ≠ "java/lang/invoke/VarHandle" ∧ (parseMethodDescriptor yX2_give.desc).map (fun d => d.parameters.length) = some 4 := by decide +kernel
theorem pd_X5_build : yX5_build.cls = RX5 ∧ yX5_build.cls ≠ "java/lang/invoke/MethodHandle" ∧ yX5_build.cls ≠ "java/lang/invoke/VarHandle" ∧ (parseMethodDescriptor yX5_build.desc).map (fun d => d.parameters.length) = some 2 := by decide +kernel
theorem pd_X5_forward : yX5_forward.cls = RX5 ∧ yX5_forward.cls ≠ "java/lang/invoke/MethodHandle" ∧ yX5_forward.cls ≠ "java/lang/invoke/VarHandle" ∧ (parseMethodDescriptor yX5_forward.desc).map (fun d => d.parameters.length) = some 0 := by decide +kernel
theorem pd_X9_leaveOut : yX9_leaveOut.cls = RX9 ∧ yX9_leaveOut.cls ≠ "java/lang/invoke/MethodHandle" ∧ yX9_leaveOut.cls ≠ "java/lang/invoke/VarHandle" ∧ (parseMethodDescriptor yX9_leaveOut.desc).map (fun d => d.parameters.length) = some 0 := by decide +kernel
/-- the words of a throw besides -/
theorem vz_mem {w : Cond} {a : Cond} (h : w ∈ vzS) : w ∈ a :: (BIG ++ vzS) := List.mem_cons_of_mem _ (List.mem_append_right _ h)
theorem vz_big {w : Cond} {a : Cond} (h : w ∈ BIG) : w ∈ a :: (BIG ++ vzS) := List.mem_cons_of_mem _ (List.mem_append_left _ h)
abbrev qX (g : GG) (q n sz : Nat) (σ σ' : Sg) : String → State → State → Prop := vx_X (S := Unit) (fun _ => True) (fun E _ t => E = "java/util/NoSuchElementException" ∧ qB g q n σ' (va_A (wA g q n σ) sz) t) (va_A (wA g q n σ) sz)
/-- the contract of a method that throws -/
def CTt (l : Launch) (y : MethodName) (cd : ByteArray) (mL : Nat) (rt : Option FieldType) (g : GG) (q n : Nat) (as : List Value) (σ σ' : Sg) : Prop :=
  ∀ sz, vx_Met l y (.code y cd mL rt :: (BIG ++ vzS)) { frames := 8, cells := 1, slots := 6, locals := 200 } (va_Pc as (qpre g q n σ sz)) (va_Qi (S := Unit) (fun _ _ => False) (fun _ _ => True) (va_A (wA g q n σ) sz)) (qX g q n sz σ σ') 1 6 (va_A (wA g q n σ) sz)
abbrev qRt : Room := { frames := 8, cells := 1, slots := 6, locals := 200 }
def CXt (p : Program) (l : Launch) (e : Env) (s : State) (m : MethodId) (args : Array Value) (below : List Frame) (meth : Method) (c : Code) (cc : ByteArray) (nL : Nat) (g : GG) (q n : Nat) (A : Nat → Prop) (Q : State → Prop) (out : Option (Int32 × Sg)) : Prop :=
  CallFix p m c cc nL s args BIG RX11 ∧ va_K g.1 vwCl (gt g) s ∧ nw_all s ∧ xz g A s s.heap ∧ (∀ x, s.heap.size ≤ x → A x) ∧
  ∀ {is sa : Nat} {text : String} (H : Heap) (locs : List Loc) (ls : Array Slot) (σ1 : Sg) (pc : Nat), some (0, σ1) = out → wI g q n σ1 A s.heap H locs → ls.size = nL → vk_R RX11 is text sa s → decode cc pc = .ok (.new 125, 3) → decode cc (pc + 3) = .ok (.dup, 1) → decode cc (pc + 4) = .ok (.ldc is, 2) → decode cc (pc + 6) = .ok (.invokespecial 129, 3) → decode cc (pc + 9) = .ok (.athrow, 1) → W p l e qRt s m args below meth c H locs 0 0 Q (F0 m pc ls [])
theorem e_t {l : Launch} (hst : l.stackTraces = false) {y : MethodName} {cd : ByteArray} {mL : Nat} {g : GG} {q n : Nat} {as : List Value} {σ σ' : Sg} {r : Int32} (hy : plainName y.cls = true) (hyo : y.cls = RX11) (hlen : (lg_sl as).length ≤ mL)
    (body : ∀ (p : Program) (e : Env) (s : State) (m : MethodId) (args : Array Value) (below : List Frame) (meth : Method) (c : Code) (A : Nat → Prop) (Q : State → Prop) (ls : Array Slot), CXt p l e s m args below meth c cd mL g q n A Q (some (r, σ')) → lv_has ls mL (lv_args 0 as) → wI g q n σ A s.heap s.heap [] → W p l e qRt s m args below meth c s.heap [] 0 0 Q (F0 m 0 ls [])) : CTt l y cd mL (some .int) g q n as σ σ' := by
  intro sz
  refine vx_ofW (cc := cd) (maxL := mL) (ret := some .int) hy rfl ?_
  intro p e s m args below meth c s₁ B hml htb hv
  obtain ⟨rfl, hsz, hP, hK, hD0, hN, hZ⟩ := hv
  subst hsz
  have hx := B.exec
  have hb := B.bytes
  have hts := atoms_spec (ws := .code y cd mL (some .int) :: (BIG ++ vzS)) B.pre
  have hlocks := B.notSynchronized
  have hown : s.vm.findClass RX11 = some m.cls := hyo ▸ findClass_of_methodNamed B.named
  have hl := lv_entry as (n := mL) hlen
  rw [lg_entry_eq]
  generalize (lg_sl as ++ List.replicate (mL - (lg_sl as).length) Slot.unset).toArray = ls at hl ⊢
  have ht : ∀ w ∈ BIG, w.before as.toArray s = true := fun w h => hts w (vz_big h)
  have hvz : ∀ w ∈ vzS, w.before as.toArray s = true := fun w h => hts w (vz_mem h)
  refine body p e s m as.toArray below meth c (va_A (wA g q n σ) s.heap.size) _ ls ⟨⟨hx, hb, hml, hown, ht⟩, hK, hN, hZ, fun x h => Or.inr h, fun H locs ls σ1 pc hm hI hsize hstr d0 d3 d4 d6 d9 => ?_⟩ hl ⟨hP, hD0.self, va_S.rf⟩
  cases hm
  exact mz_throwS (A := va_A (wA g q n σ) s.heap.size) hx hb hst hown (ht _ mw_714) (ht _ mw_715) hstr (tz_hat hvz hZ.1.1) tz_good hZ.1.2.1 hZ.1.2.2.1 hI.2.2 (hsize.trans hml.symm) d0 d3 d4 d6 d9 (fun x h => (htb x h).elim) (by decide) (by decide) (by decide) (by decide) hlocks (fun t _ hz hk => ⟨(), trivial, ⟨rfl, fun k x hk' => (hI.1 k x hk').kept (hk _ (vx_lt hI.1 hk')), hI.2.1⟩, Nat.le_trans hI.2.2.1 hz, fun q h1 h2 => (hk q (Nat.lt_of_lt_of_le h1 hI.2.2.1)).trans (hI.2.2.2.1 q h1 h2)⟩) hI.2.2.2.2 (by decide) (by decide)
theorem gc_some {α : Type} {b : Bool} {x : Option α} {y : α} (h : (bif b then x else none) = some y) : b = true ∧ x = some y := by
  cases b with
  | false => exact nomatch h
  | true => exact ⟨rfl, h⟩
set_option maxHeartbeats 4000000 in
set_option maxRecDepth 100000 in
theorem c_X11_machineOf_X8 {l : Launch} {g : GG} {q : Nat} (n : Nat) {σ : Sg} {p0 : Int32} (h0 : p0 = 0) : CTr l yX11_machineOf cX11_machineOf 2 (some (.object "RegisterMill$Machine")) 0 0 g q n [.ref (ga g 0), .int p0] σ (ga g 45) := by
  refine e_r (by decide) (Nat.le_of_ble_eq_true rfl) ?_
  intro p e s m args below meth c A Q ls hC hl hI
  obtain ⟨hX, hK, hN, hZ, hA, hR⟩ := id hC
  have hx : p.tables.exec = Jvm.exec := hX.1
  have hb : c.code = cX11_machineOf := hX.2.1
  have hml : c.maxLocals = 2 := hX.2.2.1
  have hown : s.vm.findClass RX11 = some m.cls := hX.2.2.2.1
  have ht : ∀ w ∈ BIG, w.before args s = true := hX.2.2.2.2
  have hl : lv_has ls 2 [(0, .ref (ga g 0)), (1, .int p0)] := hl
  refine lv_iload_n hx hb dX11_machineOf_0 rfl (lv_at hl 1 rfl) ?_
  refine lv_if_ne (tgt := 11) hx hb dX11_machineOf_1 (by decide) (fun h => absurd h0 h) (fun _ => ?_)
  refine lv_aload_n hx hb dX11_machineOf_4 rfl (lv_at hl 0 rfl) ?_
  refine gf_0_3 hx hb ht hK hI mw_649 (fun _ h9 => h9) hown dX11_machineOf_5 ?_
  refine lv_goto (tgt := 15) hx hb dX11_machineOf_8 (by decide) ?_
  exact hR _ _ _ _ hI dX11_machineOf_15

set_option maxHeartbeats 4000000 in
set_option maxRecDepth 100000 in
theorem c_X11_machineOf_X7 {l : Launch} {g : GG} {q : Nat} (n : Nat) {σ : Sg} {p0 : Int32} (h0 : ¬ p0 = 0) : CTr l yX11_machineOf cX11_machineOf 2 (some (.object "RegisterMill$Machine")) 0 0 g q n [.ref (ga g 0), .int p0] σ (ga g 52) := by
  refine e_r (by decide) (Nat.le_of_ble_eq_true rfl) ?_
  intro p e s m args below meth c A Q ls hC hl hI
  obtain ⟨hX, hK, hN, hZ, hA, hR⟩ := id hC
  have hx : p.tables.exec = Jvm.exec := hX.1
  have hb : c.code = cX11_machineOf := hX.2.1
  have hml : c.maxLocals = 2 := hX.2.2.1
  have hown : s.vm.findClass RX11 = some m.cls := hX.2.2.2.1
  have ht : ∀ w ∈ BIG, w.before args s = true := hX.2.2.2.2
  have hl : lv_has ls 2 [(0, .ref (ga g 0)), (1, .int p0)] := hl
  refine lv_iload_n hx hb dX11_machineOf_0 rfl (lv_at hl 1 rfl) ?_
  refine lv_if_ne (tgt := 11) hx hb dX11_machineOf_1 (by decide) (fun _ => ?_) (fun h => absurd h h0)
  refine lv_aload_n hx hb dX11_machineOf_11 rfl (lv_at hl 0 rfl) ?_
  refine gf_0_4 hx hb ht hK hI mw_653 (fun _ h9 => h9) hown dX11_machineOf_12 ?_
  exact hR _ _ _ _ hI dX11_machineOf_15

def f_X11_look (N n : Nat) (σ : Sg) (p0 : Int32) (p1 : Int32) : Option (Int32 × Sg) := if p0 < 0 then (some ((-1), σ)) else (if p0 ≤ 1 then (if p0 = 0 then (bd (f_X4_tell_X8 N n σ p1) (fun r4 σ5 => some (r4, σ5))) else (bd (f_X4_tell_X7 N n σ p1) (fun r7 σ8 => some (r7, σ8)))) else (some ((-1), σ)))
set_option maxHeartbeats 4000000 in
set_option maxRecDepth 100000 in
theorem c_X11_look {l : Launch} {g : GG} {q : Nat} (N n : Nat) {σ : Sg} {p0 : Int32} {p1 : Int32} {r : Int32} {σ' : Sg} (hm : f_X11_look N n σ p0 p1 = some (r, σ')) : CTi l yX11_look cX11_look 3 (some .int) 1 21 g q n [.ref (ga g 0), .int p0, .int p1] σ r σ' := by
  refine e_i (r := r) (by decide) (Nat.le_of_ble_eq_true rfl) ?_
  intro p e s m args below meth c A Q ls hC hl hI
  obtain ⟨hX, hK, hN, hZ, hA, hR⟩ := id hC
  have hx : p.tables.exec = Jvm.exec := hX.1
  have hb : c.code = cX11_look := hX.2.1
  have hml : c.maxLocals = 3 := hX.2.2.1
  have hown : s.vm.findClass RX11 = some m.cls := hX.2.2.2.1
  have ht : ∀ w ∈ BIG, w.before args s = true := hX.2.2.2.2
  have hl : lv_has ls 3 [(0, .ref (ga g 0)), (1, .int p0), (2, .int p1)] := hl
  unfold f_X11_look at hm
  refine lv_iload_n hx hb dX11_look_0 rfl (lv_at hl 1 rfl) ?_
  refine lv_if_lt (tgt := 9) hx hb dX11_look_1 (by decide) (fun c1 => ?_) (fun c1 => ?_)
  · have hm := (if_pos c1).symm.trans hm
    refine lv_iconst (v := (-1)) hx hb dX11_look_9 (by decide) ?_
    exact hR _ _ _ _ _ _ hm hI dX11_look_10
  · have hm := (if_neg c1).symm.trans hm
    refine lv_iload_n hx hb dX11_look_4 rfl (lv_at hl 1 rfl) ?_
    refine lv_iconst (v := 1) hx hb dX11_look_5 (by decide) ?_
    refine lv_icmp_le (tgt := 11) hx hb dX11_look_6 (by decide) (fun c2 => ?_) (fun c2 => ?_)
    · have hm := (if_pos c2).symm.trans hm
      refine lv_aload_n hx hb dX11_look_11 rfl (lv_at hl 0 rfl) ?_
      refine lv_iload_n hx hb dX11_look_12 rfl (lv_at hl 1 rfl) ?_
      by_cases c3 : p0 = 0
      · have hm := (if_pos c3).symm.trans hm
        refine k_r hI hA (va_runV (As := [.int p0]) (rest := []) hX (c_X11_machineOf_X8 n c3 _) (cwV 1 ht (in_V mw_744 mw_745 mw_746 mw_267 mw_742) rfl rfl rfl pd_X11_machineOf ⟨Nat.le_of_ble_eq_true rfl, Nat.le_of_ble_eq_true rfl⟩) ⟨q_blind, va_recv hK hI.1 (ci := 10) (q0 := 0) rfl rfl, q_to hI hK hN hZ hA⟩ rfl rfl hl.1 rfl (lv_room (Nat.le_of_ble_eq_true rfl)) dX11_look_13 (by decide)) (fun H locs hI => ?_)
        refine lv_iload_n hx hb dX11_look_16 rfl (lv_at hl 2 rfl) ?_
        obtain ⟨r4, σ5, h6, hm⟩ := bd_some hm
        refine k_i hI hA (va_runU (As := [.int p1]) (rest := []) hX (c_X4_tell_X8 N n h6 _) (va_cwU 1 ht (in_U mw_747 mw_748 mw_751 mw_750 mw_244 mw_383) rfl rfl rfl rfl (by decide +kernel) ⟨Nat.le_of_ble_eq_true rfl, Nat.le_of_ble_eq_true rfl⟩) ⟨q_blind, va_recv hK hI.1 (ci := 7) (q0 := 45) rfl rfl, q_to hI hK hN hZ hA⟩ rfl rfl hl.1 rfl (lv_room (Nat.le_of_ble_eq_true rfl)) dX11_look_17 (by decide)) (fun H locs hI => ?_)
        exact hR _ _ _ _ _ _ hm hI dX11_look_20
      · have hm := (if_neg c3).symm.trans hm
        refine k_r hI hA (va_runV (As := [.int p0]) (rest := []) hX (c_X11_machineOf_X7 n c3 _) (cwV 1 ht (in_V mw_744 mw_745 mw_746 mw_267 mw_742) rfl rfl rfl pd_X11_machineOf ⟨Nat.le_of_ble_eq_true rfl, Nat.le_of_ble_eq_true rfl⟩) ⟨q_blind, va_recv hK hI.1 (ci := 10) (q0 := 0) rfl rfl, q_to hI hK hN hZ hA⟩ rfl rfl hl.1 rfl (lv_room (Nat.le_of_ble_eq_true rfl)) dX11_look_13 (by decide)) (fun H locs hI => ?_)
        refine lv_iload_n hx hb dX11_look_16 rfl (lv_at hl 2 rfl) ?_
        obtain ⟨r7, σ8, h9, hm⟩ := bd_some hm
        refine k_i hI hA (va_runU (As := [.int p1]) (rest := []) hX (c_X4_tell_X7 N n h9 _) (va_cwU 1 ht (in_U mw_747 mw_748 mw_749 mw_750 mw_244 mw_383) rfl rfl rfl rfl (by decide +kernel) ⟨Nat.le_of_ble_eq_true rfl, Nat.le_of_ble_eq_true rfl⟩) ⟨q_blind, va_recv hK hI.1 (ci := 6) (q0 := 52) rfl rfl, q_to hI hK hN hZ hA⟩ rfl rfl hl.1 rfl (lv_room (Nat.le_of_ble_eq_true rfl)) dX11_look_17 (by decide)) (fun H locs hI => ?_)
        exact hR _ _ _ _ _ _ hm hI dX11_look_20
    · have hm := (if_neg c2).symm.trans hm
      refine lv_iconst (v := (-1)) hx hb dX11_look_9 (by decide) ?_
      exact hR _ _ _ _ _ _ hm hI dX11_look_10

def f_X11_op (N n : Nat) (σ : Sg) (p0 : Int32) (p1 : Int32) (p2 : Int32) : Option (Int32 × Sg) := bd (f_X11_isTurned N n σ p0) (fun r1 σ2 => if r1 = 0 then (none) else (if p1 < 0 then (none) else (gb p0 12 (if p1 < (σ2 41 (ix p0)) then (if p2 < 0 then (none) else (if p2 < 5 then (bd (f_X1_part N n σ2 p0 p1 p2) (fun r10 σ11 => some (r10, σ11))) else (none))) else (none)))))
set_option maxHeartbeats 4000000 in
set_option maxRecDepth 100000 in
theorem c_X11_op {l : Launch} {g : GG} {q : Nat} (N n : Nat) {σ : Sg} {p0 : Int32} {p1 : Int32} {p2 : Int32} {r : Int32} {σ' : Sg} (hm : f_X11_op N n σ p0 p1 p2 = some (r, σ')) : CTi l yX11_op cX11_op 4 (some .int) 2 42 g q n [.ref (ga g 0), .int p0, .int p1, .int p2] σ r σ' := by
  refine e_i (r := r) (by decide) (Nat.le_of_ble_eq_true rfl) ?_
  intro p e s m args below meth c A Q ls hC hl hI
  obtain ⟨hX, hK, hN, hZ, hA, hR⟩ := id hC
  have hx : p.tables.exec = Jvm.exec := hX.1
  have hb : c.code = cX11_op := hX.2.1
  have hml : c.maxLocals = 4 := hX.2.2.1
  have hown : s.vm.findClass RX11 = some m.cls := hX.2.2.2.1
  have ht : ∀ w ∈ BIG, w.before args s = true := hX.2.2.2.2
  have hl : lv_has ls 4 [(0, .ref (ga g 0)), (1, .int p0), (2, .int p1), (3, .int p2)] := hl
  unfold f_X11_op at hm
  refine lv_aload_n hx hb dX11_op_0 rfl (lv_at hl 0 rfl) ?_
  refine lv_iload_n hx hb dX11_op_1 rfl (lv_at hl 1 rfl) ?_
  obtain ⟨r1, σ2, h3, hm⟩ := bd_some hm
  refine k_i hI hA (va_runV (As := [.int p0]) (rest := []) hX (c_X11_isTurned N n h3 _) (cwV 1 ht (in_V mw_717 mw_718 mw_719 mw_267 mw_713) rfl rfl rfl pd_X11_isTurned ⟨Nat.le_of_ble_eq_true rfl, Nat.le_of_ble_eq_true rfl⟩) ⟨q_blind, va_recv hK hI.1 (ci := 10) (q0 := 0) rfl rfl, q_to hI hK hN hZ hA⟩ rfl rfl hl.1 rfl (lv_room (Nat.le_of_ble_eq_true rfl)) dX11_op_2 (by decide)) (fun H locs hI => ?_)
  refine lv_if_eq (tgt := 28) hx hb dX11_op_5 (by decide) (fun c4 => ?_) (fun c4 => ?_)
  · have hm := (if_pos c4).symm.trans hm
    exact nomatch hm
  · have hm := (if_neg c4).symm.trans hm
    refine lv_iload_n hx hb dX11_op_8 rfl (lv_at hl 2 rfl) ?_
    refine lv_if_lt (tgt := 28) hx hb dX11_op_9 (by decide) (fun c5 => ?_) (fun c5 => ?_)
    · have hm := (if_pos c5).symm.trans hm
      exact nomatch hm
    · have hm := (if_neg c5).symm.trans hm
      refine lv_iload_n hx hb dX11_op_12 rfl (lv_at hl 2 rfl) ?_
      refine lv_aload_n hx hb dX11_op_13 rfl (lv_at hl 0 rfl) ?_
      refine gf_0_2 hx hb ht hK hI mw_646 (fun _ h9 => h9) hown dX11_op_14 ?_
      refine gf_11_4 hx hb ht hK hI mw_652 (fun _ h9 => h9) hown dX11_op_17 ?_
      refine gf_39_1 hx hb ht hK hI mw_716 (fun _ h9 => h9) hown dX11_op_20 ?_
      refine lv_iload_n hx hb dX11_op_23 rfl (lv_at hl 1 rfl) ?_
      obtain ⟨g6, hm⟩ := gb_some hm
      refine ld_41 hx hb hK hI g6 (v := σ2 41 (ix p0)) rfl dX11_op_24 ?_
      refine lv_icmp_lt (tgt := 38) hx hb dX11_op_25 (by decide) (fun c7 => ?_) (fun c7 => ?_)
      · have hm := (if_pos c7).symm.trans hm
        refine lv_iload_n hx hb dX11_op_38 rfl (lv_at hl 3 rfl) ?_
        refine lv_if_lt (tgt := 47) hx hb dX11_op_39 (by decide) (fun c8 => ?_) (fun c8 => ?_)
        · have hm := (if_pos c8).symm.trans hm
          exact nomatch hm
        · have hm := (if_neg c8).symm.trans hm
          refine lv_iload_n hx hb dX11_op_42 rfl (lv_at hl 3 rfl) ?_
          refine lv_iconst (v := 5) hx hb dX11_op_43 (by decide) ?_
          refine lv_icmp_lt (tgt := 57) hx hb dX11_op_44 (by decide) (fun c9 => ?_) (fun c9 => ?_)
          · have hm := (if_pos c9).symm.trans hm
            refine lv_aload_n hx hb dX11_op_57 rfl (lv_at hl 0 rfl) ?_
            refine gf_0_2 hx hb ht hK hI mw_646 (fun _ h9 => h9) hown dX11_op_58 ?_
            refine gf_11_4 hx hb ht hK hI mw_652 (fun _ h9 => h9) hown dX11_op_61 ?_
            refine lv_iload_n hx hb dX11_op_64 rfl (lv_at hl 1 rfl) ?_
            refine lv_iload_n hx hb dX11_op_65 rfl (lv_at hl 2 rfl) ?_
            refine lv_iload_n hx hb dX11_op_66 rfl (lv_at hl 3 rfl) ?_
            obtain ⟨r10, σ11, h12, hm⟩ := bd_some hm
            refine k_i hI hA (va_runV (As := [.int p0, .int p1, .int p2]) (rest := []) hX (c_X1_part N n h12 _) (cwV 3 ht (in_V mw_720 mw_260 mw_261 mw_95 mw_96) rfl rfl rfl pd_X1_part ⟨Nat.le_of_ble_eq_true rfl, Nat.le_of_ble_eq_true rfl⟩) ⟨q_blind, va_recv hK hI.1 (ci := 1) (q0 := 39) rfl rfl, q_to hI hK hN hZ hA⟩ rfl rfl hl.1 rfl (lv_room (Nat.le_of_ble_eq_true rfl)) dX11_op_67 (by decide)) (fun H locs hI => ?_)
            exact hR _ _ _ _ _ _ hm hI dX11_op_70
          · have hm := (if_neg c9).symm.trans hm
            exact nomatch hm
      · have hm := (if_neg c7).symm.trans hm
        exact nomatch hm

def f_X11_peek (N n : Nat) (σ : Sg) (p0 : Int32) (p1 : Int32) : Option (Int32 × Sg) := if p0 < 0 then (none) else (if 1 < p0 then (none) else (if p1 < 0 then (none) else (if p1 < 64 then (if p0 = 0 then (gb p1 64 (some (σ 46 (ix p1), σ))) else (gb p1 64 (some (σ 53 (ix p1), σ)))) else (none))))
set_option maxHeartbeats 4000000 in
set_option maxRecDepth 100000 in
theorem c_X11_peek {l : Launch} {g : GG} {q : Nat} (N n : Nat) {σ : Sg} {p0 : Int32} {p1 : Int32} {r : Int32} {σ' : Sg} (hm : f_X11_peek N n σ p0 p1 = some (r, σ')) : CTi l yX11_peek cX11_peek 3 (some .int) 1 21 g q n [.ref (ga g 0), .int p0, .int p1] σ r σ' := by
  refine e_i (r := r) (by decide) (Nat.le_of_ble_eq_true rfl) ?_
  intro p e s m args below meth c A Q ls hC hl hI
  obtain ⟨hX, hK, hN, hZ, hA, hR⟩ := id hC
  have hx : p.tables.exec = Jvm.exec := hX.1
  have hb : c.code = cX11_peek := hX.2.1
  have hml : c.maxLocals = 3 := hX.2.2.1
  have hown : s.vm.findClass RX11 = some m.cls := hX.2.2.2.1
  have ht : ∀ w ∈ BIG, w.before args s = true := hX.2.2.2.2
  have hl : lv_has ls 3 [(0, .ref (ga g 0)), (1, .int p0), (2, .int p1)] := hl
  unfold f_X11_peek at hm
  refine lv_iload_n hx hb dX11_peek_0 rfl (lv_at hl 1 rfl) ?_
  refine lv_if_lt (tgt := 19) hx hb dX11_peek_1 (by decide) (fun c1 => ?_) (fun c1 => ?_)
  · have hm := (if_pos c1).symm.trans hm
    exact nomatch hm
  · have hm := (if_neg c1).symm.trans hm
    refine lv_iload_n hx hb dX11_peek_4 rfl (lv_at hl 1 rfl) ?_
    refine lv_iconst (v := 1) hx hb dX11_peek_5 (by decide) ?_
    refine lv_icmp_gt (tgt := 19) hx hb dX11_peek_6 (by decide) (fun c2 => ?_) (fun c2 => ?_)
    · have hm := (if_pos c2).symm.trans hm
      exact nomatch hm
    · have hm := (if_neg c2).symm.trans hm
      refine lv_iload_n hx hb dX11_peek_9 rfl (lv_at hl 2 rfl) ?_
      refine lv_if_lt (tgt := 19) hx hb dX11_peek_10 (by decide) (fun c3 => ?_) (fun c3 => ?_)
      · have hm := (if_pos c3).symm.trans hm
        exact nomatch hm
      · have hm := (if_neg c3).symm.trans hm
        refine lv_iload_n hx hb dX11_peek_13 rfl (lv_at hl 2 rfl) ?_
        refine lv_bipush (v := 64) hx hb dX11_peek_14 (by decide) ?_
        refine lv_icmp_lt (tgt := 29) hx hb dX11_peek_16 (by decide) (fun c4 => ?_) (fun c4 => ?_)
        · have hm := (if_pos c4).symm.trans hm
          refine lv_aload_n hx hb dX11_peek_29 rfl (lv_at hl 0 rfl) ?_
          refine lv_iload_n hx hb dX11_peek_30 rfl (lv_at hl 1 rfl) ?_
          by_cases c5 : p0 = 0
          · have hm := (if_pos c5).symm.trans hm
            refine k_r hI hA (va_runV (As := [.int p0]) (rest := []) hX (c_X11_machineOf_X8 n c5 _) (cwV 1 ht (in_V mw_744 mw_745 mw_746 mw_267 mw_742) rfl rfl rfl pd_X11_machineOf ⟨Nat.le_of_ble_eq_true rfl, Nat.le_of_ble_eq_true rfl⟩) ⟨q_blind, va_recv hK hI.1 (ci := 10) (q0 := 0) rfl rfl, q_to hI hK hN hZ hA⟩ rfl rfl hl.1 rfl (lv_room (Nat.le_of_ble_eq_true rfl)) dX11_peek_31 (by decide)) (fun H locs hI => ?_)
            refine gf_45_0 hx hb ht hK hI mw_696 (fun _ h9 => h9) hown dX11_peek_34 ?_
            refine lv_iload_n hx hb dX11_peek_37 rfl (lv_at hl 2 rfl) ?_
            obtain ⟨g6, hm⟩ := gb_some hm
            refine ld_46 hx hb hK hI g6 (v := σ 46 (ix p1)) rfl dX11_peek_38 ?_
            exact hR _ _ _ _ _ _ hm hI dX11_peek_39
          · have hm := (if_neg c5).symm.trans hm
            refine k_r hI hA (va_runV (As := [.int p0]) (rest := []) hX (c_X11_machineOf_X7 n c5 _) (cwV 1 ht (in_V mw_744 mw_745 mw_746 mw_267 mw_742) rfl rfl rfl pd_X11_machineOf ⟨Nat.le_of_ble_eq_true rfl, Nat.le_of_ble_eq_true rfl⟩) ⟨q_blind, va_recv hK hI.1 (ci := 10) (q0 := 0) rfl rfl, q_to hI hK hN hZ hA⟩ rfl rfl hl.1 rfl (lv_room (Nat.le_of_ble_eq_true rfl)) dX11_peek_31 (by decide)) (fun H locs hI => ?_)
            refine gf_52_0 hx hb ht hK hI mw_696 (fun _ h9 => h9) hown dX11_peek_34 ?_
            refine lv_iload_n hx hb dX11_peek_37 rfl (lv_at hl 2 rfl) ?_
            obtain ⟨g7, hm⟩ := gb_some hm
            refine ld_53 hx hb hK hI g7 (v := σ 53 (ix p1)) rfl dX11_peek_38 ?_
            exact hR _ _ _ _ _ _ hm hI dX11_peek_39
        · have hm := (if_neg c4).symm.trans hm
          exact nomatch hm

def t_X11_op (N n : Nat) (σ : Sg) (p0 : Int32) (p1 : Int32) (p2 : Int32) : Option (Int32 × Sg) := bd (f_X11_isTurned N n σ p0) (fun r1 σ2 => if r1 = 0 then (some (0, σ2)) else (if p1 < 0 then (some (0, σ2)) else (gb p0 12 (if p1 < (σ2 41 (ix p0)) then (if p2 < 0 then (some (0, σ2)) else (if p2 < 5 then (bd (f_X1_part N n σ2 p0 p1 p2) (fun r10 σ11 => none)) else (some (0, σ2)))) else (some (0, σ2))))))
set_option maxHeartbeats 4000000 in
set_option maxRecDepth 100000 in
theorem ct_X11_op {l : Launch} (hst : l.stackTraces = false) {g : GG} {q : Nat} (N n : Nat) {σ : Sg} {p0 : Int32} {p1 : Int32} {p2 : Int32} {r : Int32} {σ' : Sg} (hm : t_X11_op N n σ p0 p1 p2 = some (r, σ')) : CTt l yX11_op cX11_op 4 (some .int) g q n [.ref (ga g 0), .int p0, .int p1, .int p2] σ σ' := by
  refine e_t hst (r := r) (by decide) rfl (Nat.le_of_ble_eq_true rfl) ?_
  intro p e s m args below meth c A Q ls hC hl hI
  obtain ⟨hX, hK, hN, hZ, hA, hR⟩ := id hC
  have hx : p.tables.exec = Jvm.exec := hX.1
  have hb : c.code = cX11_op := hX.2.1
  have hml : c.maxLocals = 4 := hX.2.2.1
  have hown : s.vm.findClass RX11 = some m.cls := hX.2.2.2.1
  have ht : ∀ w ∈ BIG, w.before args s = true := hX.2.2.2.2
  have hl : lv_has ls 4 [(0, .ref (ga g 0)), (1, .int p0), (2, .int p1), (3, .int p2)] := hl
  unfold t_X11_op at hm
  refine lv_aload_n hx hb dX11_op_0 rfl (lv_at hl 0 rfl) ?_
  refine lv_iload_n hx hb dX11_op_1 rfl (lv_at hl 1 rfl) ?_
  obtain ⟨r1, σ2, h3, hm⟩ := bd_some hm
  refine k_i hI hA (va_runV (As := [.int p0]) (rest := []) hX (c_X11_isTurned N n h3 _) (cwV 1 ht (in_V mw_717 mw_718 mw_719 mw_267 mw_713) rfl rfl rfl pd_X11_isTurned ⟨Nat.le_of_ble_eq_true rfl, Nat.le_of_ble_eq_true rfl⟩) ⟨q_blind, va_recv hK hI.1 (ci := 10) (q0 := 0) rfl rfl, q_to hI hK hN hZ hA⟩ rfl rfl hl.1 rfl (lv_room (Nat.le_of_ble_eq_true rfl)) dX11_op_2 (by decide)) (fun H locs hI => ?_)
  refine lv_if_eq (tgt := 28) hx hb dX11_op_5 (by decide) (fun c4 => ?_) (fun c4 => ?_)
  · have hm := (if_pos c4).symm.trans hm
    exact hR _ _ _ _ _ hm hI hl.1 hZ.1.2.2.2.1 dX11_op_28 dX11_op_31 dX11_op_32 dX11_op_34 dX11_op_37
  · have hm := (if_neg c4).symm.trans hm
    refine lv_iload_n hx hb dX11_op_8 rfl (lv_at hl 2 rfl) ?_
    refine lv_if_lt (tgt := 28) hx hb dX11_op_9 (by decide) (fun c5 => ?_) (fun c5 => ?_)
    · have hm := (if_pos c5).symm.trans hm
      exact hR _ _ _ _ _ hm hI hl.1 hZ.1.2.2.2.1 dX11_op_28 dX11_op_31 dX11_op_32 dX11_op_34 dX11_op_37
    · have hm := (if_neg c5).symm.trans hm
      refine lv_iload_n hx hb dX11_op_12 rfl (lv_at hl 2 rfl) ?_
      refine lv_aload_n hx hb dX11_op_13 rfl (lv_at hl 0 rfl) ?_
      refine gf_0_2 hx hb ht hK hI mw_646 (fun _ h9 => h9) hown dX11_op_14 ?_
      refine gf_11_4 hx hb ht hK hI mw_652 (fun _ h9 => h9) hown dX11_op_17 ?_
      refine gf_39_1 hx hb ht hK hI mw_716 (fun _ h9 => h9) hown dX11_op_20 ?_
      refine lv_iload_n hx hb dX11_op_23 rfl (lv_at hl 1 rfl) ?_
      obtain ⟨g6, hm⟩ := gb_some hm
      refine ld_41 hx hb hK hI g6 (v := σ2 41 (ix p0)) rfl dX11_op_24 ?_
      refine lv_icmp_lt (tgt := 38) hx hb dX11_op_25 (by decide) (fun c7 => ?_) (fun c7 => ?_)
      · have hm := (if_pos c7).symm.trans hm
        refine lv_iload_n hx hb dX11_op_38 rfl (lv_at hl 3 rfl) ?_
        refine lv_if_lt (tgt := 47) hx hb dX11_op_39 (by decide) (fun c8 => ?_) (fun c8 => ?_)
        · have hm := (if_pos c8).symm.trans hm
          exact hR _ _ _ _ _ hm hI hl.1 hZ.2.1 dX11_op_47 dX11_op_50 dX11_op_51 dX11_op_53 dX11_op_56
        · have hm := (if_neg c8).symm.trans hm
          refine lv_iload_n hx hb dX11_op_42 rfl (lv_at hl 3 rfl) ?_
          refine lv_iconst (v := 5) hx hb dX11_op_43 (by decide) ?_
          refine lv_icmp_lt (tgt := 57) hx hb dX11_op_44 (by decide) (fun c9 => ?_) (fun c9 => ?_)
          · have hm := (if_pos c9).symm.trans hm
            refine lv_aload_n hx hb dX11_op_57 rfl (lv_at hl 0 rfl) ?_
            refine gf_0_2 hx hb ht hK hI mw_646 (fun _ h9 => h9) hown dX11_op_58 ?_
            refine gf_11_4 hx hb ht hK hI mw_652 (fun _ h9 => h9) hown dX11_op_61 ?_
            refine lv_iload_n hx hb dX11_op_64 rfl (lv_at hl 1 rfl) ?_
            refine lv_iload_n hx hb dX11_op_65 rfl (lv_at hl 2 rfl) ?_
            refine lv_iload_n hx hb dX11_op_66 rfl (lv_at hl 3 rfl) ?_
            obtain ⟨r10, σ11, h12, hm⟩ := bd_some hm
            refine k_i hI hA (va_runV (As := [.int p0, .int p1, .int p2]) (rest := []) hX (c_X1_part N n h12 _) (cwV 3 ht (in_V mw_720 mw_260 mw_261 mw_95 mw_96) rfl rfl rfl pd_X1_part ⟨Nat.le_of_ble_eq_true rfl, Nat.le_of_ble_eq_true rfl⟩) ⟨q_blind, va_recv hK hI.1 (ci := 1) (q0 := 39) rfl rfl, q_to hI hK hN hZ hA⟩ rfl rfl hl.1 rfl (lv_room (Nat.le_of_ble_eq_true rfl)) dX11_op_67 (by decide)) (fun H locs hI => ?_)
            exact nomatch hm
          · have hm := (if_neg c9).symm.trans hm
            exact hR _ _ _ _ _ hm hI hl.1 hZ.2.1 dX11_op_47 dX11_op_50 dX11_op_51 dX11_op_53 dX11_op_56
      · have hm := (if_neg c7).symm.trans hm
        exact hR _ _ _ _ _ hm hI hl.1 hZ.1.2.2.2.1 dX11_op_28 dX11_op_31 dX11_op_32 dX11_op_34 dX11_op_37

def t_X11_peek (N n : Nat) (σ : Sg) (p0 : Int32) (p1 : Int32) : Option (Int32 × Sg) := if p0 < 0 then (some (0, σ)) else (if 1 < p0 then (some (0, σ)) else (if p1 < 0 then (some (0, σ)) else (if p1 < 64 then (if p0 = 0 then (gb p1 64 (none)) else (gb p1 64 (none))) else (some (0, σ)))))
set_option maxHeartbeats 4000000 in
set_option maxRecDepth 100000 in
theorem ct_X11_peek {l : Launch} (hst : l.stackTraces = false) {g : GG} {q : Nat} (N n : Nat) {σ : Sg} {p0 : Int32} {p1 : Int32} {r : Int32} {σ' : Sg} (hm : t_X11_peek N n σ p0 p1 = some (r, σ')) : CTt l yX11_peek cX11_peek 3 (some .int) g q n [.ref (ga g 0), .int p0, .int p1] σ σ' := by
  refine e_t hst (r := r) (by decide) rfl (Nat.le_of_ble_eq_true rfl) ?_
  intro p e s m args below meth c A Q ls hC hl hI
  obtain ⟨hX, hK, hN, hZ, hA, hR⟩ := id hC
  have hx : p.tables.exec = Jvm.exec := hX.1
  have hb : c.code = cX11_peek := hX.2.1
  have hml : c.maxLocals = 3 := hX.2.2.1
  have hown : s.vm.findClass RX11 = some m.cls := hX.2.2.2.1
  have ht : ∀ w ∈ BIG, w.before args s = true := hX.2.2.2.2
  have hl : lv_has ls 3 [(0, .ref (ga g 0)), (1, .int p0), (2, .int p1)] := hl
  unfold t_X11_peek at hm
  refine lv_iload_n hx hb dX11_peek_0 rfl (lv_at hl 1 rfl) ?_
  refine lv_if_lt (tgt := 19) hx hb dX11_peek_1 (by decide) (fun c1 => ?_) (fun c1 => ?_)
  · have hm := (if_pos c1).symm.trans hm
    exact hR _ _ _ _ _ hm hI hl.1 hZ.1.2.2.2.2 dX11_peek_19 dX11_peek_22 dX11_peek_23 dX11_peek_25 dX11_peek_28
  · have hm := (if_neg c1).symm.trans hm
    refine lv_iload_n hx hb dX11_peek_4 rfl (lv_at hl 1 rfl) ?_
    refine lv_iconst (v := 1) hx hb dX11_peek_5 (by decide) ?_
    refine lv_icmp_gt (tgt := 19) hx hb dX11_peek_6 (by decide) (fun c2 => ?_) (fun c2 => ?_)
    · have hm := (if_pos c2).symm.trans hm
      exact hR _ _ _ _ _ hm hI hl.1 hZ.1.2.2.2.2 dX11_peek_19 dX11_peek_22 dX11_peek_23 dX11_peek_25 dX11_peek_28
    · have hm := (if_neg c2).symm.trans hm
      refine lv_iload_n hx hb dX11_peek_9 rfl (lv_at hl 2 rfl) ?_
      refine lv_if_lt (tgt := 19) hx hb dX11_peek_10 (by decide) (fun c3 => ?_) (fun c3 => ?_)
      · have hm := (if_pos c3).symm.trans hm
        exact hR _ _ _ _ _ hm hI hl.1 hZ.1.2.2.2.2 dX11_peek_19 dX11_peek_22 dX11_peek_23 dX11_peek_25 dX11_peek_28
      · have hm := (if_neg c3).symm.trans hm
        refine lv_iload_n hx hb dX11_peek_13 rfl (lv_at hl 2 rfl) ?_
        refine lv_bipush (v := 64) hx hb dX11_peek_14 (by decide) ?_
        refine lv_icmp_lt (tgt := 29) hx hb dX11_peek_16 (by decide) (fun c4 => ?_) (fun c4 => ?_)
        · have hm := (if_pos c4).symm.trans hm
          refine lv_aload_n hx hb dX11_peek_29 rfl (lv_at hl 0 rfl) ?_
          refine lv_iload_n hx hb dX11_peek_30 rfl (lv_at hl 1 rfl) ?_
          by_cases c5 : p0 = 0
          · have hm := (if_pos c5).symm.trans hm
            refine k_r hI hA (va_runV (As := [.int p0]) (rest := []) hX (c_X11_machineOf_X8 n c5 _) (cwV 1 ht (in_V mw_744 mw_745 mw_746 mw_267 mw_742) rfl rfl rfl pd_X11_machineOf ⟨Nat.le_of_ble_eq_true rfl, Nat.le_of_ble_eq_true rfl⟩) ⟨q_blind, va_recv hK hI.1 (ci := 10) (q0 := 0) rfl rfl, q_to hI hK hN hZ hA⟩ rfl rfl hl.1 rfl (lv_room (Nat.le_of_ble_eq_true rfl)) dX11_peek_31 (by decide)) (fun H locs hI => ?_)
            refine gf_45_0 hx hb ht hK hI mw_696 (fun _ h9 => h9) hown dX11_peek_34 ?_
            refine lv_iload_n hx hb dX11_peek_37 rfl (lv_at hl 2 rfl) ?_
            obtain ⟨g6, hm⟩ := gb_some hm
            refine ld_46 hx hb hK hI g6 (v := σ 46 (ix p1)) rfl dX11_peek_38 ?_
            exact nomatch hm
          · have hm := (if_neg c5).symm.trans hm
            refine k_r hI hA (va_runV (As := [.int p0]) (rest := []) hX (c_X11_machineOf_X7 n c5 _) (cwV 1 ht (in_V mw_744 mw_745 mw_746 mw_267 mw_742) rfl rfl rfl pd_X11_machineOf ⟨Nat.le_of_ble_eq_true rfl, Nat.le_of_ble_eq_true rfl⟩) ⟨q_blind, va_recv hK hI.1 (ci := 10) (q0 := 0) rfl rfl, q_to hI hK hN hZ hA⟩ rfl rfl hl.1 rfl (lv_room (Nat.le_of_ble_eq_true rfl)) dX11_peek_31 (by decide)) (fun H locs hI => ?_)
            refine gf_52_0 hx hb ht hK hI mw_696 (fun _ h9 => h9) hown dX11_peek_34 ?_
            refine lv_iload_n hx hb dX11_peek_37 rfl (lv_at hl 2 rfl) ?_
            obtain ⟨g7, hm⟩ := gb_some hm
            refine ld_53 hx hb hK hI g7 (v := σ 53 (ix p1)) rfl dX11_peek_38 ?_
            exact nomatch hm
        · have hm := (if_neg c4).symm.trans hm
          exact hR _ _ _ _ _ hm hI hl.1 hZ.1.2.2.2.2 dX11_peek_19 dX11_peek_22 dX11_peek_23 dX11_peek_25 dX11_peek_28
