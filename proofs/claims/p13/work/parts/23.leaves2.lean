def wq_X4_hasCell_X8bad : List Cond := .code yX4_hasCell cX4_hasCell 2 (some .boolean) :: ([.code yX4_finish cX4_finish 2 none, .fieldLink RX4 21 "RegisterMill$Machine" "end" "I", .fieldLink RX4 34 "RegisterMill$Machine" "nested" "I", .methodLink RX4 49 ⟨"RegisterMill$Machine", "finish", "(I)V"⟩, .sameMethod "RegisterMill$Machine" "RegisterMill$Machine" "finish" "(I)V", .selects RX8 ⟨"RegisterMill$Machine", "finish", "(I)V"⟩ yX4_finish, .instanceMethod yX4_finish, .initialized RX4] ++ wsX80)
set_option maxRecDepth 20000 in
theorem gq_X4_hasCell_X8bad_X4_finish_X8_49X8 : GoodIn wq_X4_hasCell_X8bad (va_wsU RX4 49 RX8 "RegisterMill$Machine" ⟨"RegisterMill$Machine", "finish", "(I)V"⟩ yX4_finish wq_X4_finish_X8) := goodIn_r _ [4, 5, 6, 7, 8, 1, 2, 3, 9, 10, 11, 12, 13, 14, 15, 16, 17, 18, 19, 20, 21] (by decide +kernel) (by decide +kernel)
set_option maxHeartbeats 4000000 in
set_option maxRecDepth 100000 in
/-- hasCell: there is none -/
theorem c_X4_hasCell_X8bad (l : Launch) (dC : Nat → ClassId) (dI : Nat → Nat → Nat) (cyI : ClassId) (sz : Nat) (mc : Nat) (q_memory : Nat) (q_funcs : Nat) (q_nexts : Nat) (q_program : Nat) (q_locals : Nat) (q_stack : Nat) (q_bottoms : Nat) (nz : Nat) (ve : Int32) (vt : Int32) (vs : Int32) (vc : Int32) (vp : Int32) (p0 : Int32) (hbad : p0 < 0 ∨ 64 ≤ p0) : Met l yX4_hasCell wq_X4_hasCell_X8bad ({ frames := 1, cells := 0, slots := 0, locals := 21 }) (va_Pc [.ref mc, .int p0] (pz_pre dC dI [(cyI, .int)] [(mc, .inr (7, [.ref q_memory, .ref q_funcs, .ref q_nexts, .int ve, .int vt, .int vs, .int vc, .int (nI nz), .ref q_program, .ref q_locals, .ref q_stack, .ref q_bottoms, .int vp]))] sz)) (va_Qi (S := Unit) (fun (r : Int32) _ => r = 0) (fun _ t => pz_B dC dI [(cyI, .int)] (va_A [(mc, .inr (7, [.ref q_memory, .ref q_funcs, .ref q_nexts, .int ve, .int vt, .int vs, .int vc, .int (nI nz), .ref q_program, .ref q_locals, .ref q_stack, .ref q_bottoms, .int vp]))] sz) [(mc, .inr (7, [.ref q_memory, .ref q_funcs, .ref q_nexts, .int 3, .int vt, .int vs, .int vc, .int 0, .ref q_program, .ref q_locals, .ref q_stack, .ref q_bottoms, .int vp]))] t) (va_A [(mc, .inr (7, [.ref q_memory, .ref q_funcs, .ref q_nexts, .int ve, .int vt, .int vs, .int vc, .int (nI nz), .ref q_program, .ref q_locals, .ref q_stack, .ref q_bottoms, .int vp]))] sz)) 0 0 (va_A [(mc, .inr (7, [.ref q_memory, .ref q_funcs, .ref q_nexts, .int ve, .int vt, .int vs, .int vc, .int (nI nz), .ref q_program, .ref q_locals, .ref q_stack, .ref q_bottoms, .int vp]))] sz) := by
  refine Met.ofW (cc := cX4_hasCell) (maxL := 2) (ret := (some .boolean)) (by decide) rfl ?_
  intro p e s m args below meth c s₁ B hml hv
  obtain ⟨rfl, hsz, hP, hK, hD0, hNW⟩ := hv
  have hx := B.exec
  have hb := B.bytes
  have hr := B.returns
  have hts := atoms_spec (ws := wq_X4_hasCell_X8bad) B.pre
  have hown : s.vm.findClass RX4 = some m.cls := findClass_of_methodNamed B.named
  have hlocks := B.notSynchronized
  have hiX8 : ∀ w ∈ wsX80, w ∈ wq_X4_hasCell_X8bad := by decide +kernel
  subst hsz
  have hD := hD0.self (sz := s.heap.size)
  generalize hAe : va_A [(mc, .inr (7, [.ref q_memory, .ref q_funcs, .ref q_nexts, .int ve, .int vt, .int vs, .int vc, .int (nI nz), .ref q_program, .ref q_locals, .ref q_stack, .ref q_bottoms, .int vp]))] s.heap.size = A at hD ⊢
  have hA : ∀ q : Nat, s.heap.size ≤ q → A q := fun q h => by rw [← hAe]; exact Or.inr h
  have hS : va_S A s.heap s.heap [] := va_S.rf
  have hl := lv_entry ([.ref mc, .int p0]) (n := 2) (Nat.le_of_ble_eq_true rfl)
  rw [lg_entry_eq]
  generalize (lg_sl ([.ref mc, .int p0]) ++ List.replicate (2 - (lg_sl ([.ref mc, .int p0])).length) Slot.unset).toArray = ls at hl ⊢
  have hl : lv_has ls 2 [(0, .ref mc), (1, .int p0)] := hl
  refine lv_iload_n hx hb dX4_hasCell_0 rfl (lv_at hl 1 rfl) ?_
  refine lv_if_lt (tgt := 12) hx hb dX4_hasCell_1 (by decide) (fun c_1 => ?_) (fun c_1 => ?_)
  · refine lv_aload_n hx hb dX4_hasCell_12 rfl (lv_at hl 0 rfl) ?_
    refine lv_iconst (v := 3) hx hb dX4_hasCell_13 (by decide) ?_
    have hPc := hP.sub (ws' := [(mc, .inr (7, [.ref q_memory, .ref q_funcs, .ref q_nexts, .int ve, .int vt, .int vs, .int vc, .int (nI nz), .ref q_program, .ref q_locals, .ref q_stack, .ref q_bottoms, .int vp]))]) [0] rfl
    have hDc := hD.sub (ws' := [(mc, .inr (7, [.ref q_memory, .ref q_funcs, .ref q_nexts, .int ve, .int vt, .int vs, .int vc, .int (nI nz), .ref q_program, .ref q_locals, .ref q_stack, .ref q_bottoms, .int vp]))]) [0] (by decide) rfl
    have hKc := hK.sub (tys' := [(cyI, .int)]) [0] rfl
    have hFc := va_free (wc := [(mc, .inr (7, [.ref q_memory, .ref q_funcs, .ref q_nexts, .int ve, .int vt, .int vs, .int vc, .int (nI nz), .ref q_program, .ref q_locals, .ref q_stack, .ref q_bottoms, .int vp]))]) hD hS hA [0] rfl
    refine va_callv (va_runU (As := [.int 3]) (rest := []) ⟨hx, hb, hml, hown, hts⟩ (c_X4_finish_X8 l dC dI cyI s.heap.size mc q_memory q_funcs q_nexts q_program q_locals q_stack q_bottoms nz ve vt vs vc vp 3) (va_cwU 1 hts gq_X4_hasCell_X8bad_X4_finish_X8_49X8 rfl rfl rfl rfl (by decide +kernel) ⟨Nat.le_of_ble_eq_true rfl, Nat.le_of_ble_eq_true rfl⟩) ⟨pz_blind, va_recv hKc hPc (ci := 7) (q0 := 0) rfl rfl, pz_to hPc hKc hDc hNW⟩ rfl rfl hl.1 rfl (lv_room (Nat.le_of_ble_eq_true rfl)) dX4_hasCell_14 (by decide)) hS (fun q _ h => hFc q h) hFc (fun u t H1 locs ht hvm hw hB hz1 hk1 hS => ?_)
    obtain ⟨hP1, hK1, hD1⟩ := hB
    rw [ht] at hP1
    obtain ⟨hP, hD⟩ := va_join (wr := []) (w1 := [(mc, .inr (7, [.ref q_memory, .ref q_funcs, .ref q_nexts, .int 3, .int vt, .int vs, .int vc, .int 0, .ref q_program, .ref q_locals, .ref q_stack, .ref q_bottoms, .int vp]))]) hP hD [0] [] rfl rfl (by decide) (by decide) hk1 hFc hP1 hD1
    generalize H1 = H at hP hS ⊢
    have hP : va_P (dC, dI) vwCl [(mc, .inr (7, [.ref q_memory, .ref q_funcs, .ref q_nexts, .int 3, .int vt, .int vs, .int vc, .int 0, .ref q_program, .ref q_locals, .ref q_stack, .ref q_bottoms, .int vp]))] H := hP
    have hD : va_D A [(mc, .inr (7, [.ref q_memory, .ref q_funcs, .ref q_nexts, .int 3, .int vt, .int vs, .int vc, .int 0, .ref q_program, .ref q_locals, .ref q_stack, .ref q_bottoms, .int vp]))] := hD
    refine lv_iconst (v := 0) hx hb dX4_hasCell_17 (by decide) ?_
    have hP9 := hP.sub (ws' := [(mc, .inr (7, [.ref q_memory, .ref q_funcs, .ref q_nexts, .int 3, .int vt, .int vs, .int vc, .int 0, .ref q_program, .ref q_locals, .ref q_stack, .ref q_bottoms, .int vp]))]) [0] rfl
    have hD9 := hD.sub (ws' := [(mc, .inr (7, [.ref q_memory, .ref q_funcs, .ref q_nexts, .int 3, .int vt, .int vs, .int vc, .int 0, .ref q_program, .ref q_locals, .ref q_stack, .ref q_bottoms, .int vp]))]) [0] (by decide) rfl
    have h9 : (0 : Int32) = 0 := rfl
    exact W.zret (v := (0)) hx hb hr (by decide) (fun t ht hW => ⟨⟨_, (), rfl, h9, pz_Bof hP9 hK hD9 ht hW⟩, hS.F ht⟩) hS.2.2 dX4_hasCell_18
  · refine lv_iload_n hx hb dX4_hasCell_4 rfl (lv_at hl 1 rfl) ?_
    refine lv_bipush (v := 64) hx hb dX4_hasCell_5 (by decide) ?_
    refine lv_icmp_ge (tgt := 12) hx hb dX4_hasCell_7 (by decide) (fun c_3 => ?_) (fun c_3 => ?_)
    · refine lv_aload_n hx hb dX4_hasCell_12 rfl (lv_at hl 0 rfl) ?_
      refine lv_iconst (v := 3) hx hb dX4_hasCell_13 (by decide) ?_
      have hPc := hP.sub (ws' := [(mc, .inr (7, [.ref q_memory, .ref q_funcs, .ref q_nexts, .int ve, .int vt, .int vs, .int vc, .int (nI nz), .ref q_program, .ref q_locals, .ref q_stack, .ref q_bottoms, .int vp]))]) [0] rfl
      have hDc := hD.sub (ws' := [(mc, .inr (7, [.ref q_memory, .ref q_funcs, .ref q_nexts, .int ve, .int vt, .int vs, .int vc, .int (nI nz), .ref q_program, .ref q_locals, .ref q_stack, .ref q_bottoms, .int vp]))]) [0] (by decide) rfl
      have hKc := hK.sub (tys' := [(cyI, .int)]) [0] rfl
      have hFc := va_free (wc := [(mc, .inr (7, [.ref q_memory, .ref q_funcs, .ref q_nexts, .int ve, .int vt, .int vs, .int vc, .int (nI nz), .ref q_program, .ref q_locals, .ref q_stack, .ref q_bottoms, .int vp]))]) hD hS hA [0] rfl
      refine va_callv (va_runU (As := [.int 3]) (rest := []) ⟨hx, hb, hml, hown, hts⟩ (c_X4_finish_X8 l dC dI cyI s.heap.size mc q_memory q_funcs q_nexts q_program q_locals q_stack q_bottoms nz ve vt vs vc vp 3) (va_cwU 1 hts gq_X4_hasCell_X8bad_X4_finish_X8_49X8 rfl rfl rfl rfl (by decide +kernel) ⟨Nat.le_of_ble_eq_true rfl, Nat.le_of_ble_eq_true rfl⟩) ⟨pz_blind, va_recv hKc hPc (ci := 7) (q0 := 0) rfl rfl, pz_to hPc hKc hDc hNW⟩ rfl rfl hl.1 rfl (lv_room (Nat.le_of_ble_eq_true rfl)) dX4_hasCell_14 (by decide)) hS (fun q _ h => hFc q h) hFc (fun u t H1 locs ht hvm hw hB hz1 hk1 hS => ?_)
      obtain ⟨hP1, hK1, hD1⟩ := hB
      rw [ht] at hP1
      obtain ⟨hP, hD⟩ := va_join (wr := []) (w1 := [(mc, .inr (7, [.ref q_memory, .ref q_funcs, .ref q_nexts, .int 3, .int vt, .int vs, .int vc, .int 0, .ref q_program, .ref q_locals, .ref q_stack, .ref q_bottoms, .int vp]))]) hP hD [0] [] rfl rfl (by decide) (by decide) hk1 hFc hP1 hD1
      generalize H1 = H at hP hS ⊢
      have hP : va_P (dC, dI) vwCl [(mc, .inr (7, [.ref q_memory, .ref q_funcs, .ref q_nexts, .int 3, .int vt, .int vs, .int vc, .int 0, .ref q_program, .ref q_locals, .ref q_stack, .ref q_bottoms, .int vp]))] H := hP
      have hD : va_D A [(mc, .inr (7, [.ref q_memory, .ref q_funcs, .ref q_nexts, .int 3, .int vt, .int vs, .int vc, .int 0, .ref q_program, .ref q_locals, .ref q_stack, .ref q_bottoms, .int vp]))] := hD
      refine lv_iconst (v := 0) hx hb dX4_hasCell_17 (by decide) ?_
      have hP9 := hP.sub (ws' := [(mc, .inr (7, [.ref q_memory, .ref q_funcs, .ref q_nexts, .int 3, .int vt, .int vs, .int vc, .int 0, .ref q_program, .ref q_locals, .ref q_stack, .ref q_bottoms, .int vp]))]) [0] rfl
      have hD9 := hD.sub (ws' := [(mc, .inr (7, [.ref q_memory, .ref q_funcs, .ref q_nexts, .int 3, .int vt, .int vs, .int vc, .int 0, .ref q_program, .ref q_locals, .ref q_stack, .ref q_bottoms, .int vp]))]) [0] (by decide) rfl
      have h9 : (0 : Int32) = 0 := rfl
      exact W.zret (v := (0)) hx hb hr (by decide) (fun t ht hW => ⟨⟨_, (), rfl, h9, pz_Bof hP9 hK hD9 ht hW⟩, hS.F ht⟩) hS.2.2 dX4_hasCell_18
    · exact (hbad.elim c_1 c_3).elim

def wq_X4_hasCell_X7bad : List Cond := .code yX4_hasCell cX4_hasCell 2 (some .boolean) :: ([.code yX4_finish cX4_finish 2 none, .fieldLink RX4 21 "RegisterMill$Machine" "end" "I", .fieldLink RX4 34 "RegisterMill$Machine" "nested" "I", .methodLink RX4 49 ⟨"RegisterMill$Machine", "finish", "(I)V"⟩, .sameMethod "RegisterMill$Machine" "RegisterMill$Machine" "finish" "(I)V", .selects RX7 ⟨"RegisterMill$Machine", "finish", "(I)V"⟩ yX4_finish, .instanceMethod yX4_finish, .initialized RX4] ++ wsX70)
set_option maxRecDepth 20000 in
theorem gq_X4_hasCell_X7bad_X4_finish_X7_49X7 : GoodIn wq_X4_hasCell_X7bad (va_wsU RX4 49 RX7 "RegisterMill$Machine" ⟨"RegisterMill$Machine", "finish", "(I)V"⟩ yX4_finish wq_X4_finish_X7) := goodIn_r _ [4, 5, 6, 7, 8, 1, 2, 3, 9, 10, 11, 12, 13, 14, 15, 16, 17, 18, 19, 20, 21] (by decide +kernel) (by decide +kernel)
set_option maxHeartbeats 4000000 in
set_option maxRecDepth 100000 in
/-- hasCell: there is none -/
theorem c_X4_hasCell_X7bad (l : Launch) (dC : Nat → ClassId) (dI : Nat → Nat → Nat) (cyI : ClassId) (sz : Nat) (mc : Nat) (q_memory : Nat) (q_funcs : Nat) (q_nexts : Nat) (q_code : Nat) (q_registers : Nat) (q_slotCells : Nat) (q_passed : Nat) (nz : Nat) (ve : Int32) (vt : Int32) (vs : Int32) (vc : Int32) (vp : Int32) (p0 : Int32) (hbad : p0 < 0 ∨ 64 ≤ p0) : Met l yX4_hasCell wq_X4_hasCell_X7bad ({ frames := 1, cells := 0, slots := 0, locals := 21 }) (va_Pc [.ref mc, .int p0] (pz_pre dC dI [(cyI, .int)] [(mc, .inr (6, [.ref q_memory, .ref q_funcs, .ref q_nexts, .int ve, .int vt, .int vs, .int vc, .int (nI nz), .ref q_code, .ref q_registers, .ref q_slotCells, .ref q_passed, .int vp]))] sz)) (va_Qi (S := Unit) (fun (r : Int32) _ => r = 0) (fun _ t => pz_B dC dI [(cyI, .int)] (va_A [(mc, .inr (6, [.ref q_memory, .ref q_funcs, .ref q_nexts, .int ve, .int vt, .int vs, .int vc, .int (nI nz), .ref q_code, .ref q_registers, .ref q_slotCells, .ref q_passed, .int vp]))] sz) [(mc, .inr (6, [.ref q_memory, .ref q_funcs, .ref q_nexts, .int 3, .int vt, .int vs, .int vc, .int 0, .ref q_code, .ref q_registers, .ref q_slotCells, .ref q_passed, .int vp]))] t) (va_A [(mc, .inr (6, [.ref q_memory, .ref q_funcs, .ref q_nexts, .int ve, .int vt, .int vs, .int vc, .int (nI nz), .ref q_code, .ref q_registers, .ref q_slotCells, .ref q_passed, .int vp]))] sz)) 0 0 (va_A [(mc, .inr (6, [.ref q_memory, .ref q_funcs, .ref q_nexts, .int ve, .int vt, .int vs, .int vc, .int (nI nz), .ref q_code, .ref q_registers, .ref q_slotCells, .ref q_passed, .int vp]))] sz) := by
  refine Met.ofW (cc := cX4_hasCell) (maxL := 2) (ret := (some .boolean)) (by decide) rfl ?_
  intro p e s m args below meth c s₁ B hml hv
  obtain ⟨rfl, hsz, hP, hK, hD0, hNW⟩ := hv
  have hx := B.exec
  have hb := B.bytes
  have hr := B.returns
  have hts := atoms_spec (ws := wq_X4_hasCell_X7bad) B.pre
  have hown : s.vm.findClass RX4 = some m.cls := findClass_of_methodNamed B.named
  have hlocks := B.notSynchronized
  have hiX7 : ∀ w ∈ wsX70, w ∈ wq_X4_hasCell_X7bad := by decide +kernel
  subst hsz
  have hD := hD0.self (sz := s.heap.size)
  generalize hAe : va_A [(mc, .inr (6, [.ref q_memory, .ref q_funcs, .ref q_nexts, .int ve, .int vt, .int vs, .int vc, .int (nI nz), .ref q_code, .ref q_registers, .ref q_slotCells, .ref q_passed, .int vp]))] s.heap.size = A at hD ⊢
  have hA : ∀ q : Nat, s.heap.size ≤ q → A q := fun q h => by rw [← hAe]; exact Or.inr h
  have hS : va_S A s.heap s.heap [] := va_S.rf
  have hl := lv_entry ([.ref mc, .int p0]) (n := 2) (Nat.le_of_ble_eq_true rfl)
  rw [lg_entry_eq]
  generalize (lg_sl ([.ref mc, .int p0]) ++ List.replicate (2 - (lg_sl ([.ref mc, .int p0])).length) Slot.unset).toArray = ls at hl ⊢
  have hl : lv_has ls 2 [(0, .ref mc), (1, .int p0)] := hl
  refine lv_iload_n hx hb dX4_hasCell_0 rfl (lv_at hl 1 rfl) ?_
  refine lv_if_lt (tgt := 12) hx hb dX4_hasCell_1 (by decide) (fun c_1 => ?_) (fun c_1 => ?_)
  · refine lv_aload_n hx hb dX4_hasCell_12 rfl (lv_at hl 0 rfl) ?_
    refine lv_iconst (v := 3) hx hb dX4_hasCell_13 (by decide) ?_
    have hPc := hP.sub (ws' := [(mc, .inr (6, [.ref q_memory, .ref q_funcs, .ref q_nexts, .int ve, .int vt, .int vs, .int vc, .int (nI nz), .ref q_code, .ref q_registers, .ref q_slotCells, .ref q_passed, .int vp]))]) [0] rfl
    have hDc := hD.sub (ws' := [(mc, .inr (6, [.ref q_memory, .ref q_funcs, .ref q_nexts, .int ve, .int vt, .int vs, .int vc, .int (nI nz), .ref q_code, .ref q_registers, .ref q_slotCells, .ref q_passed, .int vp]))]) [0] (by decide) rfl
    have hKc := hK.sub (tys' := [(cyI, .int)]) [0] rfl
    have hFc := va_free (wc := [(mc, .inr (6, [.ref q_memory, .ref q_funcs, .ref q_nexts, .int ve, .int vt, .int vs, .int vc, .int (nI nz), .ref q_code, .ref q_registers, .ref q_slotCells, .ref q_passed, .int vp]))]) hD hS hA [0] rfl
    refine va_callv (va_runU (As := [.int 3]) (rest := []) ⟨hx, hb, hml, hown, hts⟩ (c_X4_finish_X7 l dC dI cyI s.heap.size mc q_memory q_funcs q_nexts q_code q_registers q_slotCells q_passed nz ve vt vs vc vp 3) (va_cwU 1 hts gq_X4_hasCell_X7bad_X4_finish_X7_49X7 rfl rfl rfl rfl (by decide +kernel) ⟨Nat.le_of_ble_eq_true rfl, Nat.le_of_ble_eq_true rfl⟩) ⟨pz_blind, va_recv hKc hPc (ci := 6) (q0 := 0) rfl rfl, pz_to hPc hKc hDc hNW⟩ rfl rfl hl.1 rfl (lv_room (Nat.le_of_ble_eq_true rfl)) dX4_hasCell_14 (by decide)) hS (fun q _ h => hFc q h) hFc (fun u t H1 locs ht hvm hw hB hz1 hk1 hS => ?_)
    obtain ⟨hP1, hK1, hD1⟩ := hB
    rw [ht] at hP1
    obtain ⟨hP, hD⟩ := va_join (wr := []) (w1 := [(mc, .inr (6, [.ref q_memory, .ref q_funcs, .ref q_nexts, .int 3, .int vt, .int vs, .int vc, .int 0, .ref q_code, .ref q_registers, .ref q_slotCells, .ref q_passed, .int vp]))]) hP hD [0] [] rfl rfl (by decide) (by decide) hk1 hFc hP1 hD1
    generalize H1 = H at hP hS ⊢
    have hP : va_P (dC, dI) vwCl [(mc, .inr (6, [.ref q_memory, .ref q_funcs, .ref q_nexts, .int 3, .int vt, .int vs, .int vc, .int 0, .ref q_code, .ref q_registers, .ref q_slotCells, .ref q_passed, .int vp]))] H := hP
    have hD : va_D A [(mc, .inr (6, [.ref q_memory, .ref q_funcs, .ref q_nexts, .int 3, .int vt, .int vs, .int vc, .int 0, .ref q_code, .ref q_registers, .ref q_slotCells, .ref q_passed, .int vp]))] := hD
    refine lv_iconst (v := 0) hx hb dX4_hasCell_17 (by decide) ?_
    have hP9 := hP.sub (ws' := [(mc, .inr (6, [.ref q_memory, .ref q_funcs, .ref q_nexts, .int 3, .int vt, .int vs, .int vc, .int 0, .ref q_code, .ref q_registers, .ref q_slotCells, .ref q_passed, .int vp]))]) [0] rfl
    have hD9 := hD.sub (ws' := [(mc, .inr (6, [.ref q_memory, .ref q_funcs, .ref q_nexts, .int 3, .int vt, .int vs, .int vc, .int 0, .ref q_code, .ref q_registers, .ref q_slotCells, .ref q_passed, .int vp]))]) [0] (by decide) rfl
    have h9 : (0 : Int32) = 0 := rfl
    exact W.zret (v := (0)) hx hb hr (by decide) (fun t ht hW => ⟨⟨_, (), rfl, h9, pz_Bof hP9 hK hD9 ht hW⟩, hS.F ht⟩) hS.2.2 dX4_hasCell_18
  · refine lv_iload_n hx hb dX4_hasCell_4 rfl (lv_at hl 1 rfl) ?_
    refine lv_bipush (v := 64) hx hb dX4_hasCell_5 (by decide) ?_
    refine lv_icmp_ge (tgt := 12) hx hb dX4_hasCell_7 (by decide) (fun c_3 => ?_) (fun c_3 => ?_)
    · refine lv_aload_n hx hb dX4_hasCell_12 rfl (lv_at hl 0 rfl) ?_
      refine lv_iconst (v := 3) hx hb dX4_hasCell_13 (by decide) ?_
      have hPc := hP.sub (ws' := [(mc, .inr (6, [.ref q_memory, .ref q_funcs, .ref q_nexts, .int ve, .int vt, .int vs, .int vc, .int (nI nz), .ref q_code, .ref q_registers, .ref q_slotCells, .ref q_passed, .int vp]))]) [0] rfl
      have hDc := hD.sub (ws' := [(mc, .inr (6, [.ref q_memory, .ref q_funcs, .ref q_nexts, .int ve, .int vt, .int vs, .int vc, .int (nI nz), .ref q_code, .ref q_registers, .ref q_slotCells, .ref q_passed, .int vp]))]) [0] (by decide) rfl
      have hKc := hK.sub (tys' := [(cyI, .int)]) [0] rfl
      have hFc := va_free (wc := [(mc, .inr (6, [.ref q_memory, .ref q_funcs, .ref q_nexts, .int ve, .int vt, .int vs, .int vc, .int (nI nz), .ref q_code, .ref q_registers, .ref q_slotCells, .ref q_passed, .int vp]))]) hD hS hA [0] rfl
      refine va_callv (va_runU (As := [.int 3]) (rest := []) ⟨hx, hb, hml, hown, hts⟩ (c_X4_finish_X7 l dC dI cyI s.heap.size mc q_memory q_funcs q_nexts q_code q_registers q_slotCells q_passed nz ve vt vs vc vp 3) (va_cwU 1 hts gq_X4_hasCell_X7bad_X4_finish_X7_49X7 rfl rfl rfl rfl (by decide +kernel) ⟨Nat.le_of_ble_eq_true rfl, Nat.le_of_ble_eq_true rfl⟩) ⟨pz_blind, va_recv hKc hPc (ci := 6) (q0 := 0) rfl rfl, pz_to hPc hKc hDc hNW⟩ rfl rfl hl.1 rfl (lv_room (Nat.le_of_ble_eq_true rfl)) dX4_hasCell_14 (by decide)) hS (fun q _ h => hFc q h) hFc (fun u t H1 locs ht hvm hw hB hz1 hk1 hS => ?_)
      obtain ⟨hP1, hK1, hD1⟩ := hB
      rw [ht] at hP1
      obtain ⟨hP, hD⟩ := va_join (wr := []) (w1 := [(mc, .inr (6, [.ref q_memory, .ref q_funcs, .ref q_nexts, .int 3, .int vt, .int vs, .int vc, .int 0, .ref q_code, .ref q_registers, .ref q_slotCells, .ref q_passed, .int vp]))]) hP hD [0] [] rfl rfl (by decide) (by decide) hk1 hFc hP1 hD1
      generalize H1 = H at hP hS ⊢
      have hP : va_P (dC, dI) vwCl [(mc, .inr (6, [.ref q_memory, .ref q_funcs, .ref q_nexts, .int 3, .int vt, .int vs, .int vc, .int 0, .ref q_code, .ref q_registers, .ref q_slotCells, .ref q_passed, .int vp]))] H := hP
      have hD : va_D A [(mc, .inr (6, [.ref q_memory, .ref q_funcs, .ref q_nexts, .int 3, .int vt, .int vs, .int vc, .int 0, .ref q_code, .ref q_registers, .ref q_slotCells, .ref q_passed, .int vp]))] := hD
      refine lv_iconst (v := 0) hx hb dX4_hasCell_17 (by decide) ?_
      have hP9 := hP.sub (ws' := [(mc, .inr (6, [.ref q_memory, .ref q_funcs, .ref q_nexts, .int 3, .int vt, .int vs, .int vc, .int 0, .ref q_code, .ref q_registers, .ref q_slotCells, .ref q_passed, .int vp]))]) [0] rfl
      have hD9 := hD.sub (ws' := [(mc, .inr (6, [.ref q_memory, .ref q_funcs, .ref q_nexts, .int 3, .int vt, .int vs, .int vc, .int 0, .ref q_code, .ref q_registers, .ref q_slotCells, .ref q_passed, .int vp]))]) [0] (by decide) rfl
      have h9 : (0 : Int32) = 0 := rfl
      exact W.zret (v := (0)) hx hb hr (by decide) (fun t ht hW => ⟨⟨_, (), rfl, h9, pz_Bof hP9 hK hD9 ht hW⟩, hS.F ht⟩) hS.2.2 dX4_hasCell_18
    · exact (hbad.elim c_1 c_3).elim
