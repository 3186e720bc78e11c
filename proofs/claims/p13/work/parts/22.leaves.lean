def wq_X4_begin_X8 : List Cond := .code yX4_begin cX4_begin 1 none :: ([.fieldLink RX4 21 "RegisterMill$Machine" "end" "I", .fieldLink RX4 25 "RegisterMill$Machine" "told" "I", .fieldLink RX4 28 "RegisterMill$Machine" "steps" "I", .fieldLink RX4 31 "RegisterMill$Machine" "calls" "I", .fieldLink RX4 34 "RegisterMill$Machine" "nested" "I"] ++ wsX80)
set_option maxHeartbeats 4000000 in
set_option maxRecDepth 100000 in
/-- begin -/
theorem c_X4_begin_X8 (l : Launch) (dC : Nat → ClassId) (dI : Nat → Nat → Nat) (cyI : ClassId) (sz : Nat) (mc : Nat) (q_memory : Nat) (q_funcs : Nat) (q_nexts : Nat) (q_program : Nat) (q_locals : Nat) (q_stack : Nat) (q_bottoms : Nat) (nz : Nat) (ve : Int32) (vt : Int32) (vs : Int32) (vc : Int32) (vp : Int32) : Met l yX4_begin wq_X4_begin_X8 ({ frames := 0, cells := 0, slots := 0, locals := 0 }) (va_Pc [.ref mc] (pz_pre dC dI [(cyI, .int)] [(mc, .inr (7, [.ref q_memory, .ref q_funcs, .ref q_nexts, .int ve, .int vt, .int vs, .int vc, .int (nI nz), .ref q_program, .ref q_locals, .ref q_stack, .ref q_bottoms, .int vp]))] sz)) (va_Qv (S := Unit) (fun _ => True) (fun _ t => pz_B dC dI [(cyI, .int)] (va_A [(mc, .inr (7, [.ref q_memory, .ref q_funcs, .ref q_nexts, .int ve, .int vt, .int vs, .int vc, .int (nI nz), .ref q_program, .ref q_locals, .ref q_stack, .ref q_bottoms, .int vp]))] sz) [(mc, .inr (7, [.ref q_memory, .ref q_funcs, .ref q_nexts, .int 0, .int 0, .int 0, .int 0, .int 0, .ref q_program, .ref q_locals, .ref q_stack, .ref q_bottoms, .int vp]))] t) (va_A [(mc, .inr (7, [.ref q_memory, .ref q_funcs, .ref q_nexts, .int ve, .int vt, .int vs, .int vc, .int (nI nz), .ref q_program, .ref q_locals, .ref q_stack, .ref q_bottoms, .int vp]))] sz)) 0 0 (va_A [(mc, .inr (7, [.ref q_memory, .ref q_funcs, .ref q_nexts, .int ve, .int vt, .int vs, .int vc, .int (nI nz), .ref q_program, .ref q_locals, .ref q_stack, .ref q_bottoms, .int vp]))] sz) := by
  refine Met.ofW (cc := cX4_begin) (maxL := 1) (ret := none) (by decide) rfl ?_
  intro p e s m args below meth c s₁ B hml hv
  obtain ⟨rfl, hsz, hP, hK, hD0, hNW⟩ := hv
  have hx := B.exec
  have hb := B.bytes
  have hr := B.returns
  have hts := atoms_spec (ws := wq_X4_begin_X8) B.pre
  have hown : s.vm.findClass RX4 = some m.cls := findClass_of_methodNamed B.named
  have hlocks := B.notSynchronized
  have hiX8 : ∀ w ∈ wsX80, w ∈ wq_X4_begin_X8 := by decide +kernel
  subst hsz
  have hD := hD0.self (sz := s.heap.size)
  generalize hAe : va_A [(mc, .inr (7, [.ref q_memory, .ref q_funcs, .ref q_nexts, .int ve, .int vt, .int vs, .int vc, .int (nI nz), .ref q_program, .ref q_locals, .ref q_stack, .ref q_bottoms, .int vp]))] s.heap.size = A at hD ⊢
  have hA : ∀ q : Nat, s.heap.size ≤ q → A q := fun q h => by rw [← hAe]; exact Or.inr h
  have hS : va_S A s.heap s.heap [] := va_S.rf
  have hl := lv_entry ([.ref mc]) (n := 1) (Nat.le_of_ble_eq_true rfl)
  rw [lg_entry_eq]
  generalize (lg_sl ([.ref mc]) ++ List.replicate (1 - (lg_sl ([.ref mc])).length) Slot.unset).toArray = ls at hl ⊢
  have hl : lv_has ls 1 [(0, .ref mc)] := hl
  refine lv_aload_n hx hb dX4_begin_0 rfl (lv_at hl 0 rfl) ?_
  refine lv_iconst (v := 0) hx hb dX4_begin_1 (by decide) ?_
  refine va_put (D := (dC, dI)) (ci := 7) (v := .int 0) (ty := .int) (C := RX8) (T := TX8) (N := 13) hx hb hts hiX8 tyX8 tyX8_ok nmX8 hown hK hP hD hS 0 rfl rfl 3 (by decide) (hts (.fieldLink RX4 21 "RegisterMill$Machine" "end" "I") (by decide +kernel)) (fun _ h9 => h9) rfl (by decide +kernel) rfl rfl (Nat.le_of_ble_eq_true rfl) dX4_begin_2 (fun H locs hP hD hS => ?_)
  have hP : va_P (dC, dI) vwCl [(mc, .inr (7, [.ref q_memory, .ref q_funcs, .ref q_nexts, .int 0, .int vt, .int vs, .int vc, .int (nI nz), .ref q_program, .ref q_locals, .ref q_stack, .ref q_bottoms, .int vp]))] H := hP
  have hD : va_D A [(mc, .inr (7, [.ref q_memory, .ref q_funcs, .ref q_nexts, .int 0, .int vt, .int vs, .int vc, .int (nI nz), .ref q_program, .ref q_locals, .ref q_stack, .ref q_bottoms, .int vp]))] := hD
  refine lv_aload_n hx hb dX4_begin_5 rfl (lv_at hl 0 rfl) ?_
  refine lv_iconst (v := 0) hx hb dX4_begin_6 (by decide) ?_
  refine va_put (D := (dC, dI)) (ci := 7) (v := .int 0) (ty := .int) (C := RX8) (T := TX8) (N := 13) hx hb hts hiX8 tyX8 tyX8_ok nmX8 hown hK hP hD hS 0 rfl rfl 4 (by decide) (hts (.fieldLink RX4 25 "RegisterMill$Machine" "told" "I") (by decide +kernel)) (fun _ h9 => h9) rfl (by decide +kernel) rfl rfl (Nat.le_of_ble_eq_true rfl) dX4_begin_7 (fun H locs hP hD hS => ?_)
  have hP : va_P (dC, dI) vwCl [(mc, .inr (7, [.ref q_memory, .ref q_funcs, .ref q_nexts, .int 0, .int 0, .int vs, .int vc, .int (nI nz), .ref q_program, .ref q_locals, .ref q_stack, .ref q_bottoms, .int vp]))] H := hP
  have hD : va_D A [(mc, .inr (7, [.ref q_memory, .ref q_funcs, .ref q_nexts, .int 0, .int 0, .int vs, .int vc, .int (nI nz), .ref q_program, .ref q_locals, .ref q_stack, .ref q_bottoms, .int vp]))] := hD
  refine lv_aload_n hx hb dX4_begin_10 rfl (lv_at hl 0 rfl) ?_
  refine lv_iconst (v := 0) hx hb dX4_begin_11 (by decide) ?_
  refine va_put (D := (dC, dI)) (ci := 7) (v := .int 0) (ty := .int) (C := RX8) (T := TX8) (N := 13) hx hb hts hiX8 tyX8 tyX8_ok nmX8 hown hK hP hD hS 0 rfl rfl 5 (by decide) (hts (.fieldLink RX4 28 "RegisterMill$Machine" "steps" "I") (by decide +kernel)) (fun _ h9 => h9) rfl (by decide +kernel) rfl rfl (Nat.le_of_ble_eq_true rfl) dX4_begin_12 (fun H locs hP hD hS => ?_)
  have hP : va_P (dC, dI) vwCl [(mc, .inr (7, [.ref q_memory, .ref q_funcs, .ref q_nexts, .int 0, .int 0, .int 0, .int vc, .int (nI nz), .ref q_program, .ref q_locals, .ref q_stack, .ref q_bottoms, .int vp]))] H := hP
  have hD : va_D A [(mc, .inr (7, [.ref q_memory, .ref q_funcs, .ref q_nexts, .int 0, .int 0, .int 0, .int vc, .int (nI nz), .ref q_program, .ref q_locals, .ref q_stack, .ref q_bottoms, .int vp]))] := hD
  refine lv_aload_n hx hb dX4_begin_15 rfl (lv_at hl 0 rfl) ?_
  refine lv_iconst (v := 0) hx hb dX4_begin_16 (by decide) ?_
  refine va_put (D := (dC, dI)) (ci := 7) (v := .int 0) (ty := .int) (C := RX8) (T := TX8) (N := 13) hx hb hts hiX8 tyX8 tyX8_ok nmX8 hown hK hP hD hS 0 rfl rfl 6 (by decide) (hts (.fieldLink RX4 31 "RegisterMill$Machine" "calls" "I") (by decide +kernel)) (fun _ h9 => h9) rfl (by decide +kernel) rfl rfl (Nat.le_of_ble_eq_true rfl) dX4_begin_17 (fun H locs hP hD hS => ?_)
  have hP : va_P (dC, dI) vwCl [(mc, .inr (7, [.ref q_memory, .ref q_funcs, .ref q_nexts, .int 0, .int 0, .int 0, .int 0, .int (nI nz), .ref q_program, .ref q_locals, .ref q_stack, .ref q_bottoms, .int vp]))] H := hP
  have hD : va_D A [(mc, .inr (7, [.ref q_memory, .ref q_funcs, .ref q_nexts, .int 0, .int 0, .int 0, .int 0, .int (nI nz), .ref q_program, .ref q_locals, .ref q_stack, .ref q_bottoms, .int vp]))] := hD
  refine lv_aload_n hx hb dX4_begin_20 rfl (lv_at hl 0 rfl) ?_
  refine lv_iconst (v := 0) hx hb dX4_begin_21 (by decide) ?_
  refine va_put (D := (dC, dI)) (ci := 7) (v := .int 0) (ty := .int) (C := RX8) (T := TX8) (N := 13) hx hb hts hiX8 tyX8 tyX8_ok nmX8 hown hK hP hD hS 0 rfl rfl 7 (by decide) (hts (.fieldLink RX4 34 "RegisterMill$Machine" "nested" "I") (by decide +kernel)) (fun _ h9 => h9) rfl (by decide +kernel) rfl rfl (Nat.le_of_ble_eq_true rfl) dX4_begin_22 (fun H locs hP hD hS => ?_)
  have hP : va_P (dC, dI) vwCl [(mc, .inr (7, [.ref q_memory, .ref q_funcs, .ref q_nexts, .int 0, .int 0, .int 0, .int 0, .int 0, .ref q_program, .ref q_locals, .ref q_stack, .ref q_bottoms, .int vp]))] H := hP
  have hD : va_D A [(mc, .inr (7, [.ref q_memory, .ref q_funcs, .ref q_nexts, .int 0, .int 0, .int 0, .int 0, .int 0, .ref q_program, .ref q_locals, .ref q_stack, .ref q_bottoms, .int vp]))] := hD
  have hP9 := hP.sub (ws' := [(mc, .inr (7, [.ref q_memory, .ref q_funcs, .ref q_nexts, .int 0, .int 0, .int 0, .int 0, .int 0, .ref q_program, .ref q_locals, .ref q_stack, .ref q_bottoms, .int vp]))]) [0] rfl
  have hD9 := hD.sub (ws' := [(mc, .inr (7, [.ref q_memory, .ref q_funcs, .ref q_nexts, .int 0, .int 0, .int 0, .int 0, .int 0, .ref q_program, .ref q_locals, .ref q_stack, .ref q_bottoms, .int vp]))]) [0] (by decide) rfl
  exact W.vret hx hb hr (fun t ht hW => ⟨⟨(), rfl, trivial, pz_Bof hP9 hK hD9 ht hW⟩, hS.F ht⟩) hS.2.2 dX4_begin_25

def wq_X4_begin_X7 : List Cond := .code yX4_begin cX4_begin 1 none :: ([.fieldLink RX4 21 "RegisterMill$Machine" "end" "I", .fieldLink RX4 25 "RegisterMill$Machine" "told" "I", .fieldLink RX4 28 "RegisterMill$Machine" "steps" "I", .fieldLink RX4 31 "RegisterMill$Machine" "calls" "I", .fieldLink RX4 34 "RegisterMill$Machine" "nested" "I"] ++ wsX70)
set_option maxHeartbeats 4000000 in
set_option maxRecDepth 100000 in
/-- begin -/
theorem c_X4_begin_X7 (l : Launch) (dC : Nat → ClassId) (dI : Nat → Nat → Nat) (cyI : ClassId) (sz : Nat) (mc : Nat) (q_memory : Nat) (q_funcs : Nat) (q_nexts : Nat) (q_code : Nat) (q_registers : Nat) (q_slotCells : Nat) (q_passed : Nat) (nz : Nat) (ve : Int32) (vt : Int32) (vs : Int32) (vc : Int32) (vp : Int32) : Met l yX4_begin wq_X4_begin_X7 ({ frames := 0, cells := 0, slots := 0, locals := 0 }) (va_Pc [.ref mc] (pz_pre dC dI [(cyI, .int)] [(mc, .inr (6, [.ref q_memory, .ref q_funcs, .ref q_nexts, .int ve, .int vt, .int vs, .int vc, .int (nI nz), .ref q_code, .ref q_registers, .ref q_slotCells, .ref q_passed, .int vp]))] sz)) (va_Qv (S := Unit) (fun _ => True) (fun _ t => pz_B dC dI [(cyI, .int)] (va_A [(mc, .inr (6, [.ref q_memory, .ref q_funcs, .ref q_nexts, .int ve, .int vt, .int vs, .int vc, .int (nI nz), .ref q_code, .ref q_registers, .ref q_slotCells, .ref q_passed, .int vp]))] sz) [(mc, .inr (6, [.ref q_memory, .ref q_funcs, .ref q_nexts, .int 0, .int 0, .int 0, .int 0, .int 0, .ref q_code, .ref q_registers, .ref q_slotCells, .ref q_passed, .int vp]))] t) (va_A [(mc, .inr (6, [.ref q_memory, .ref q_funcs, .ref q_nexts, .int ve, .int vt, .int vs, .int vc, .int (nI nz), .ref q_code, .ref q_registers, .ref q_slotCells, .ref q_passed, .int vp]))] sz)) 0 0 (va_A [(mc, .inr (6, [.ref q_memory, .ref q_funcs, .ref q_nexts, .int ve, .int vt, .int vs, .int vc, .int (nI nz), .ref q_code, .ref q_registers, .ref q_slotCells, .ref q_passed, .int vp]))] sz) := by
  refine Met.ofW (cc := cX4_begin) (maxL := 1) (ret := none) (by decide) rfl ?_
  intro p e s m args below meth c s₁ B hml hv
  obtain ⟨rfl, hsz, hP, hK, hD0, hNW⟩ := hv
  have hx := B.exec
  have hb := B.bytes
  have hr := B.returns
  have hts := atoms_spec (ws := wq_X4_begin_X7) B.pre
  have hown : s.vm.findClass RX4 = some m.cls := findClass_of_methodNamed B.named
  have hlocks := B.notSynchronized
  have hiX7 : ∀ w ∈ wsX70, w ∈ wq_X4_begin_X7 := by decide +kernel
  subst hsz
  have hD := hD0.self (sz := s.heap.size)
  generalize hAe : va_A [(mc, .inr (6, [.ref q_memory, .ref q_funcs, .ref q_nexts, .int ve, .int vt, .int vs, .int vc, .int (nI nz), .ref q_code, .ref q_registers, .ref q_slotCells, .ref q_passed, .int vp]))] s.heap.size = A at hD ⊢
  have hA : ∀ q : Nat, s.heap.size ≤ q → A q := fun q h => by rw [← hAe]; exact Or.inr h
  have hS : va_S A s.heap s.heap [] := va_S.rf
  have hl := lv_entry ([.ref mc]) (n := 1) (Nat.le_of_ble_eq_true rfl)
  rw [lg_entry_eq]
  generalize (lg_sl ([.ref mc]) ++ List.replicate (1 - (lg_sl ([.ref mc])).length) Slot.unset).toArray = ls at hl ⊢
  have hl : lv_has ls 1 [(0, .ref mc)] := hl
  refine lv_aload_n hx hb dX4_begin_0 rfl (lv_at hl 0 rfl) ?_
  refine lv_iconst (v := 0) hx hb dX4_begin_1 (by decide) ?_
  refine va_put (D := (dC, dI)) (ci := 6) (v := .int 0) (ty := .int) (C := RX7) (T := TX7) (N := 13) hx hb hts hiX7 tyX7 tyX7_ok nmX7 hown hK hP hD hS 0 rfl rfl 3 (by decide) (hts (.fieldLink RX4 21 "RegisterMill$Machine" "end" "I") (by decide +kernel)) (fun _ h9 => h9) rfl (by decide +kernel) rfl rfl (Nat.le_of_ble_eq_true rfl) dX4_begin_2 (fun H locs hP hD hS => ?_)
  have hP : va_P (dC, dI) vwCl [(mc, .inr (6, [.ref q_memory, .ref q_funcs, .ref q_nexts, .int 0, .int vt, .int vs, .int vc, .int (nI nz), .ref q_code, .ref q_registers, .ref q_slotCells, .ref q_passed, .int vp]))] H := hP
  have hD : va_D A [(mc, .inr (6, [.ref q_memory, .ref q_funcs, .ref q_nexts, .int 0, .int vt, .int vs, .int vc, .int (nI nz), .ref q_code, .ref q_registers, .ref q_slotCells, .ref q_passed, .int vp]))] := hD
  refine lv_aload_n hx hb dX4_begin_5 rfl (lv_at hl 0 rfl) ?_
  refine lv_iconst (v := 0) hx hb dX4_begin_6 (by decide) ?_
  refine va_put (D := (dC, dI)) (ci := 6) (v := .int 0) (ty := .int) (C := RX7) (T := TX7) (N := 13) hx hb hts hiX7 tyX7 tyX7_ok nmX7 hown hK hP hD hS 0 rfl rfl 4 (by decide) (hts (.fieldLink RX4 25 "RegisterMill$Machine" "told" "I") (by decide +kernel)) (fun _ h9 => h9) rfl (by decide +kernel) rfl rfl (Nat.le_of_ble_eq_true rfl) dX4_begin_7 (fun H locs hP hD hS => ?_)
  have hP : va_P (dC, dI) vwCl [(mc, .inr (6, [.ref q_memory, .ref q_funcs, .ref q_nexts, .int 0, .int 0, .int vs, .int vc, .int (nI nz), .ref q_code, .ref q_registers, .ref q_slotCells, .ref q_passed, .int vp]))] H := hP
  have hD : va_D A [(mc, .inr (6, [.ref q_memory, .ref q_funcs, .ref q_nexts, .int 0, .int 0, .int vs, .int vc, .int (nI nz), .ref q_code, .ref q_registers, .ref q_slotCells, .ref q_passed, .int vp]))] := hD
  refine lv_aload_n hx hb dX4_begin_10 rfl (lv_at hl 0 rfl) ?_
  refine lv_iconst (v := 0) hx hb dX4_begin_11 (by decide) ?_
  refine va_put (D := (dC, dI)) (ci := 6) (v := .int 0) (ty := .int) (C := RX7) (T := TX7) (N := 13) hx hb hts hiX7 tyX7 tyX7_ok nmX7 hown hK hP hD hS 0 rfl rfl 5 (by decide) (hts (.fieldLink RX4 28 "RegisterMill$Machine" "steps" "I") (by decide +kernel)) (fun _ h9 => h9) rfl (by decide +kernel) rfl rfl (Nat.le_of_ble_eq_true rfl) dX4_begin_12 (fun H locs hP hD hS => ?_)
  have hP : va_P (dC, dI) vwCl [(mc, .inr (6, [.ref q_memory, .ref q_funcs, .ref q_nexts, .int 0, .int 0, .int 0, .int vc, .int (nI nz), .ref q_code, .ref q_registers, .ref q_slotCells, .ref q_passed, .int vp]))] H := hP
  have hD : va_D A [(mc, .inr (6, [.ref q_memory, .ref q_funcs, .ref q_nexts, .int 0, .int 0, .int 0, .int vc, .int (nI nz), .ref q_code, .ref q_registers, .ref q_slotCells, .ref q_passed, .int vp]))] := hD
  refine lv_aload_n hx hb dX4_begin_15 rfl (lv_at hl 0 rfl) ?_
  refine lv_iconst (v := 0) hx hb dX4_begin_16 (by decide) ?_
  refine va_put (D := (dC, dI)) (ci := 6) (v := .int 0) (ty := .int) (C := RX7) (T := TX7) (N := 13) hx hb hts hiX7 tyX7 tyX7_ok nmX7 hown hK hP hD hS 0 rfl rfl 6 (by decide) (hts (.fieldLink RX4 31 "RegisterMill$Machine" "calls" "I") (by decide +kernel)) (fun _ h9 => h9) rfl (by decide +kernel) rfl rfl (Nat.le_of_ble_eq_true rfl) dX4_begin_17 (fun H locs hP hD hS => ?_)
  have hP : va_P (dC, dI) vwCl [(mc, .inr (6, [.ref q_memory, .ref q_funcs, .ref q_nexts, .int 0, .int 0, .int 0, .int 0, .int (nI nz), .ref q_code, .ref q_registers, .ref q_slotCells, .ref q_passed, .int vp]))] H := hP
  have hD : va_D A [(mc, .inr (6, [.ref q_memory, .ref q_funcs, .ref q_nexts, .int 0, .int 0, .int 0, .int 0, .int (nI nz), .ref q_code, .ref q_registers, .ref q_slotCells, .ref q_passed, .int vp]))] := hD
  refine lv_aload_n hx hb dX4_begin_20 rfl (lv_at hl 0 rfl) ?_
  refine lv_iconst (v := 0) hx hb dX4_begin_21 (by decide) ?_
  refine va_put (D := (dC, dI)) (ci := 6) (v := .int 0) (ty := .int) (C := RX7) (T := TX7) (N := 13) hx hb hts hiX7 tyX7 tyX7_ok nmX7 hown hK hP hD hS 0 rfl rfl 7 (by decide) (hts (.fieldLink RX4 34 "RegisterMill$Machine" "nested" "I") (by decide +kernel)) (fun _ h9 => h9) rfl (by decide +kernel) rfl rfl (Nat.le_of_ble_eq_true rfl) dX4_begin_22 (fun H locs hP hD hS => ?_)
  have hP : va_P (dC, dI) vwCl [(mc, .inr (6, [.ref q_memory, .ref q_funcs, .ref q_nexts, .int 0, .int 0, .int 0, .int 0, .int 0, .ref q_code, .ref q_registers, .ref q_slotCells, .ref q_passed, .int vp]))] H := hP
  have hD : va_D A [(mc, .inr (6, [.ref q_memory, .ref q_funcs, .ref q_nexts, .int 0, .int 0, .int 0, .int 0, .int 0, .ref q_code, .ref q_registers, .ref q_slotCells, .ref q_passed, .int vp]))] := hD
  have hP9 := hP.sub (ws' := [(mc, .inr (6, [.ref q_memory, .ref q_funcs, .ref q_nexts, .int 0, .int 0, .int 0, .int 0, .int 0, .ref q_code, .ref q_registers, .ref q_slotCells, .ref q_passed, .int vp]))]) [0] rfl
  have hD9 := hD.sub (ws' := [(mc, .inr (6, [.ref q_memory, .ref q_funcs, .ref q_nexts, .int 0, .int 0, .int 0, .int 0, .int 0, .ref q_code, .ref q_registers, .ref q_slotCells, .ref q_passed, .int vp]))]) [0] (by decide) rfl
  exact W.vret hx hb hr (fun t ht hW => ⟨⟨(), rfl, trivial, pz_Bof hP9 hK hD9 ht hW⟩, hS.F ht⟩) hS.2.2 dX4_begin_25

def wq_X2_registerOf : List Cond := .code yX2_registerOf cX2_registerOf 3 (some .int) :: ([.fieldLink RX2 18 "RegisterMill$Homes" "registers" "[I"] ++ wsX20)
set_option maxHeartbeats 4000000 in
set_option maxRecDepth 100000 in
/-- registerOf -/
theorem c_X2_registerOf (l : Launch) (dC : Nat → ClassId) (dI : Nat → Nat → Nat) (cyI : ClassId) (sz : Nat) (ho : Nat) (h_firsts : Nat) (h_lasts : Nat) (h_registers : Nat) (h_slotNumbers : Nat) (h_slotCounts : Nat) (h_holders : Nat) (fu : Nat) (vv : Nat) (fr : Nat → Int32) (hf : fu < 12) (hv : vv < 22) : Met l yX2_registerOf wq_X2_registerOf ({ frames := 0, cells := 0, slots := 0, locals := 0 }) (va_Pc [.ref ho, .int (nI fu), .int (nI vv)] (pz_pre dC dI [(cyI, .int)] [(ho, .inr (2, [.ref h_firsts, .ref h_lasts, .ref h_registers, .ref h_slotNumbers, .ref h_slotCounts, .ref h_holders])), (h_registers, .inl (cyI, 264, .inl fr))] sz)) (va_Qi (S := Unit) (fun (r : Int32) _ => r = fr (fu * 22 + vv)) (fun _ t => pz_B dC dI [(cyI, .int)] (va_A [(ho, .inr (2, [.ref h_firsts, .ref h_lasts, .ref h_registers, .ref h_slotNumbers, .ref h_slotCounts, .ref h_holders])), (h_registers, .inl (cyI, 264, .inl fr))] sz) [(ho, .inr (2, [.ref h_firsts, .ref h_lasts, .ref h_registers, .ref h_slotNumbers, .ref h_slotCounts, .ref h_holders])), (h_registers, .inl (cyI, 264, .inl fr))] t) (va_A [(ho, .inr (2, [.ref h_firsts, .ref h_lasts, .ref h_registers, .ref h_slotNumbers, .ref h_slotCounts, .ref h_holders])), (h_registers, .inl (cyI, 264, .inl fr))] sz)) 0 0 (va_A [(ho, .inr (2, [.ref h_firsts, .ref h_lasts, .ref h_registers, .ref h_slotNumbers, .ref h_slotCounts, .ref h_holders])), (h_registers, .inl (cyI, 264, .inl fr))] sz) := by
  refine Met.ofW (cc := cX2_registerOf) (maxL := 3) (ret := (some .int)) (by decide) rfl ?_
  intro p e s m args below meth c s₁ B hml hv
  obtain ⟨rfl, hsz, hP, hK, hD0, hNW⟩ := hv
  have hx := B.exec
  have hb := B.bytes
  have hr := B.returns
  have hts := atoms_spec (ws := wq_X2_registerOf) B.pre
  have hown : s.vm.findClass RX2 = some m.cls := findClass_of_methodNamed B.named
  have hlocks := B.notSynchronized
  have hiX2 : ∀ w ∈ wsX20, w ∈ wq_X2_registerOf := by decide +kernel
  subst hsz
  have hD := hD0.self (sz := s.heap.size)
  generalize hAe : va_A [(ho, .inr (2, [.ref h_firsts, .ref h_lasts, .ref h_registers, .ref h_slotNumbers, .ref h_slotCounts, .ref h_holders])), (h_registers, .inl (cyI, 264, .inl fr))] s.heap.size = A at hD ⊢
  have hA : ∀ q : Nat, s.heap.size ≤ q → A q := fun q h => by rw [← hAe]; exact Or.inr h
  have hS : va_S A s.heap s.heap [] := va_S.rf
  have hl := lv_entry ([.ref ho, .int (nI fu), .int (nI vv)]) (n := 3) (Nat.le_of_ble_eq_true rfl)
  rw [lg_entry_eq]
  generalize (lg_sl ([.ref ho, .int (nI fu), .int (nI vv)]) ++ List.replicate (3 - (lg_sl ([.ref ho, .int (nI fu), .int (nI vv)])).length) Slot.unset).toArray = ls at hl ⊢
  have hl : lv_has ls 3 [(0, .ref ho), (1, .int (nI fu)), (2, .int (nI vv))] := hl
  refine lv_aload_n hx hb dX2_registerOf_0 rfl (lv_at hl 0 rfl) ?_
  refine va_get (D := (dC, dI)) (ci := 2) (v := .ref h_registers) (C := RX2) (T := TX2) (N := 6) hx hb hts hiX2 hown hK hP 0 rfl rfl 2 (by decide) (hts (.fieldLink RX2 18 "RegisterMill$Homes" "registers" "[I") (by decide +kernel)) (fun _ h9 => h9) rfl dX2_registerOf_1 ?_
  refine lv_iload_n hx hb dX2_registerOf_4 rfl (lv_at hl 1 rfl) ?_
  refine lv_bipush (v := 22) hx hb dX2_registerOf_5 (by decide) ?_
  refine lv_imul hx hb dX2_registerOf_7 ?_
  refine W.eq (g2 := F0 m 8 ls [.int (nI (fu * 22)), .ref h_registers]) (congrArg (fun z => F0 m 8 ls (.int z :: [.ref h_registers])) (pk_mul (fu) (22))) ?_
  refine lv_iload_n hx hb dX2_registerOf_8 rfl (lv_at hl 2 rfl) ?_
  refine lv_iadd hx hb dX2_registerOf_9 ?_
  refine W.eq (g2 := F0 m 10 ls [.int (nI (fu * 22 + vv)), .ref h_registers]) (congrArg (fun z => F0 m 10 ls (.int z :: [.ref h_registers])) (nI_add (fu * 22) (vv))) ?_
  refine va_iald hx hb hK hP 1 0 rfl rfl (vp_in_nI (show fu * 22 + vv < 264 by omega) (by decide)) dX2_registerOf_10 ?_
  refine W.eq (g2 := F0 m 11 ls [.int (fr (fu * 22 + vv))]) (congrArg (fun z => F0 m 11 ls (.int z :: [])) (congrArg fr (nI_clamp (show fu * 22 + vv < 2 ^ 31 by omega)))) ?_
  have hP9 := hP.sub (ws' := [(ho, .inr (2, [.ref h_firsts, .ref h_lasts, .ref h_registers, .ref h_slotNumbers, .ref h_slotCounts, .ref h_holders])), (h_registers, .inl (cyI, 264, .inl fr))]) [0, 1] rfl
  have hD9 := hD.sub (ws' := [(ho, .inr (2, [.ref h_firsts, .ref h_lasts, .ref h_registers, .ref h_slotNumbers, .ref h_slotCounts, .ref h_holders])), (h_registers, .inl (cyI, 264, .inl fr))]) [0, 1] (by decide) rfl
  have h9 : (fr (fu * 22 + vv) : Int32) = fr (fu * 22 + vv) := rfl
  exact W.iret (v := fr (fu * 22 + vv)) hx hb hr (fun t ht hW => ⟨⟨_, (), rfl, h9, pz_Bof hP9 hK hD9 ht hW⟩, hS.F ht⟩) hS.2.2 dX2_registerOf_11

def wq_X2_slotOf : List Cond := .code yX2_slotOf cX2_slotOf 3 (some .int) :: ([.fieldLink RX2 21 "RegisterMill$Homes" "slotNumbers" "[I"] ++ wsX20)
set_option maxHeartbeats 4000000 in
set_option maxRecDepth 100000 in
/-- slotOf -/
theorem c_X2_slotOf (l : Launch) (dC : Nat → ClassId) (dI : Nat → Nat → Nat) (cyI : ClassId) (sz : Nat) (ho : Nat) (h_firsts : Nat) (h_lasts : Nat) (h_registers : Nat) (h_slotNumbers : Nat) (h_slotCounts : Nat) (h_holders : Nat) (fu : Nat) (vv : Nat) (fr : Nat → Int32) (hf : fu < 12) (hv : vv < 22) : Met l yX2_slotOf wq_X2_slotOf ({ frames := 0, cells := 0, slots := 0, locals := 0 }) (va_Pc [.ref ho, .int (nI fu), .int (nI vv)] (pz_pre dC dI [(cyI, .int)] [(ho, .inr (2, [.ref h_firsts, .ref h_lasts, .ref h_registers, .ref h_slotNumbers, .ref h_slotCounts, .ref h_holders])), (h_slotNumbers, .inl (cyI, 264, .inl fr))] sz)) (va_Qi (S := Unit) (fun (r : Int32) _ => r = fr (fu * 22 + vv)) (fun _ t => pz_B dC dI [(cyI, .int)] (va_A [(ho, .inr (2, [.ref h_firsts, .ref h_lasts, .ref h_registers, .ref h_slotNumbers, .ref h_slotCounts, .ref h_holders])), (h_slotNumbers, .inl (cyI, 264, .inl fr))] sz) [(ho, .inr (2, [.ref h_firsts, .ref h_lasts, .ref h_registers, .ref h_slotNumbers, .ref h_slotCounts, .ref h_holders])), (h_slotNumbers, .inl (cyI, 264, .inl fr))] t) (va_A [(ho, .inr (2, [.ref h_firsts, .ref h_lasts, .ref h_registers, .ref h_slotNumbers, .ref h_slotCounts, .ref h_holders])), (h_slotNumbers, .inl (cyI, 264, .inl fr))] sz)) 0 0 (va_A [(ho, .inr (2, [.ref h_firsts, .ref h_lasts, .ref h_registers, .ref h_slotNumbers, .ref h_slotCounts, .ref h_holders])), (h_slotNumbers, .inl (cyI, 264, .inl fr))] sz) := by
  refine Met.ofW (cc := cX2_slotOf) (maxL := 3) (ret := (some .int)) (by decide) rfl ?_
  intro p e s m args below meth c s₁ B hml hv
  obtain ⟨rfl, hsz, hP, hK, hD0, hNW⟩ := hv
  have hx := B.exec
  have hb := B.bytes
  have hr := B.returns
  have hts := atoms_spec (ws := wq_X2_slotOf) B.pre
  have hown : s.vm.findClass RX2 = some m.cls := findClass_of_methodNamed B.named
  have hlocks := B.notSynchronized
  have hiX2 : ∀ w ∈ wsX20, w ∈ wq_X2_slotOf := by decide +kernel
  subst hsz
  have hD := hD0.self (sz := s.heap.size)
  generalize hAe : va_A [(ho, .inr (2, [.ref h_firsts, .ref h_lasts, .ref h_registers, .ref h_slotNumbers, .ref h_slotCounts, .ref h_holders])), (h_slotNumbers, .inl (cyI, 264, .inl fr))] s.heap.size = A at hD ⊢
  have hA : ∀ q : Nat, s.heap.size ≤ q → A q := fun q h => by rw [← hAe]; exact Or.inr h
  have hS : va_S A s.heap s.heap [] := va_S.rf
  have hl := lv_entry ([.ref ho, .int (nI fu), .int (nI vv)]) (n := 3) (Nat.le_of_ble_eq_true rfl)
  rw [lg_entry_eq]
  generalize (lg_sl ([.ref ho, .int (nI fu), .int (nI vv)]) ++ List.replicate (3 - (lg_sl ([.ref ho, .int (nI fu), .int (nI vv)])).length) Slot.unset).toArray = ls at hl ⊢
  have hl : lv_has ls 3 [(0, .ref ho), (1, .int (nI fu)), (2, .int (nI vv))] := hl
  refine lv_aload_n hx hb dX2_slotOf_0 rfl (lv_at hl 0 rfl) ?_
  refine va_get (D := (dC, dI)) (ci := 2) (v := .ref h_slotNumbers) (C := RX2) (T := TX2) (N := 6) hx hb hts hiX2 hown hK hP 0 rfl rfl 3 (by decide) (hts (.fieldLink RX2 21 "RegisterMill$Homes" "slotNumbers" "[I") (by decide +kernel)) (fun _ h9 => h9) rfl dX2_slotOf_1 ?_
  refine lv_iload_n hx hb dX2_slotOf_4 rfl (lv_at hl 1 rfl) ?_
  refine lv_bipush (v := 22) hx hb dX2_slotOf_5 (by decide) ?_
  refine lv_imul hx hb dX2_slotOf_7 ?_
  refine W.eq (g2 := F0 m 8 ls [.int (nI (fu * 22)), .ref h_slotNumbers]) (congrArg (fun z => F0 m 8 ls (.int z :: [.ref h_slotNumbers])) (pk_mul (fu) (22))) ?_
  refine lv_iload_n hx hb dX2_slotOf_8 rfl (lv_at hl 2 rfl) ?_
  refine lv_iadd hx hb dX2_slotOf_9 ?_
  refine W.eq (g2 := F0 m 10 ls [.int (nI (fu * 22 + vv)), .ref h_slotNumbers]) (congrArg (fun z => F0 m 10 ls (.int z :: [.ref h_slotNumbers])) (nI_add (fu * 22) (vv))) ?_
  refine va_iald hx hb hK hP 1 0 rfl rfl (vp_in_nI (show fu * 22 + vv < 264 by omega) (by decide)) dX2_slotOf_10 ?_
  refine W.eq (g2 := F0 m 11 ls [.int (fr (fu * 22 + vv))]) (congrArg (fun z => F0 m 11 ls (.int z :: [])) (congrArg fr (nI_clamp (show fu * 22 + vv < 2 ^ 31 by omega)))) ?_
  have hP9 := hP.sub (ws' := [(ho, .inr (2, [.ref h_firsts, .ref h_lasts, .ref h_registers, .ref h_slotNumbers, .ref h_slotCounts, .ref h_holders])), (h_slotNumbers, .inl (cyI, 264, .inl fr))]) [0, 1] rfl
  have hD9 := hD.sub (ws' := [(ho, .inr (2, [.ref h_firsts, .ref h_lasts, .ref h_registers, .ref h_slotNumbers, .ref h_slotCounts, .ref h_holders])), (h_slotNumbers, .inl (cyI, 264, .inl fr))]) [0, 1] (by decide) rfl
  have h9 : (fr (fu * 22 + vv) : Int32) = fr (fu * 22 + vv) := rfl
  exact W.iret (v := fr (fu * 22 + vv)) hx hb hr (fun t ht hW => ⟨⟨_, (), rfl, h9, pz_Bof hP9 hK hD9 ht hW⟩, hS.F ht⟩) hS.2.2 dX2_slotOf_11
