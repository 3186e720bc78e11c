
theorem fz_okI {k : Int32} (h : ¬ (k < 0 ∨ 64 ≤ k)) : ¬ k < 0 ∧ ¬ 64 ≤ k := ⟨fun q => h (Or.inl q), fun q => h (Or.inr q)⟩

def wq_X4_room_X8 : List Cond := .code yX4_room cX4_room 1 (some .int) :: ([.fieldLink RX4 34 "RegisterMill$Machine" "nested" "I"] ++ wsX80)
set_option maxHeartbeats 4000000 in
set_option maxRecDepth 100000 in
/-- room: the number of the innermost call -/
theorem c_X4_room_X8 (l : Launch) (dC : Nat → ClassId) (dI : Nat → Nat → Nat) (cyI : ClassId) (sz : Nat) (mc : Nat) (q_memory : Nat) (q_funcs : Nat) (q_nexts : Nat) (q_program : Nat) (q_locals : Nat) (q_stack : Nat) (q_bottoms : Nat) (nz : Nat) (ve : Int32) (vt : Int32) (vs : Int32) (vc : Int32) (vp : Int32) : Met l yX4_room wq_X4_room_X8 ({ frames := 0, cells := 0, slots := 0, locals := 0 }) (va_Pc [.ref mc] (pz_pre dC dI [(cyI, .int)] [(mc, .inr (7, [.ref q_memory, .ref q_funcs, .ref q_nexts, .int ve, .int vt, .int vs, .int vc, .int (nI (nz + 1)), .ref q_program, .ref q_locals, .ref q_stack, .ref q_bottoms, .int vp]))] sz)) (va_Qi (S := Unit) (fun (r : Int32) _ => r = nI nz) (fun _ t => pz_B dC dI [(cyI, .int)] (va_A [(mc, .inr (7, [.ref q_memory, .ref q_funcs, .ref q_nexts, .int ve, .int vt, .int vs, .int vc, .int (nI (nz + 1)), .ref q_program, .ref q_locals, .ref q_stack, .ref q_bottoms, .int vp]))] sz) [(mc, .inr (7, [.ref q_memory, .ref q_funcs, .ref q_nexts, .int ve, .int vt, .int vs, .int vc, .int (nI (nz + 1)), .ref q_program, .ref q_locals, .ref q_stack, .ref q_bottoms, .int vp]))] t) (va_A [(mc, .inr (7, [.ref q_memory, .ref q_funcs, .ref q_nexts, .int ve, .int vt, .int vs, .int vc, .int (nI (nz + 1)), .ref q_program, .ref q_locals, .ref q_stack, .ref q_bottoms, .int vp]))] sz)) 0 0 (va_A [(mc, .inr (7, [.ref q_memory, .ref q_funcs, .ref q_nexts, .int ve, .int vt, .int vs, .int vc, .int (nI (nz + 1)), .ref q_program, .ref q_locals, .ref q_stack, .ref q_bottoms, .int vp]))] sz) := by
  refine Met.ofW (cc := cX4_room) (maxL := 1) (ret := (some .int)) (by decide) rfl ?_
  intro p e s m args below meth c s₁ B hml hv
  obtain ⟨rfl, hsz, hP, hK, hD0, hNW⟩ := hv
  have hx := B.exec
  have hb := B.bytes
  have hr := B.returns
  have hts := atoms_spec (ws := wq_X4_room_X8) B.pre
  have hown : s.vm.findClass RX4 = some m.cls := findClass_of_methodNamed B.named
  have hlocks := B.notSynchronized
  have hiX8 : ∀ w ∈ wsX80, w ∈ wq_X4_room_X8 := by decide +kernel
  subst hsz
  have hD := hD0.self (sz := s.heap.size)
  generalize hAe : va_A [(mc, .inr (7, [.ref q_memory, .ref q_funcs, .ref q_nexts, .int ve, .int vt, .int vs, .int vc, .int (nI (nz + 1)), .ref q_program, .ref q_locals, .ref q_stack, .ref q_bottoms, .int vp]))] s.heap.size = A at hD ⊢
  have hA : ∀ q : Nat, s.heap.size ≤ q → A q := fun q h => by rw [← hAe]; exact Or.inr h
  have hS : va_S A s.heap s.heap [] := va_S.rf
  have hl := lv_entry ([.ref mc]) (n := 1) (Nat.le_of_ble_eq_true rfl)
  rw [lg_entry_eq]
  generalize (lg_sl ([.ref mc]) ++ List.replicate (1 - (lg_sl ([.ref mc])).length) Slot.unset).toArray = ls at hl ⊢
  have hl : lv_has ls 1 [(0, .ref mc)] := hl
  refine lv_aload_n hx hb dX4_room_0 rfl (lv_at hl 0 rfl) ?_
  refine va_get (D := (dC, dI)) (ci := 7) (v := .int (nI (nz + 1))) (C := RX8) (T := TX8) (N := 13) hx hb hts hiX8 hown hK hP 0 rfl rfl 7 (by decide) (hts (.fieldLink RX4 34 "RegisterMill$Machine" "nested" "I") (by decide +kernel)) (fun _ h9 => h9) rfl dX4_room_1 ?_
  refine lv_iconst (v := 1) hx hb dX4_room_4 (by decide) ?_
  refine lv_isub hx hb dX4_room_5 ?_
  refine W.eq (g2 := F0 m 6 ls [.int (nI nz)]) (congrArg (fun z => F0 m 6 ls (.int z :: [])) ((pk_sub (show 1 ≤ nz + 1 by omega)).trans (congrArg nI (by omega)))) ?_
  have hP9 := hP.sub (ws' := [(mc, .inr (7, [.ref q_memory, .ref q_funcs, .ref q_nexts, .int ve, .int vt, .int vs, .int vc, .int (nI (nz + 1)), .ref q_program, .ref q_locals, .ref q_stack, .ref q_bottoms, .int vp]))]) [0] rfl
  have hD9 := hD.sub (ws' := [(mc, .inr (7, [.ref q_memory, .ref q_funcs, .ref q_nexts, .int ve, .int vt, .int vs, .int vc, .int (nI (nz + 1)), .ref q_program, .ref q_locals, .ref q_stack, .ref q_bottoms, .int vp]))]) [0] (by decide) rfl
  have h9 : (nI nz : Int32) = nI nz := rfl
  exact W.iret (v := nI nz) hx hb hr (fun t ht hW => ⟨⟨_, (), rfl, h9, pz_Bof hP9 hK hD9 ht hW⟩, hS.F ht⟩) hS.2.2 dX4_room_6

def wq_X4_finish_X8 : List Cond := .code yX4_finish cX4_finish 2 none :: ([.fieldLink RX4 21 "RegisterMill$Machine" "end" "I", .fieldLink RX4 34 "RegisterMill$Machine" "nested" "I"] ++ wsX80)
set_option maxHeartbeats 4000000 in
set_option maxRecDepth 100000 in
/-- finish -/
theorem c_X4_finish_X8 (l : Launch) (dC : Nat → ClassId) (dI : Nat → Nat → Nat) (cyI : ClassId) (sz : Nat) (mc : Nat) (q_memory : Nat) (q_funcs : Nat) (q_nexts : Nat) (q_program : Nat) (q_locals : Nat) (q_stack : Nat) (q_bottoms : Nat) (nz : Nat) (ve : Int32) (vt : Int32) (vs : Int32) (vc : Int32) (vp : Int32) (p0 : Int32) : Met l yX4_finish wq_X4_finish_X8 ({ frames := 0, cells := 0, slots := 0, locals := 0 }) (va_Pc [.ref mc, .int p0] (pz_pre dC dI [(cyI, .int)] [(mc, .inr (7, [.ref q_memory, .ref q_funcs, .ref q_nexts, .int ve, .int vt, .int vs, .int vc, .int (nI nz), .ref q_program, .ref q_locals, .ref q_stack, .ref q_bottoms, .int vp]))] sz)) (va_Qv (S := Unit) (fun _ => True) (fun _ t => pz_B dC dI [(cyI, .int)] (va_A [(mc, .inr (7, [.ref q_memory, .ref q_funcs, .ref q_nexts, .int ve, .int vt, .int vs, .int vc, .int (nI nz), .ref q_program, .ref q_locals, .ref q_stack, .ref q_bottoms, .int vp]))] sz) [(mc, .inr (7, [.ref q_memory, .ref q_funcs, .ref q_nexts, .int p0, .int vt, .int vs, .int vc, .int 0, .ref q_program, .ref q_locals, .ref q_stack, .ref q_bottoms, .int vp]))] t) (va_A [(mc, .inr (7, [.ref q_memory, .ref q_funcs, .ref q_nexts, .int ve, .int vt, .int vs, .int vc, .int (nI nz), .ref q_program, .ref q_locals, .ref q_stack, .ref q_bottoms, .int vp]))] sz)) 0 0 (va_A [(mc, .inr (7, [.ref q_memory, .ref q_funcs, .ref q_nexts, .int ve, .int vt, .int vs, .int vc, .int (nI nz), .ref q_program, .ref q_locals, .ref q_stack, .ref q_bottoms, .int vp]))] sz) := by
  refine Met.ofW (cc := cX4_finish) (maxL := 2) (ret := none) (by decide) rfl ?_
  intro p e s m args below meth c s₁ B hml hv
  obtain ⟨rfl, hsz, hP, hK, hD0, hNW⟩ := hv
  have hx := B.exec
  have hb := B.bytes
  have hr := B.returns
  have hts := atoms_spec (ws := wq_X4_finish_X8) B.pre
  have hown : s.vm.findClass RX4 = some m.cls := findClass_of_methodNamed B.named
  have hlocks := B.notSynchronized
  have hiX8 : ∀ w ∈ wsX80, w ∈ wq_X4_finish_X8 := by decide +kernel
  subst hsz
  have hD := hD0.self (sz := s.heap.size)
  generalize hAe : va_A [(mc, .inr (7, [.ref q_memory, .ref q_funcs, .ref q_nexts, .int ve, .int vt, .int vs, .int vc, .int (nI nz), .ref q_program, .ref q_locals, .ref q_stack, .ref q_bottoms, .int vp]))] s.heap.size = A at hD ⊢
  have hA : ∀ q : Nat, s.heap.size ≤ q → A q := fun q h => by rw [← hAe]; exact Or.inr h
  have hS : va_S A s.heap s.heap [] := va_S.rf
  have hl := lv_entry ([.ref mc, .int p0]) (n := 2) (Nat.le_of_ble_eq_true rfl)
  rw [lg_entry_eq]
  generalize (lg_sl ([.ref mc, .int p0]) ++ List.replicate (2 - (lg_sl ([.ref mc, .int p0])).length) Slot.unset).toArray = ls at hl ⊢
  have hl : lv_has ls 2 [(0, .ref mc), (1, .int p0)] := hl
  refine lv_aload_n hx hb dX4_finish_0 rfl (lv_at hl 0 rfl) ?_
  refine lv_iload_n hx hb dX4_finish_1 rfl (lv_at hl 1 rfl) ?_
  refine va_put (D := (dC, dI)) (ci := 7) (v := .int p0) (ty := .int) (C := RX8) (T := TX8) (N := 13) hx hb hts hiX8 tyX8 tyX8_ok nmX8 hown hK hP hD hS 0 rfl rfl 3 (by decide) (hts (.fieldLink RX4 21 "RegisterMill$Machine" "end" "I") (by decide +kernel)) (fun _ h9 => h9) rfl (by decide +kernel) rfl rfl (Nat.le_of_ble_eq_true rfl) dX4_finish_2 (fun H locs hP hD hS => ?_)
  have hP : va_P (dC, dI) vwCl [(mc, .inr (7, [.ref q_memory, .ref q_funcs, .ref q_nexts, .int p0, .int vt, .int vs, .int vc, .int (nI nz), .ref q_program, .ref q_locals, .ref q_stack, .ref q_bottoms, .int vp]))] H := hP
  have hD : va_D A [(mc, .inr (7, [.ref q_memory, .ref q_funcs, .ref q_nexts, .int p0, .int vt, .int vs, .int vc, .int (nI nz), .ref q_program, .ref q_locals, .ref q_stack, .ref q_bottoms, .int vp]))] := hD
  refine lv_aload_n hx hb dX4_finish_5 rfl (lv_at hl 0 rfl) ?_
  refine lv_iconst (v := 0) hx hb dX4_finish_6 (by decide) ?_
  refine va_put (D := (dC, dI)) (ci := 7) (v := .int 0) (ty := .int) (C := RX8) (T := TX8) (N := 13) hx hb hts hiX8 tyX8 tyX8_ok nmX8 hown hK hP hD hS 0 rfl rfl 7 (by decide) (hts (.fieldLink RX4 34 "RegisterMill$Machine" "nested" "I") (by decide +kernel)) (fun _ h9 => h9) rfl (by decide +kernel) rfl rfl (Nat.le_of_ble_eq_true rfl) dX4_finish_7 (fun H locs hP hD hS => ?_)
  have hP : va_P (dC, dI) vwCl [(mc, .inr (7, [.ref q_memory, .ref q_funcs, .ref q_nexts, .int p0, .int vt, .int vs, .int vc, .int 0, .ref q_program, .ref q_locals, .ref q_stack, .ref q_bottoms, .int vp]))] H := hP
  have hD : va_D A [(mc, .inr (7, [.ref q_memory, .ref q_funcs, .ref q_nexts, .int p0, .int vt, .int vs, .int vc, .int 0, .ref q_program, .ref q_locals, .ref q_stack, .ref q_bottoms, .int vp]))] := hD
  have hP9 := hP.sub (ws' := [(mc, .inr (7, [.ref q_memory, .ref q_funcs, .ref q_nexts, .int p0, .int vt, .int vs, .int vc, .int 0, .ref q_program, .ref q_locals, .ref q_stack, .ref q_bottoms, .int vp]))]) [0] rfl
  have hD9 := hD.sub (ws' := [(mc, .inr (7, [.ref q_memory, .ref q_funcs, .ref q_nexts, .int p0, .int vt, .int vs, .int vc, .int 0, .ref q_program, .ref q_locals, .ref q_stack, .ref q_bottoms, .int vp]))]) [0] (by decide) rfl
  exact W.vret hx hb hr (fun t ht hW => ⟨⟨(), rfl, trivial, pz_Bof hP9 hK hD9 ht hW⟩, hS.F ht⟩) hS.2.2 dX4_finish_10

def wq_X4_jump_X8 : List Cond := .code yX4_jump cX4_jump 2 none :: ([.fieldLink RX4 18 "RegisterMill$Machine" "nexts" "[I", .code yX4_room cX4_room 1 (some .int), .fieldLink RX4 34 "RegisterMill$Machine" "nested" "I", .methodLink RX4 41 ⟨"RegisterMill$Machine", "room", "()I"⟩, .sameMethod "RegisterMill$Machine" "RegisterMill$Machine" "room" "()I", .selects RX8 ⟨"RegisterMill$Machine", "room", "()I"⟩ yX4_room, .instanceMethod yX4_room, .initialized RX4] ++ wsX80)
set_option maxRecDepth 20000 in
theorem gq_X4_jump_X8_X4_room_X8_41X8 : GoodIn wq_X4_jump_X8 (va_wsU RX4 41 RX8 "RegisterMill$Machine" ⟨"RegisterMill$Machine", "room", "()I"⟩ yX4_room wq_X4_room_X8) := goodIn_r _ [4, 5, 6, 7, 8, 2, 3, 9, 10, 11, 12, 13, 14, 15, 16, 17, 18, 19, 20, 21] (by decide +kernel) (by decide +kernel)
set_option maxHeartbeats 4000000 in
set_option maxRecDepth 100000 in
/-- jump -/
theorem c_X4_jump_X8 (l : Launch) (dC : Nat → ClassId) (dI : Nat → Nat → Nat) (cyI : ClassId) (sz : Nat) (mc : Nat) (q_memory : Nat) (q_funcs : Nat) (q_nexts : Nat) (q_program : Nat) (q_locals : Nat) (q_stack : Nat) (q_bottoms : Nat) (nz : Nat) (ve : Int32) (vt : Int32) (vs : Int32) (vc : Int32) (vp : Int32) (p0 : Int32) (fx : Nat → Int32) (hn : nz < 30) : Met l yX4_jump wq_X4_jump_X8 ({ frames := 1, cells := 0, slots := 0, locals := 20 }) (va_Pc [.ref mc, .int p0] (pz_pre dC dI [(cyI, .int)] [(mc, .inr (7, [.ref q_memory, .ref q_funcs, .ref q_nexts, .int ve, .int vt, .int vs, .int vc, .int (nI (nz + 1)), .ref q_program, .ref q_locals, .ref q_stack, .ref q_bottoms, .int vp])), (q_nexts, .inl (cyI, 30, .inl fx))] sz)) (va_Qv (S := Unit) (fun _ => True) (fun _ t => pz_B dC dI [(cyI, .int)] (va_A [(mc, .inr (7, [.ref q_memory, .ref q_funcs, .ref q_nexts, .int ve, .int vt, .int vs, .int vc, .int (nI (nz + 1)), .ref q_program, .ref q_locals, .ref q_stack, .ref q_bottoms, .int vp])), (q_nexts, .inl (cyI, 30, .inl fx))] sz) [(mc, .inr (7, [.ref q_memory, .ref q_funcs, .ref q_nexts, .int ve, .int vt, .int vs, .int vc, .int (nI (nz + 1)), .ref q_program, .ref q_locals, .ref q_stack, .ref q_bottoms, .int vp])), (q_nexts, .inl (cyI, 30, .inl (upd fx nz p0)))] t) (va_A [(mc, .inr (7, [.ref q_memory, .ref q_funcs, .ref q_nexts, .int ve, .int vt, .int vs, .int vc, .int (nI (nz + 1)), .ref q_program, .ref q_locals, .ref q_stack, .ref q_bottoms, .int vp])), (q_nexts, .inl (cyI, 30, .inl fx))] sz)) 0 0 (va_A [(mc, .inr (7, [.ref q_memory, .ref q_funcs, .ref q_nexts, .int ve, .int vt, .int vs, .int vc, .int (nI (nz + 1)), .ref q_program, .ref q_locals, .ref q_stack, .ref q_bottoms, .int vp])), (q_nexts, .inl (cyI, 30, .inl fx))] sz) := by
  refine Met.ofW (cc := cX4_jump) (maxL := 2) (ret := none) (by decide) rfl ?_
  intro p e s m args below meth c s₁ B hml hv
  obtain ⟨rfl, hsz, hP, hK, hD0, hNW⟩ := hv
  have hx := B.exec
  have hb := B.bytes
  have hr := B.returns
  have hts := atoms_spec (ws := wq_X4_jump_X8) B.pre
  have hown : s.vm.findClass RX4 = some m.cls := findClass_of_methodNamed B.named
  have hlocks := B.notSynchronized
  have hiX8 : ∀ w ∈ wsX80, w ∈ wq_X4_jump_X8 := by decide +kernel
  subst hsz
  have hD := hD0.self (sz := s.heap.size)
  generalize hAe : va_A [(mc, .inr (7, [.ref q_memory, .ref q_funcs, .ref q_nexts, .int ve, .int vt, .int vs, .int vc, .int (nI (nz + 1)), .ref q_program, .ref q_locals, .ref q_stack, .ref q_bottoms, .int vp])), (q_nexts, .inl (cyI, 30, .inl fx))] s.heap.size = A at hD ⊢
  have hA : ∀ q : Nat, s.heap.size ≤ q → A q := fun q h => by rw [← hAe]; exact Or.inr h
  have hS : va_S A s.heap s.heap [] := va_S.rf
  have hl := lv_entry ([.ref mc, .int p0]) (n := 2) (Nat.le_of_ble_eq_true rfl)
  rw [lg_entry_eq]
  generalize (lg_sl ([.ref mc, .int p0]) ++ List.replicate (2 - (lg_sl ([.ref mc, .int p0])).length) Slot.unset).toArray = ls at hl ⊢
  have hl : lv_has ls 2 [(0, .ref mc), (1, .int p0)] := hl
  refine lv_aload_n hx hb dX4_jump_0 rfl (lv_at hl 0 rfl) ?_
  refine va_get (D := (dC, dI)) (ci := 7) (v := .ref q_nexts) (C := RX8) (T := TX8) (N := 13) hx hb hts hiX8 hown hK hP 0 rfl rfl 2 (by decide) (hts (.fieldLink RX4 18 "RegisterMill$Machine" "nexts" "[I") (by decide +kernel)) (fun _ h9 => h9) rfl dX4_jump_1 ?_
  refine lv_aload_n hx hb dX4_jump_4 rfl (lv_at hl 0 rfl) ?_
  have hPc := hP.sub (ws' := [(mc, .inr (7, [.ref q_memory, .ref q_funcs, .ref q_nexts, .int ve, .int vt, .int vs, .int vc, .int (nI (nz + 1)), .ref q_program, .ref q_locals, .ref q_stack, .ref q_bottoms, .int vp]))]) [0] rfl
  have hDc := hD.sub (ws' := [(mc, .inr (7, [.ref q_memory, .ref q_funcs, .ref q_nexts, .int ve, .int vt, .int vs, .int vc, .int (nI (nz + 1)), .ref q_program, .ref q_locals, .ref q_stack, .ref q_bottoms, .int vp]))]) [0] (by decide) rfl
  have hKc := hK.sub (tys' := [(cyI, .int)]) [0] rfl
  have hFc := va_free (wc := [(mc, .inr (7, [.ref q_memory, .ref q_funcs, .ref q_nexts, .int ve, .int vt, .int vs, .int vc, .int (nI (nz + 1)), .ref q_program, .ref q_locals, .ref q_stack, .ref q_bottoms, .int vp]))]) hD hS hA [0] rfl
  refine va_calli (va_runU (As := []) (rest := [.ref q_nexts]) ⟨hx, hb, hml, hown, hts⟩ (c_X4_room_X8 l dC dI cyI s.heap.size mc q_memory q_funcs q_nexts q_program q_locals q_stack q_bottoms nz ve vt vs vc vp) (va_cwU 0 hts gq_X4_jump_X8_X4_room_X8_41X8 rfl rfl rfl rfl (by decide +kernel) ⟨Nat.le_of_ble_eq_true rfl, Nat.le_of_ble_eq_true rfl⟩) ⟨pz_blind, va_recv hKc hPc (ci := 7) (q0 := 0) rfl rfl, pz_to hPc hKc hDc hNW⟩ rfl rfl hl.1 rfl (lv_room (Nat.le_of_ble_eq_true rfl)) dX4_jump_5 (by decide)) hS (fun q _ h => hFc q h) hFc (fun r_1 u t H1 locs ht hvm hw hB hz1 hk1 hS => ?_)
  obtain ⟨hP1, hK1, hD1⟩ := hB
  rw [ht] at hP1
  obtain ⟨hP, hD⟩ := va_join (wr := [(q_nexts, .inl (cyI, 30, .inl fx))]) (w1 := [(mc, .inr (7, [.ref q_memory, .ref q_funcs, .ref q_nexts, .int ve, .int vt, .int vs, .int vc, .int (nI (nz + 1)), .ref q_program, .ref q_locals, .ref q_stack, .ref q_bottoms, .int vp]))]) hP hD [0] [1] rfl rfl (by decide) (by decide) hk1 hFc hP1 hD1
  generalize H1 = H at hP hS ⊢
  have hP : va_P (dC, dI) vwCl [(q_nexts, .inl (cyI, 30, .inl fx)), (mc, .inr (7, [.ref q_memory, .ref q_funcs, .ref q_nexts, .int ve, .int vt, .int vs, .int vc, .int (nI (nz + 1)), .ref q_program, .ref q_locals, .ref q_stack, .ref q_bottoms, .int vp]))] H := hP
  have hD : va_D A [(q_nexts, .inl (cyI, 30, .inl fx)), (mc, .inr (7, [.ref q_memory, .ref q_funcs, .ref q_nexts, .int ve, .int vt, .int vs, .int vc, .int (nI (nz + 1)), .ref q_program, .ref q_locals, .ref q_stack, .ref q_bottoms, .int vp]))] := hD
  have er_1 : r_1 = nI nz := hw
  subst er_1
  refine lv_iload_n hx hb dX4_jump_8 rfl (lv_at hl 1 rfl) ?_
  refine va_iast hx hb hK hP hD hS 0 0 rfl rfl (vp_in_nI (show nz < 30 by omega) (by decide)) dX4_jump_9 (fun H locs hP hD hS => ?_)
  rw [nI_clamp (show nz < 2 ^ 31 by omega)] at hP hD
  have hP : va_P (dC, dI) vwCl [(q_nexts, .inl (cyI, 30, .inl (upd fx nz p0))), (mc, .inr (7, [.ref q_memory, .ref q_funcs, .ref q_nexts, .int ve, .int vt, .int vs, .int vc, .int (nI (nz + 1)), .ref q_program, .ref q_locals, .ref q_stack, .ref q_bottoms, .int vp]))] H := hP
  have hD : va_D A [(q_nexts, .inl (cyI, 30, .inl (upd fx nz p0))), (mc, .inr (7, [.ref q_memory, .ref q_funcs, .ref q_nexts, .int ve, .int vt, .int vs, .int vc, .int (nI (nz + 1)), .ref q_program, .ref q_locals, .ref q_stack, .ref q_bottoms, .int vp]))] := hD
  have hP9 := hP.sub (ws' := [(mc, .inr (7, [.ref q_memory, .ref q_funcs, .ref q_nexts, .int ve, .int vt, .int vs, .int vc, .int (nI (nz + 1)), .ref q_program, .ref q_locals, .ref q_stack, .ref q_bottoms, .int vp])), (q_nexts, .inl (cyI, 30, .inl (upd fx nz p0)))]) [1, 0] rfl
  have hD9 := hD.sub (ws' := [(mc, .inr (7, [.ref q_memory, .ref q_funcs, .ref q_nexts, .int ve, .int vt, .int vs, .int vc, .int (nI (nz + 1)), .ref q_program, .ref q_locals, .ref q_stack, .ref q_bottoms, .int vp])), (q_nexts, .inl (cyI, 30, .inl (upd fx nz p0)))]) [1, 0] (by decide) rfl
  exact W.vret hx hb hr (fun t ht hW => ⟨⟨(), rfl, trivial, pz_Bof hP9 hK hD9 ht hW⟩, hS.F ht⟩) hS.2.2 dX4_jump_10

def wq_X4_room_X7 : List Cond := .code yX4_room cX4_room 1 (some .int) :: ([.fieldLink RX4 34 "RegisterMill$Machine" "nested" "I"] ++ wsX70)
set_option maxHeartbeats 4000000 in
set_option maxRecDepth 100000 in
/-- room: the number of the innermost call -/
theorem c_X4_room_X7 (l : Launch) (dC : Nat → ClassId) (dI : Nat → Nat → Nat) (cyI : ClassId) (sz : Nat) (mc : Nat) (q_memory : Nat) (q_funcs : Nat) (q_nexts : Nat) (q_code : Nat) (q_registers : Nat) (q_slotCells : Nat) (q_passed : Nat) (nz : Nat) (ve : Int32) (vt : Int32) (vs : Int32) (vc : Int32) (vp : Int32) : Met l yX4_room wq_X4_room_X7 ({ frames := 0, cells := 0, slots := 0, locals := 0 }) (va_Pc [.ref mc] (pz_pre dC dI [(cyI, .int)] [(mc, .inr (6, [.ref q_memory, .ref q_funcs, .ref q_nexts, .int ve, .int vt, .int vs, .int vc, .int (nI (nz + 1)), .ref q_code, .ref q_registers, .ref q_slotCells, .ref q_passed, .int vp]))] sz)) (va_Qi (S := Unit) (fun (r : Int32) _ => r = nI nz) (fun _ t => pz_B dC dI [(cyI, .int)] (va_A [(mc, .inr (6, [.ref q_memory, .ref q_funcs, .ref q_nexts, .int ve, .int vt, .int vs, .int vc, .int (nI (nz + 1)), .ref q_code, .ref q_registers, .ref q_slotCells, .ref q_passed, .int vp]))] sz) [(mc, .inr (6, [.ref q_memory, .ref q_funcs, .ref q_nexts, .int ve, .int vt, .int vs, .int vc, .int (nI (nz + 1)), .ref q_code, .ref q_registers, .ref q_slotCells, .ref q_passed, .int vp]))] t) (va_A [(mc, .inr (6, [.ref q_memory, .ref q_funcs, .ref q_nexts, .int ve, .int vt, .int vs, .int vc, .int (nI (nz + 1)), .ref q_code, .ref q_registers, .ref q_slotCells, .ref q_passed, .int vp]))] sz)) 0 0 (va_A [(mc, .inr (6, [.ref q_memory, .ref q_funcs, .ref q_nexts, .int ve, .int vt, .int vs, .int vc, .int (nI (nz + 1)), .ref q_code, .ref q_registers, .ref q_slotCells, .ref q_passed, .int vp]))] sz) := by
  refine Met.ofW (cc := cX4_room) (maxL := 1) (ret := (some .int)) (by decide) rfl ?_
  intro p e s m args below meth c s₁ B hml hv
  obtain ⟨rfl, hsz, hP, hK, hD0, hNW⟩ := hv
  have hx := B.exec
  have hb := B.bytes
  have hr := B.returns
  have hts := atoms_spec (ws := wq_X4_room_X7) B.pre
  have hown : s.vm.findClass RX4 = some m.cls := findClass_of_methodNamed B.named
  have hlocks := B.notSynchronized
  have hiX7 : ∀ w ∈ wsX70, w ∈ wq_X4_room_X7 := by decide +kernel
  subst hsz
  have hD := hD0.self (sz := s.heap.size)
  generalize hAe : va_A [(mc, .inr (6, [.ref q_memory, .ref q_funcs, .ref q_nexts, .int ve, .int vt, .int vs, .int vc, .int (nI (nz + 1)), .ref q_code, .ref q_registers, .ref q_slotCells, .ref q_passed, .int vp]))] s.heap.size = A at hD ⊢
  have hA : ∀ q : Nat, s.heap.size ≤ q → A q := fun q h => by rw [← hAe]; exact Or.inr h
  have hS : va_S A s.heap s.heap [] := va_S.rf
  have hl := lv_entry ([.ref mc]) (n := 1) (Nat.le_of_ble_eq_true rfl)
  rw [lg_entry_eq]
  generalize (lg_sl ([.ref mc]) ++ List.replicate (1 - (lg_sl ([.ref mc])).length) Slot.unset).toArray = ls at hl ⊢
  have hl : lv_has ls 1 [(0, .ref mc)] := hl
  refine lv_aload_n hx hb dX4_room_0 rfl (lv_at hl 0 rfl) ?_
  refine va_get (D := (dC, dI)) (ci := 6) (v := .int (nI (nz + 1))) (C := RX7) (T := TX7) (N := 13) hx hb hts hiX7 hown hK hP 0 rfl rfl 7 (by decide) (hts (.fieldLink RX4 34 "RegisterMill$Machine" "nested" "I") (by decide +kernel)) (fun _ h9 => h9) rfl dX4_room_1 ?_
  refine lv_iconst (v := 1) hx hb dX4_room_4 (by decide) ?_
  refine lv_isub hx hb dX4_room_5 ?_
  refine W.eq (g2 := F0 m 6 ls [.int (nI nz)]) (congrArg (fun z => F0 m 6 ls (.int z :: [])) ((pk_sub (show 1 ≤ nz + 1 by omega)).trans (congrArg nI (by omega)))) ?_
  have hP9 := hP.sub (ws' := [(mc, .inr (6, [.ref q_memory, .ref q_funcs, .ref q_nexts, .int ve, .int vt, .int vs, .int vc, .int (nI (nz + 1)), .ref q_code, .ref q_registers, .ref q_slotCells, .ref q_passed, .int vp]))]) [0] rfl
  have hD9 := hD.sub (ws' := [(mc, .inr (6, [.ref q_memory, .ref q_funcs, .ref q_nexts, .int ve, .int vt, .int vs, .int vc, .int (nI (nz + 1)), .ref q_code, .ref q_registers, .ref q_slotCells, .ref q_passed, .int vp]))]) [0] (by decide) rfl
  have h9 : (nI nz : Int32) = nI nz := rfl
  exact W.iret (v := nI nz) hx hb hr (fun t ht hW => ⟨⟨_, (), rfl, h9, pz_Bof hP9 hK hD9 ht hW⟩, hS.F ht⟩) hS.2.2 dX4_room_6

def wq_X4_finish_X7 : List Cond := .code yX4_finish cX4_finish 2 none :: ([.fieldLink RX4 21 "RegisterMill$Machine" "end" "I", .fieldLink RX4 34 "RegisterMill$Machine" "nested" "I"] ++ wsX70)
set_option maxHeartbeats 4000000 in
set_option maxRecDepth 100000 in
/-- finish -/
theorem c_X4_finish_X7 (l : Launch) (dC : Nat → ClassId) (dI : Nat → Nat → Nat) (cyI : ClassId) (sz : Nat) (mc : Nat) (q_memory : Nat) (q_funcs : Nat) (q_nexts : Nat) (q_code : Nat) (q_registers : Nat) (q_slotCells : Nat) (q_passed : Nat) (nz : Nat) (ve : Int32) (vt : Int32) (vs : Int32) (vc : Int32) (vp : Int32) (p0 : Int32) : Met l yX4_finish wq_X4_finish_X7 ({ frames := 0, cells := 0, slots := 0, locals := 0 }) (va_Pc [.ref mc, .int p0] (pz_pre dC dI [(cyI, .int)] [(mc, .inr (6, [.ref q_memory, .ref q_funcs, .ref q_nexts, .int ve, .int vt, .int vs, .int vc, .int (nI nz), .ref q_code, .ref q_registers, .ref q_slotCells, .ref q_passed, .int vp]))] sz)) (va_Qv (S := Unit) (fun _ => True) (fun _ t => pz_B dC dI [(cyI, .int)] (va_A [(mc, .inr (6, [.ref q_memory, .ref q_funcs, .ref q_nexts, .int ve, .int vt, .int vs, .int vc, .int (nI nz), .ref q_code, .ref q_registers, .ref q_slotCells, .ref q_passed, .int vp]))] sz) [(mc, .inr (6, [.ref q_memory, .ref q_funcs, .ref q_nexts, .int p0, .int vt, .int vs, .int vc, .int 0, .ref q_code, .ref q_registers, .ref q_slotCells, .ref q_passed, .int vp]))] t) (va_A [(mc, .inr (6, [.ref q_memory, .ref q_funcs, .ref q_nexts, .int ve, .int vt, .int vs, .int vc, .int (nI nz), .ref q_code, .ref q_registers, .ref q_slotCells, .ref q_passed, .int vp]))] sz)) 0 0 (va_A [(mc, .inr (6, [.ref q_memory, .ref q_funcs, .ref q_nexts, .int ve, .int vt, .int vs, .int vc, .int (nI nz), .ref q_code, .ref q_registers, .ref q_slotCells, .ref q_passed, .int vp]))] sz) := by
  refine Met.ofW (cc := cX4_finish) (maxL := 2) (ret := none) (by decide) rfl ?_
  intro p e s m args below meth c s₁ B hml hv
  obtain ⟨rfl, hsz, hP, hK, hD0, hNW⟩ := hv
  have hx := B.exec
  have hb := B.bytes
  have hr := B.returns
  have hts := atoms_spec (ws := wq_X4_finish_X7) B.pre
  have hown : s.vm.findClass RX4 = some m.cls := findClass_of_methodNamed B.named
  have hlocks := B.notSynchronized
  have hiX7 : ∀ w ∈ wsX70, w ∈ wq_X4_finish_X7 := by decide +kernel
  subst hsz
  have hD := hD0.self (sz := s.heap.size)
  generalize hAe : va_A [(mc, .inr (6, [.ref q_memory, .ref q_funcs, .ref q_nexts, .int ve, .int vt, .int vs, .int vc, .int (nI nz), .ref q_code, .ref q_registers, .ref q_slotCells, .ref q_passed, .int vp]))] s.heap.size = A at hD ⊢
  have hA : ∀ q : Nat, s.heap.size ≤ q → A q := fun q h => by rw [← hAe]; exact Or.inr h
  have hS : va_S A s.heap s.heap [] := va_S.rf
  have hl := lv_entry ([.ref mc, .int p0]) (n := 2) (Nat.le_of_ble_eq_true rfl)
  rw [lg_entry_eq]
  generalize (lg_sl ([.ref mc, .int p0]) ++ List.replicate (2 - (lg_sl ([.ref mc, .int p0])).length) Slot.unset).toArray = ls at hl ⊢
  have hl : lv_has ls 2 [(0, .ref mc), (1, .int p0)] := hl
  refine lv_aload_n hx hb dX4_finish_0 rfl (lv_at hl 0 rfl) ?_
  refine lv_iload_n hx hb dX4_finish_1 rfl (lv_at hl 1 rfl) ?_
  refine va_put (D := (dC, dI)) (ci := 6) (v := .int p0) (ty := .int) (C := RX7) (T := TX7) (N := 13) hx hb hts hiX7 tyX7 tyX7_ok nmX7 hown hK hP hD hS 0 rfl rfl 3 (by decide) (hts (.fieldLink RX4 21 "RegisterMill$Machine" "end" "I") (by decide +kernel)) (fun _ h9 => h9) rfl (by decide +kernel) rfl rfl (Nat.le_of_ble_eq_true rfl) dX4_finish_2 (fun H locs hP hD hS => ?_)
  have hP : va_P (dC, dI) vwCl [(mc, .inr (6, [.ref q_memory, .ref q_funcs, .ref q_nexts, .int p0, .int vt, .int vs, .int vc, .int (nI nz), .ref q_code, .ref q_registers, .ref q_slotCells, .ref q_passed, .int vp]))] H := hP
  have hD : va_D A [(mc, .inr (6, [.ref q_memory, .ref q_funcs, .ref q_nexts, .int p0, .int vt, .int vs, .int vc, .int (nI nz), .ref q_code, .ref q_registers, .ref q_slotCells, .ref q_passed, .int vp]))] := hD
  refine lv_aload_n hx hb dX4_finish_5 rfl (lv_at hl 0 rfl) ?_
  refine lv_iconst (v := 0) hx hb dX4_finish_6 (by decide) ?_
  refine va_put (D := (dC, dI)) (ci := 6) (v := .int 0) (ty := .int) (C := RX7) (T := TX7) (N := 13) hx hb hts hiX7 tyX7 tyX7_ok nmX7 hown hK hP hD hS 0 rfl rfl 7 (by decide) (hts (.fieldLink RX4 34 "RegisterMill$Machine" "nested" "I") (by decide +kernel)) (fun _ h9 => h9) rfl (by decide +kernel) rfl rfl (Nat.le_of_ble_eq_true rfl) dX4_finish_7 (fun H locs hP hD hS => ?_)
  have hP : va_P (dC, dI) vwCl [(mc, .inr (6, [.ref q_memory, .ref q_funcs, .ref q_nexts, .int p0, .int vt, .int vs, .int vc, .int 0, .ref q_code, .ref q_registers, .ref q_slotCells, .ref q_passed, .int vp]))] H := hP
  have hD : va_D A [(mc, .inr (6, [.ref q_memory, .ref q_funcs, .ref q_nexts, .int p0, .int vt, .int vs, .int vc, .int 0, .ref q_code, .ref q_registers, .ref q_slotCells, .ref q_passed, .int vp]))] := hD
  have hP9 := hP.sub (ws' := [(mc, .inr (6, [.ref q_memory, .ref q_funcs, .ref q_nexts, .int p0, .int vt, .int vs, .int vc, .int 0, .ref q_code, .ref q_registers, .ref q_slotCells, .ref q_passed, .int vp]))]) [0] rfl
  have hD9 := hD.sub (ws' := [(mc, .inr (6, [.ref q_memory, .ref q_funcs, .ref q_nexts, .int p0, .int vt, .int vs, .int vc, .int 0, .ref q_code, .ref q_registers, .ref q_slotCells, .ref q_passed, .int vp]))]) [0] (by decide) rfl
  exact W.vret hx hb hr (fun t ht hW => ⟨⟨(), rfl, trivial, pz_Bof hP9 hK hD9 ht hW⟩, hS.F ht⟩) hS.2.2 dX4_finish_10

def wq_X4_jump_X7 : List Cond := .code yX4_jump cX4_jump 2 none :: ([.fieldLink RX4 18 "RegisterMill$Machine" "nexts" "[I", .code yX4_room cX4_room 1 (some .int), .fieldLink RX4 34 "RegisterMill$Machine" "nested" "I", .methodLink RX4 41 ⟨"RegisterMill$Machine", "room", "()I"⟩, .sameMethod "RegisterMill$Machine" "RegisterMill$Machine" "room" "()I", .selects RX7 ⟨"RegisterMill$Machine", "room", "()I"⟩ yX4_room, .instanceMethod yX4_room, .initialized RX4] ++ wsX70)
set_option maxRecDepth 20000 in
theorem gq_X4_jump_X7_X4_room_X7_41X7 : GoodIn wq_X4_jump_X7 (va_wsU RX4 41 RX7 "RegisterMill$Machine" ⟨"RegisterMill$Machine", "room", "()I"⟩ yX4_room wq_X4_room_X7) := goodIn_r _ [4, 5, 6, 7, 8, 2, 3, 9, 10, 11, 12, 13, 14, 15, 16, 17, 18, 19, 20, 21] (by decide +kernel) (by decide +kernel)
set_option maxHeartbeats 4000000 in
set_option maxRecDepth 100000 in
/-- jump -/
theorem c_X4_jump_X7 (l : Launch) (dC : Nat → ClassId) (dI : Nat → Nat → Nat) (cyI : ClassId) (sz : Nat) (mc : Nat) (q_memory : Nat) (q_funcs : Nat) (q_nexts : Nat) (q_code : Nat) (q_registers : Nat) (q_slotCells : Nat) (q_passed : Nat) (nz : Nat) (ve : Int32) (vt : Int32) (vs : Int32) (vc : Int32) (vp : Int32) (p0 : Int32) (fx : Nat → Int32) (hn : nz < 30) : Met l yX4_jump wq_X4_jump_X7 ({ frames := 1, cells := 0, slots := 0, locals := 20 }) (va_Pc [.ref mc, .int p0] (pz_pre dC dI [(cyI, .int)] [(mc, .inr (6, [.ref q_memory, .ref q_funcs, .ref q_nexts, .int ve, .int vt, .int vs, .int vc, .int (nI (nz + 1)), .ref q_code, .ref q_registers, .ref q_slotCells, .ref q_passed, .int vp])), (q_nexts, .inl (cyI, 30, .inl fx))] sz)) (va_Qv (S := Unit) (fun _ => True) (fun _ t => pz_B dC dI [(cyI, .int)] (va_A [(mc, .inr (6, [.ref q_memory, .ref q_funcs, .ref q_nexts, .int ve, .int vt, .int vs, .int vc, .int (nI (nz + 1)), .ref q_code, .ref q_registers, .ref q_slotCells, .ref q_passed, .int vp])), (q_nexts, .inl (cyI, 30, .inl fx))] sz) [(mc, .inr (6, [.ref q_memory, .ref q_funcs, .ref q_nexts, .int ve, .int vt, .int vs, .int vc, .int (nI (nz + 1)), .ref q_code, .ref q_registers, .ref q_slotCells, .ref q_passed, .int vp])), (q_nexts, .inl (cyI, 30, .inl (upd fx nz p0)))] t) (va_A [(mc, .inr (6, [.ref q_memory, .ref q_funcs, .ref q_nexts, .int ve, .int vt, .int vs, .int vc, .int (nI (nz + 1)), .ref q_code, .ref q_registers, .ref q_slotCells, .ref q_passed, .int vp])), (q_nexts, .inl (cyI, 30, .inl fx))] sz)) 0 0 (va_A [(mc, .inr (6, [.ref q_memory, .ref q_funcs, .ref q_nexts, .int ve, .int vt, .int vs, .int vc, .int (nI (nz + 1)), .ref q_code, .ref q_registers, .ref q_slotCells, .ref q_passed, .int vp])), (q_nexts, .inl (cyI, 30, .inl fx))] sz) := by
  refine Met.ofW (cc := cX4_jump) (maxL := 2) (ret := none) (by decide) rfl ?_
  intro p e s m args below meth c s₁ B hml hv
  obtain ⟨rfl, hsz, hP, hK, hD0, hNW⟩ := hv
  have hx := B.exec
  have hb := B.bytes
  have hr := B.returns
  have hts := atoms_spec (ws := wq_X4_jump_X7) B.pre
  have hown : s.vm.findClass RX4 = some m.cls := findClass_of_methodNamed B.named
  have hlocks := B.notSynchronized
  have hiX7 : ∀ w ∈ wsX70, w ∈ wq_X4_jump_X7 := by decide +kernel
  subst hsz
  have hD := hD0.self (sz := s.heap.size)
  generalize hAe : va_A [(mc, .inr (6, [.ref q_memory, .ref q_funcs, .ref q_nexts, .int ve, .int vt, .int vs, .int vc, .int (nI (nz + 1)), .ref q_code, .ref q_registers, .ref q_slotCells, .ref q_passed, .int vp])), (q_nexts, .inl (cyI, 30, .inl fx))] s.heap.size = A at hD ⊢
  have hA : ∀ q : Nat, s.heap.size ≤ q → A q := fun q h => by rw [← hAe]; exact Or.inr h
  have hS : va_S A s.heap s.heap [] := va_S.rf
  have hl := lv_entry ([.ref mc, .int p0]) (n := 2) (Nat.le_of_ble_eq_true rfl)
  rw [lg_entry_eq]
  generalize (lg_sl ([.ref mc, .int p0]) ++ List.replicate (2 - (lg_sl ([.ref mc, .int p0])).length) Slot.unset).toArray = ls at hl ⊢
  have hl : lv_has ls 2 [(0, .ref mc), (1, .int p0)] := hl
  refine lv_aload_n hx hb dX4_jump_0 rfl (lv_at hl 0 rfl) ?_
  refine va_get (D := (dC, dI)) (ci := 6) (v := .ref q_nexts) (C := RX7) (T := TX7) (N := 13) hx hb hts hiX7 hown hK hP 0 rfl rfl 2 (by decide) (hts (.fieldLink RX4 18 "RegisterMill$Machine" "nexts" "[I") (by decide +kernel)) (fun _ h9 => h9) rfl dX4_jump_1 ?_
  refine lv_aload_n hx hb dX4_jump_4 rfl (lv_at hl 0 rfl) ?_
  have hPc := hP.sub (ws' := [(mc, .inr (6, [.ref q_memory, .ref q_funcs, .ref q_nexts, .int ve, .int vt, .int vs, .int vc, .int (nI (nz + 1)), .ref q_code, .ref q_registers, .ref q_slotCells, .ref q_passed, .int vp]))]) [0] rfl
  have hDc := hD.sub (ws' := [(mc, .inr (6, [.ref q_memory, .ref q_funcs, .ref q_nexts, .int ve, .int vt, .int vs, .int vc, .int (nI (nz + 1)), .ref q_code, .ref q_registers, .ref q_slotCells, .ref q_passed, .int vp]))]) [0] (by decide) rfl
  have hKc := hK.sub (tys' := [(cyI, .int)]) [0] rfl
  have hFc := va_free (wc := [(mc, .inr (6, [.ref q_memory, .ref q_funcs, .ref q_nexts, .int ve, .int vt, .int vs, .int vc, .int (nI (nz + 1)), .ref q_code, .ref q_registers, .ref q_slotCells, .ref q_passed, .int vp]))]) hD hS hA [0] rfl
  refine va_calli (va_runU (As := []) (rest := [.ref q_nexts]) ⟨hx, hb, hml, hown, hts⟩ (c_X4_room_X7 l dC dI cyI s.heap.size mc q_memory q_funcs q_nexts q_code q_registers q_slotCells q_passed nz ve vt vs vc vp) (va_cwU 0 hts gq_X4_jump_X7_X4_room_X7_41X7 rfl rfl rfl rfl (by decide +kernel) ⟨Nat.le_of_ble_eq_true rfl, Nat.le_of_ble_eq_true rfl⟩) ⟨pz_blind, va_recv hKc hPc (ci := 6) (q0 := 0) rfl rfl, pz_to hPc hKc hDc hNW⟩ rfl rfl hl.1 rfl (lv_room (Nat.le_of_ble_eq_true rfl)) dX4_jump_5 (by decide)) hS (fun q _ h => hFc q h) hFc (fun r_1 u t H1 locs ht hvm hw hB hz1 hk1 hS => ?_)
  obtain ⟨hP1, hK1, hD1⟩ := hB
  rw [ht] at hP1
  obtain ⟨hP, hD⟩ := va_join (wr := [(q_nexts, .inl (cyI, 30, .inl fx))]) (w1 := [(mc, .inr (6, [.ref q_memory, .ref q_funcs, .ref q_nexts, .int ve, .int vt, .int vs, .int vc, .int (nI (nz + 1)), .ref q_code, .ref q_registers, .ref q_slotCells, .ref q_passed, .int vp]))]) hP hD [0] [1] rfl rfl (by decide) (by decide) hk1 hFc hP1 hD1
  generalize H1 = H at hP hS ⊢
  have hP : va_P (dC, dI) vwCl [(q_nexts, .inl (cyI, 30, .inl fx)), (mc, .inr (6, [.ref q_memory, .ref q_funcs, .ref q_nexts, .int ve, .int vt, .int vs, .int vc, .int (nI (nz + 1)), .ref q_code, .ref q_registers, .ref q_slotCells, .ref q_passed, .int vp]))] H := hP
  have hD : va_D A [(q_nexts, .inl (cyI, 30, .inl fx)), (mc, .inr (6, [.ref q_memory, .ref q_funcs, .ref q_nexts, .int ve, .int vt, .int vs, .int vc, .int (nI (nz + 1)), .ref q_code, .ref q_registers, .ref q_slotCells, .ref q_passed, .int vp]))] := hD
  have er_1 : r_1 = nI nz := hw
  subst er_1
  refine lv_iload_n hx hb dX4_jump_8 rfl (lv_at hl 1 rfl) ?_
  refine va_iast hx hb hK hP hD hS 0 0 rfl rfl (vp_in_nI (show nz < 30 by omega) (by decide)) dX4_jump_9 (fun H locs hP hD hS => ?_)
  rw [nI_clamp (show nz < 2 ^ 31 by omega)] at hP hD
  have hP : va_P (dC, dI) vwCl [(q_nexts, .inl (cyI, 30, .inl (upd fx nz p0))), (mc, .inr (6, [.ref q_memory, .ref q_funcs, .ref q_nexts, .int ve, .int vt, .int vs, .int vc, .int (nI (nz + 1)), .ref q_code, .ref q_registers, .ref q_slotCells, .ref q_passed, .int vp]))] H := hP
  have hD : va_D A [(q_nexts, .inl (cyI, 30, .inl (upd fx nz p0))), (mc, .inr (6, [.ref q_memory, .ref q_funcs, .ref q_nexts, .int ve, .int vt, .int vs, .int vc, .int (nI (nz + 1)), .ref q_code, .ref q_registers, .ref q_slotCells, .ref q_passed, .int vp]))] := hD
  have hP9 := hP.sub (ws' := [(mc, .inr (6, [.ref q_memory, .ref q_funcs, .ref q_nexts, .int ve, .int vt, .int vs, .int vc, .int (nI (nz + 1)), .ref q_code, .ref q_registers, .ref q_slotCells, .ref q_passed, .int vp])), (q_nexts, .inl (cyI, 30, .inl (upd fx nz p0)))]) [1, 0] rfl
  have hD9 := hD.sub (ws' := [(mc, .inr (6, [.ref q_memory, .ref q_funcs, .ref q_nexts, .int ve, .int vt, .int vs, .int vc, .int (nI (nz + 1)), .ref q_code, .ref q_registers, .ref q_slotCells, .ref q_passed, .int vp])), (q_nexts, .inl (cyI, 30, .inl (upd fx nz p0)))]) [1, 0] (by decide) rfl
  exact W.vret hx hb hr (fun t ht hW => ⟨⟨(), rfl, trivial, pz_Bof hP9 hK hD9 ht hW⟩, hS.F ht⟩) hS.2.2 dX4_jump_10

def wq_X4_hasCell_X8ok : List Cond := .code yX4_hasCell cX4_hasCell 2 (some .boolean) :: ([])
set_option maxHeartbeats 4000000 in
set_option maxRecDepth 100000 in
/-- hasCell: there is such a cell -/
theorem c_X4_hasCell_X8ok (l : Launch) (dC : Nat → ClassId) (dI : Nat → Nat → Nat) (cyI : ClassId) (sz : Nat) (mc : Nat) (q_memory : Nat) (q_funcs : Nat) (q_nexts : Nat) (q_program : Nat) (q_locals : Nat) (q_stack : Nat) (q_bottoms : Nat) (nz : Nat) (ve : Int32) (vt : Int32) (vs : Int32) (vc : Int32) (vp : Int32) (p0 : Int32) (g_1 : ¬ p0 < 0) (g_2 : ¬ 64 ≤ p0) : Met l yX4_hasCell wq_X4_hasCell_X8ok ({ frames := 0, cells := 0, slots := 0, locals := 0 }) (va_Pc [.ref mc, .int p0] (pz_pre dC dI [(cyI, .int)] [(mc, .inr (7, [.ref q_memory, .ref q_funcs, .ref q_nexts, .int ve, .int vt, .int vs, .int vc, .int (nI nz), .ref q_program, .ref q_locals, .ref q_stack, .ref q_bottoms, .int vp]))] sz)) (va_Qi (S := Unit) (fun (r : Int32) _ => r = 1) (fun _ t => pz_B dC dI [(cyI, .int)] (va_A [(mc, .inr (7, [.ref q_memory, .ref q_funcs, .ref q_nexts, .int ve, .int vt, .int vs, .int vc, .int (nI nz), .ref q_program, .ref q_locals, .ref q_stack, .ref q_bottoms, .int vp]))] sz) [(mc, .inr (7, [.ref q_memory, .ref q_funcs, .ref q_nexts, .int ve, .int vt, .int vs, .int vc, .int (nI nz), .ref q_program, .ref q_locals, .ref q_stack, .ref q_bottoms, .int vp]))] t) (va_A [(mc, .inr (7, [.ref q_memory, .ref q_funcs, .ref q_nexts, .int ve, .int vt, .int vs, .int vc, .int (nI nz), .ref q_program, .ref q_locals, .ref q_stack, .ref q_bottoms, .int vp]))] sz)) 0 0 (va_A [(mc, .inr (7, [.ref q_memory, .ref q_funcs, .ref q_nexts, .int ve, .int vt, .int vs, .int vc, .int (nI nz), .ref q_program, .ref q_locals, .ref q_stack, .ref q_bottoms, .int vp]))] sz) := by
  refine Met.ofW (cc := cX4_hasCell) (maxL := 2) (ret := (some .boolean)) (by decide) rfl ?_
  intro p e s m args below meth c s₁ B hml hv
  obtain ⟨rfl, hsz, hP, hK, hD0, hNW⟩ := hv
  have hx := B.exec
  have hb := B.bytes
  have hr := B.returns
  have hts := atoms_spec (ws := wq_X4_hasCell_X8ok) B.pre
  have hown : s.vm.findClass RX4 = some m.cls := findClass_of_methodNamed B.named
  have hlocks := B.notSynchronized
  subst hsz
  have hD := hD0.self (sz := s.heap.size)
  generalize hAe : va_A [(mc, .inr (7, [.ref q_memory, .ref q_funcs, .ref q_nexts, .int ve, .int vt, .int vs, .int vc, .int (nI nz), .ref q_program, .ref q_locals, .ref q_stack, .ref q_bottoms, .int vp]))] s.heap.size = A at hD ⊢
  have hA : ∀ q : Nat, s.heap.size ≤ q → A q := fun q h => by rw [← hAe]; exact Or.inr h
  have hS : va_S A s.heap s.heap [] := va_S.rf
  have hl := lv_entry ([.ref mc, .int p0]) (n := 2) (Nat.le_of_ble_eq_true rfl)
  rw [lg_entry_eq]
  generalize (lg_sl ([.ref mc, .int p0]) ++ List.replicate (2 - (lg_sl ([.ref mc, .int p0])).length) Slot.unset).toArray = ls at hl ⊢
  have hl : lv_has ls 2 [(0, .ref mc), (1, .int p0)] := hl
  refine lv_iload_n hx hb dX4_hasCell_0 rfl (lv_at hl 1 rfl) ?_
  refine lv_if_lt (tgt := 12) hx hb dX4_hasCell_1 (by decide) (fun h => absurd h g_1) (fun _ => ?_)
  refine lv_iload_n hx hb dX4_hasCell_4 rfl (lv_at hl 1 rfl) ?_
  refine lv_bipush (v := 64) hx hb dX4_hasCell_5 (by decide) ?_
  refine lv_icmp_ge (tgt := 12) hx hb dX4_hasCell_7 (by decide) (fun h => absurd h g_2) (fun _ => ?_)
  refine lv_iconst (v := 1) hx hb dX4_hasCell_10 (by decide) ?_
  have hP9 := hP.sub (ws' := [(mc, .inr (7, [.ref q_memory, .ref q_funcs, .ref q_nexts, .int ve, .int vt, .int vs, .int vc, .int (nI nz), .ref q_program, .ref q_locals, .ref q_stack, .ref q_bottoms, .int vp]))]) [0] rfl
  have hD9 := hD.sub (ws' := [(mc, .inr (7, [.ref q_memory, .ref q_funcs, .ref q_nexts, .int ve, .int vt, .int vs, .int vc, .int (nI nz), .ref q_program, .ref q_locals, .ref q_stack, .ref q_bottoms, .int vp]))]) [0] (by decide) rfl
  have h9 : (1 : Int32) = 1 := rfl
  exact W.zret (v := (1)) hx hb hr (by decide) (fun t ht hW => ⟨⟨_, (), rfl, h9, pz_Bof hP9 hK hD9 ht hW⟩, hS.F ht⟩) hS.2.2 dX4_hasCell_11

def wq_X4_hasCell_X7ok : List Cond := .code yX4_hasCell cX4_hasCell 2 (some .boolean) :: ([])
set_option maxHeartbeats 4000000 in
set_option maxRecDepth 100000 in
/-- hasCell: there is such a cell -/
theorem c_X4_hasCell_X7ok (l : Launch) (dC : Nat → ClassId) (dI : Nat → Nat → Nat) (cyI : ClassId) (sz : Nat) (mc : Nat) (q_memory : Nat) (q_funcs : Nat) (q_nexts : Nat) (q_code : Nat) (q_registers : Nat) (q_slotCells : Nat) (q_passed : Nat) (nz : Nat) (ve : Int32) (vt : Int32) (vs : Int32) (vc : Int32) (vp : Int32) (p0 : Int32) (g_1 : ¬ p0 < 0) (g_2 : ¬ 64 ≤ p0) : Met l yX4_hasCell wq_X4_hasCell_X7ok ({ frames := 0, cells := 0, slots := 0, locals := 0 }) (va_Pc [.ref mc, .int p0] (pz_pre dC dI [(cyI, .int)] [(mc, .inr (6, [.ref q_memory, .ref q_funcs, .ref q_nexts, .int ve, .int vt, .int vs, .int vc, .int (nI nz), .ref q_code, .ref q_registers, .ref q_slotCells, .ref q_passed, .int vp]))] sz)) (va_Qi (S := Unit) (fun (r : Int32) _ => r = 1) (fun _ t => pz_B dC dI [(cyI, .int)] (va_A [(mc, .inr (6, [.ref q_memory, .ref q_funcs, .ref q_nexts, .int ve, .int vt, .int vs, .int vc, .int (nI nz), .ref q_code, .ref q_registers, .ref q_slotCells, .ref q_passed, .int vp]))] sz) [(mc, .inr (6, [.ref q_memory, .ref q_funcs, .ref q_nexts, .int ve, .int vt, .int vs, .int vc, .int (nI nz), .ref q_code, .ref q_registers, .ref q_slotCells, .ref q_passed, .int vp]))] t) (va_A [(mc, .inr (6, [.ref q_memory, .ref q_funcs, .ref q_nexts, .int ve, .int vt, .int vs, .int vc, .int (nI nz), .ref q_code, .ref q_registers, .ref q_slotCells, .ref q_passed, .int vp]))] sz)) 0 0 (va_A [(mc, .inr (6, [.ref q_memory, .ref q_funcs, .ref q_nexts, .int ve, .int vt, .int vs, .int vc, .int (nI nz), .ref q_code, .ref q_registers, .ref q_slotCells, .ref q_passed, .int vp]))] sz) := by
  refine Met.ofW (cc := cX4_hasCell) (maxL := 2) (ret := (some .boolean)) (by decide) rfl ?_
  intro p e s m args below meth c s₁ B hml hv
  obtain ⟨rfl, hsz, hP, hK, hD0, hNW⟩ := hv
  have hx := B.exec
  have hb := B.bytes
  have hr := B.returns
  have hts := atoms_spec (ws := wq_X4_hasCell_X7ok) B.pre
  have hown : s.vm.findClass RX4 = some m.cls := findClass_of_methodNamed B.named
  have hlocks := B.notSynchronized
  subst hsz
  have hD := hD0.self (sz := s.heap.size)
  generalize hAe : va_A [(mc, .inr (6, [.ref q_memory, .ref q_funcs, .ref q_nexts, .int ve, .int vt, .int vs, .int vc, .int (nI nz), .ref q_code, .ref q_registers, .ref q_slotCells, .ref q_passed, .int vp]))] s.heap.size = A at hD ⊢
  have hA : ∀ q : Nat, s.heap.size ≤ q → A q := fun q h => by rw [← hAe]; exact Or.inr h
  have hS : va_S A s.heap s.heap [] := va_S.rf
  have hl := lv_entry ([.ref mc, .int p0]) (n := 2) (Nat.le_of_ble_eq_true rfl)
  rw [lg_entry_eq]
  generalize (lg_sl ([.ref mc, .int p0]) ++ List.replicate (2 - (lg_sl ([.ref mc, .int p0])).length) Slot.unset).toArray = ls at hl ⊢
  have hl : lv_has ls 2 [(0, .ref mc), (1, .int p0)] := hl
  refine lv_iload_n hx hb dX4_hasCell_0 rfl (lv_at hl 1 rfl) ?_
  refine lv_if_lt (tgt := 12) hx hb dX4_hasCell_1 (by decide) (fun h => absurd h g_1) (fun _ => ?_)
  refine lv_iload_n hx hb dX4_hasCell_4 rfl (lv_at hl 1 rfl) ?_
  refine lv_bipush (v := 64) hx hb dX4_hasCell_5 (by decide) ?_
  refine lv_icmp_ge (tgt := 12) hx hb dX4_hasCell_7 (by decide) (fun h => absurd h g_2) (fun _ => ?_)
  refine lv_iconst (v := 1) hx hb dX4_hasCell_10 (by decide) ?_
  have hP9 := hP.sub (ws' := [(mc, .inr (6, [.ref q_memory, .ref q_funcs, .ref q_nexts, .int ve, .int vt, .int vs, .int vc, .int (nI nz), .ref q_code, .ref q_registers, .ref q_slotCells, .ref q_passed, .int vp]))]) [0] rfl
  have hD9 := hD.sub (ws' := [(mc, .inr (6, [.ref q_memory, .ref q_funcs, .ref q_nexts, .int ve, .int vt, .int vs, .int vc, .int (nI nz), .ref q_code, .ref q_registers, .ref q_slotCells, .ref q_passed, .int vp]))]) [0] (by decide) rfl
  have h9 : (1 : Int32) = 1 := rfl
  exact W.zret (v := (1)) hx hb hr (by decide) (fun t ht hW => ⟨⟨_, (), rfl, h9, pz_Bof hP9 hK hD9 ht hW⟩, hS.F ht⟩) hS.2.2 dX4_hasCell_11
