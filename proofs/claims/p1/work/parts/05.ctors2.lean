def wq_X4_init_X8 : List Cond := .code yX4_init cX4_init 1 none :: ([.methodLink RX4 3 objectInit, .instanceMethod objectInit, .code objectInit ⟨#[0xb1]⟩ 1 none, .arrayClass .int, .fieldLink RX4 9 "RegisterMill$Machine" "memory" "[I", .fieldLink RX4 15 "RegisterMill$Machine" "funcs" "[I", .fieldLink RX4 18 "RegisterMill$Machine" "nexts" "[I"] ++ wsX80)
set_option maxHeartbeats 4000000 in
set_option maxRecDepth 100000 in
/-- Machine(), of a RegisterMill$StackMachine -/
theorem c_X4_init_X8 (l : Launch) (dC : Nat → ClassId) (dI : Nat → Nat → Nat) (cyI : ClassId) (sz : Nat) (h0 : Nat) : Met l yX4_init wq_X4_init_X8 ({ frames := 1, cells := 3, slots := 124, locals := 12 }) (va_Pc [.ref h0] (pz_pre dC dI [(cyI, .int)] [(h0, .inr (7, [.null, .null, .null, .int 0, .int 0, .int 0, .int 0, .int 0, .null, .null, .null, .null, .int 0]))] sz)) (va_Qv (S := Unit) (fun _ => True) (fun _ t => ∃ a_memory a_funcs a_nexts : Nat, pz_B dC dI [(cyI, .int)] (va_A [(h0, .inr (7, [.null, .null, .null, .int 0, .int 0, .int 0, .int 0, .int 0, .null, .null, .null, .null, .int 0]))] sz) [(h0, .inr (7, [.ref a_memory, .ref a_funcs, .ref a_nexts, .int 0, .int 0, .int 0, .int 0, .int 0, .null, .null, .null, .null, .int 0])), (a_memory, .inl (cyI, 64, .inl (fun _ => 0)))] t) (va_A [(h0, .inr (7, [.null, .null, .null, .int 0, .int 0, .int 0, .int 0, .int 0, .null, .null, .null, .null, .int 0]))] sz)) 3 124 (va_A [(h0, .inr (7, [.null, .null, .null, .int 0, .int 0, .int 0, .int 0, .int 0, .null, .null, .null, .null, .int 0]))] sz) := by
  refine Met.ofW (cc := cX4_init) (maxL := 1) (ret := none) (by decide) rfl ?_
  intro p e s m args below meth c s₁ B hml hv
  obtain ⟨rfl, hsz, hP, hK, hD0, hNW⟩ := hv
  have hx := B.exec
  have hb := B.bytes
  have hr := B.returns
  have hts := atoms_spec (ws := wq_X4_init_X8) B.pre
  have hown : s.vm.findClass RX4 = some m.cls := findClass_of_methodNamed B.named
  have hlocks := B.notSynchronized
  have hin : meth.name = "<init>" := (name_of_methodNamed B.named B.method).1
  have hiX8 : ∀ w ∈ wsX80, w ∈ wq_X4_init_X8 := by decide +kernel
  subst hsz
  have hD := hD0.self (sz := s.heap.size)
  generalize hAe : va_A [(h0, .inr (7, [.null, .null, .null, .int 0, .int 0, .int 0, .int 0, .int 0, .null, .null, .null, .null, .int 0]))] s.heap.size = A at hD ⊢
  have hA : ∀ q : Nat, s.heap.size ≤ q → A q := fun q h => by rw [← hAe]; exact Or.inr h
  have hS : va_S A s.heap s.heap [] := va_S.rf
  have hl := lv_entry ([.ref h0]) (n := 1) (Nat.le_of_ble_eq_true rfl)
  rw [lg_entry_eq]
  generalize (lg_sl ([.ref h0]) ++ List.replicate (1 - (lg_sl ([.ref h0])).length) Slot.unset).toArray = ls at hl ⊢
  have hl : lv_has ls 1 [(0, .ref h0)] := hl
  refine lv_aload_n hx hb dX4_init_0 rfl (lv_at hl 0 rfl) ?_
  refine W.objInit hx hb hown (hts (.methodLink RX4 3 objectInit) (by decide +kernel)) (hts (.instanceMethod objectInit) (by decide +kernel)) (hts (.code objectInit ⟨#[0xb1]⟩ 1 none) (by decide +kernel)) rfl (by rw [hml]; exact hl.1) rfl dX4_init_1 (Nat.le_of_ble_eq_true rfl) (Nat.le_of_ble_eq_true rfl) ?_
  refine W.eq (g2 := F0 m 4 ls []) rfl ?_
  refine lv_aload_n hx hb dX4_init_4 rfl (lv_at hl 0 rfl) ?_
  refine lv_bipush (v := 64) hx hb dX4_init_5 (by decide) ?_
  refine pz_newa hx hb (hts (.arrayClass .int) (by decide +kernel)) hK hP hD hS hA 64 (by decide) (by decide) (by decide) (by decide) (by decide) dX4_init_7 (fun q_1 H hP hD hS => ?_)
  have hP : va_P (dC, dI) vwCl [(h0, .inr (7, [.null, .null, .null, .int 0, .int 0, .int 0, .int 0, .int 0, .null, .null, .null, .null, .int 0])), (q_1, .inl (cyI, 64, .inl (fun _ => 0)))] H := hP
  have hD : va_D A [(h0, .inr (7, [.null, .null, .null, .int 0, .int 0, .int 0, .int 0, .int 0, .null, .null, .null, .null, .int 0])), (q_1, .inl (cyI, 64, .inl (fun _ => 0)))] := hD
  refine W.widen (k := 1) (n := 64) (by omega) (by omega) ?_
  refine va_putF (D := (dC, dI)) (ci := 7) (v := .ref q_1) (ty := .array .int) (C := RX8) (T := TX8) (N := 13) hx hb hts hiX8 tyX8 tyX8_ok nmX8 hown hK hP hD hS 0 rfl rfl 0 (by decide) (hts (.fieldLink RX4 9 "RegisterMill$Machine" "memory" "[I") (by decide +kernel)) (fun _ h9 => h9) rfl hin rfl (by decide +kernel) rfl rfl (Nat.le_of_ble_eq_true rfl) dX4_init_9 (fun H locs hP hD hS => ?_)
  have hP : va_P (dC, dI) vwCl [(h0, .inr (7, [.ref q_1, .null, .null, .int 0, .int 0, .int 0, .int 0, .int 0, .null, .null, .null, .null, .int 0])), (q_1, .inl (cyI, 64, .inl (fun _ => 0)))] H := hP
  have hD : va_D A [(h0, .inr (7, [.ref q_1, .null, .null, .int 0, .int 0, .int 0, .int 0, .int 0, .null, .null, .null, .null, .int 0])), (q_1, .inl (cyI, 64, .inl (fun _ => 0)))] := hD
  refine lv_aload_n hx hb dX4_init_12 rfl (lv_at hl 0 rfl) ?_
  refine lv_bipush (v := 30) hx hb dX4_init_13 (by decide) ?_
  refine pz_newd hx hb (hts (.arrayClass .int) (by decide +kernel)) hK hP hD hS hA 30 (by decide) (by decide) (by decide) (by decide) (by decide) dX4_init_15 (fun q_2 H hP hS => ?_)
  refine W.widen (k := 2) (n := 94) (by omega) (by omega) ?_
  refine va_putF (D := (dC, dI)) (ci := 7) (v := .ref q_2) (ty := .array .int) (C := RX8) (T := TX8) (N := 13) hx hb hts hiX8 tyX8 tyX8_ok nmX8 hown hK hP hD hS 0 rfl rfl 1 (by decide) (hts (.fieldLink RX4 15 "RegisterMill$Machine" "funcs" "[I") (by decide +kernel)) (fun _ h9 => h9) rfl hin rfl (by decide +kernel) rfl rfl (Nat.le_of_ble_eq_true rfl) dX4_init_17 (fun H locs hP hD hS => ?_)
  have hP : va_P (dC, dI) vwCl [(h0, .inr (7, [.ref q_1, .ref q_2, .null, .int 0, .int 0, .int 0, .int 0, .int 0, .null, .null, .null, .null, .int 0])), (q_1, .inl (cyI, 64, .inl (fun _ => 0)))] H := hP
  have hD : va_D A [(h0, .inr (7, [.ref q_1, .ref q_2, .null, .int 0, .int 0, .int 0, .int 0, .int 0, .null, .null, .null, .null, .int 0])), (q_1, .inl (cyI, 64, .inl (fun _ => 0)))] := hD
  refine lv_aload_n hx hb dX4_init_20 rfl (lv_at hl 0 rfl) ?_
  refine lv_bipush (v := 30) hx hb dX4_init_21 (by decide) ?_
  refine pz_newd hx hb (hts (.arrayClass .int) (by decide +kernel)) hK hP hD hS hA 30 (by decide) (by decide) (by decide) (by decide) (by decide) dX4_init_23 (fun q_3 H hP hS => ?_)
  refine W.widen (k := 3) (n := 124) (by omega) (by omega) ?_
  refine va_putF (D := (dC, dI)) (ci := 7) (v := .ref q_3) (ty := .array .int) (C := RX8) (T := TX8) (N := 13) hx hb hts hiX8 tyX8 tyX8_ok nmX8 hown hK hP hD hS 0 rfl rfl 2 (by decide) (hts (.fieldLink RX4 18 "RegisterMill$Machine" "nexts" "[I") (by decide +kernel)) (fun _ h9 => h9) rfl hin rfl (by decide +kernel) rfl rfl (Nat.le_of_ble_eq_true rfl) dX4_init_25 (fun H locs hP hD hS => ?_)
  have hP : va_P (dC, dI) vwCl [(h0, .inr (7, [.ref q_1, .ref q_2, .ref q_3, .int 0, .int 0, .int 0, .int 0, .int 0, .null, .null, .null, .null, .int 0])), (q_1, .inl (cyI, 64, .inl (fun _ => 0)))] H := hP
  have hD : va_D A [(h0, .inr (7, [.ref q_1, .ref q_2, .ref q_3, .int 0, .int 0, .int 0, .int 0, .int 0, .null, .null, .null, .null, .int 0])), (q_1, .inl (cyI, 64, .inl (fun _ => 0)))] := hD
  refine W.widen (k := 3) (n := 124) (by decide) (by decide) ?_
  have hP9 := hP.sub (ws' := [(h0, .inr (7, [.ref q_1, .ref q_2, .ref q_3, .int 0, .int 0, .int 0, .int 0, .int 0, .null, .null, .null, .null, .int 0])), (q_1, .inl (cyI, 64, .inl (fun _ => 0)))]) [0, 1] rfl
  have hD9 := hD.sub (ws' := [(h0, .inr (7, [.ref q_1, .ref q_2, .ref q_3, .int 0, .int 0, .int 0, .int 0, .int 0, .null, .null, .null, .null, .int 0])), (q_1, .inl (cyI, 64, .inl (fun _ => 0)))]) [0, 1] (by decide) rfl
  exact W.vret hx hb hr (fun t ht hW => ⟨⟨(), rfl, trivial, ⟨q_1, q_2, q_3, pz_Bof hP9 hK hD9 ht hW⟩⟩, hS.F ht⟩) hS.2.2 dX4_init_28

def wq_X4_init_X7 : List Cond := .code yX4_init cX4_init 1 none :: ([.methodLink RX4 3 objectInit, .instanceMethod objectInit, .code objectInit ⟨#[0xb1]⟩ 1 none, .arrayClass .int, .fieldLink RX4 9 "RegisterMill$Machine" "memory" "[I", .fieldLink RX4 15 "RegisterMill$Machine" "funcs" "[I", .fieldLink RX4 18 "RegisterMill$Machine" "nexts" "[I"] ++ wsX70)
set_option maxHeartbeats 4000000 in
set_option maxRecDepth 100000 in
/-- Machine(), of a RegisterMill$RegisterMachine -/
theorem c_X4_init_X7 (l : Launch) (dC : Nat → ClassId) (dI : Nat → Nat → Nat) (cyI : ClassId) (sz : Nat) (h0 : Nat) : Met l yX4_init wq_X4_init_X7 ({ frames := 1, cells := 3, slots := 124, locals := 12 }) (va_Pc [.ref h0] (pz_pre dC dI [(cyI, .int)] [(h0, .inr (6, [.null, .null, .null, .int 0, .int 0, .int 0, .int 0, .int 0, .null, .null, .null, .null, .int 0]))] sz)) (va_Qv (S := Unit) (fun _ => True) (fun _ t => ∃ a_memory a_funcs a_nexts : Nat, pz_B dC dI [(cyI, .int)] (va_A [(h0, .inr (6, [.null, .null, .null, .int 0, .int 0, .int 0, .int 0, .int 0, .null, .null, .null, .null, .int 0]))] sz) [(h0, .inr (6, [.ref a_memory, .ref a_funcs, .ref a_nexts, .int 0, .int 0, .int 0, .int 0, .int 0, .null, .null, .null, .null, .int 0])), (a_memory, .inl (cyI, 64, .inl (fun _ => 0)))] t) (va_A [(h0, .inr (6, [.null, .null, .null, .int 0, .int 0, .int 0, .int 0, .int 0, .null, .null, .null, .null, .int 0]))] sz)) 3 124 (va_A [(h0, .inr (6, [.null, .null, .null, .int 0, .int 0, .int 0, .int 0, .int 0, .null, .null, .null, .null, .int 0]))] sz) := by
  refine Met.ofW (cc := cX4_init) (maxL := 1) (ret := none) (by decide) rfl ?_
  intro p e s m args below meth c s₁ B hml hv
  obtain ⟨rfl, hsz, hP, hK, hD0, hNW⟩ := hv
  have hx := B.exec
  have hb := B.bytes
  have hr := B.returns
  have hts := atoms_spec (ws := wq_X4_init_X7) B.pre
  have hown : s.vm.findClass RX4 = some m.cls := findClass_of_methodNamed B.named
  have hlocks := B.notSynchronized
  have hin : meth.name = "<init>" := (name_of_methodNamed B.named B.method).1
  have hiX7 : ∀ w ∈ wsX70, w ∈ wq_X4_init_X7 := by decide +kernel
  subst hsz
  have hD := hD0.self (sz := s.heap.size)
  generalize hAe : va_A [(h0, .inr (6, [.null, .null, .null, .int 0, .int 0, .int 0, .int 0, .int 0, .null, .null, .null, .null, .int 0]))] s.heap.size = A at hD ⊢
  have hA : ∀ q : Nat, s.heap.size ≤ q → A q := fun q h => by rw [← hAe]; exact Or.inr h
  have hS : va_S A s.heap s.heap [] := va_S.rf
  have hl := lv_entry ([.ref h0]) (n := 1) (Nat.le_of_ble_eq_true rfl)
  rw [lg_entry_eq]
  generalize (lg_sl ([.ref h0]) ++ List.replicate (1 - (lg_sl ([.ref h0])).length) Slot.unset).toArray = ls at hl ⊢
  have hl : lv_has ls 1 [(0, .ref h0)] := hl
  refine lv_aload_n hx hb dX4_init_0 rfl (lv_at hl 0 rfl) ?_
  refine W.objInit hx hb hown (hts (.methodLink RX4 3 objectInit) (by decide +kernel)) (hts (.instanceMethod objectInit) (by decide +kernel)) (hts (.code objectInit ⟨#[0xb1]⟩ 1 none) (by decide +kernel)) rfl (by rw [hml]; exact hl.1) rfl dX4_init_1 (Nat.le_of_ble_eq_true rfl) (Nat.le_of_ble_eq_true rfl) ?_
  refine W.eq (g2 := F0 m 4 ls []) rfl ?_
  refine lv_aload_n hx hb dX4_init_4 rfl (lv_at hl 0 rfl) ?_
  refine lv_bipush (v := 64) hx hb dX4_init_5 (by decide) ?_
  refine pz_newa hx hb (hts (.arrayClass .int) (by decide +kernel)) hK hP hD hS hA 64 (by decide) (by decide) (by decide) (by decide) (by decide) dX4_init_7 (fun q_1 H hP hD hS => ?_)
  have hP : va_P (dC, dI) vwCl [(h0, .inr (6, [.null, .null, .null, .int 0, .int 0, .int 0, .int 0, .int 0, .null, .null, .null, .null, .int 0])), (q_1, .inl (cyI, 64, .inl (fun _ => 0)))] H := hP
  have hD : va_D A [(h0, .inr (6, [.null, .null, .null, .int 0, .int 0, .int 0, .int 0, .int 0, .null, .null, .null, .null, .int 0])), (q_1, .inl (cyI, 64, .inl (fun _ => 0)))] := hD
  refine W.widen (k := 1) (n := 64) (by omega) (by omega) ?_
  refine va_putF (D := (dC, dI)) (ci := 6) (v := .ref q_1) (ty := .array .int) (C := RX7) (T := TX7) (N := 13) hx hb hts hiX7 tyX7 tyX7_ok nmX7 hown hK hP hD hS 0 rfl rfl 0 (by decide) (hts (.fieldLink RX4 9 "RegisterMill$Machine" "memory" "[I") (by decide +kernel)) (fun _ h9 => h9) rfl hin rfl (by decide +kernel) rfl rfl (Nat.le_of_ble_eq_true rfl) dX4_init_9 (fun H locs hP hD hS => ?_)
  have hP : va_P (dC, dI) vwCl [(h0, .inr (6, [.ref q_1, .null, .null, .int 0, .int 0, .int 0, .int 0, .int 0, .null, .null, .null, .null, .int 0])), (q_1, .inl (cyI, 64, .inl (fun _ => 0)))] H := hP
  have hD : va_D A [(h0, .inr (6, [.ref q_1, .null, .null, .int 0, .int 0, .int 0, .int 0, .int 0, .null, .null, .null, .null, .int 0])), (q_1, .inl (cyI, 64, .inl (fun _ => 0)))] := hD
  refine lv_aload_n hx hb dX4_init_12 rfl (lv_at hl 0 rfl) ?_
  refine lv_bipush (v := 30) hx hb dX4_init_13 (by decide) ?_
  refine pz_newd hx hb (hts (.arrayClass .int) (by decide +kernel)) hK hP hD hS hA 30 (by decide) (by decide) (by decide) (by decide) (by decide) dX4_init_15 (fun q_2 H hP hS => ?_)
  refine W.widen (k := 2) (n := 94) (by omega) (by omega) ?_
  refine va_putF (D := (dC, dI)) (ci := 6) (v := .ref q_2) (ty := .array .int) (C := RX7) (T := TX7) (N := 13) hx hb hts hiX7 tyX7 tyX7_ok nmX7 hown hK hP hD hS 0 rfl rfl 1 (by decide) (hts (.fieldLink RX4 15 "RegisterMill$Machine" "funcs" "[I") (by decide +kernel)) (fun _ h9 => h9) rfl hin rfl (by decide +kernel) rfl rfl (Nat.le_of_ble_eq_true rfl) dX4_init_17 (fun H locs hP hD hS => ?_)
  have hP : va_P (dC, dI) vwCl [(h0, .inr (6, [.ref q_1, .ref q_2, .null, .int 0, .int 0, .int 0, .int 0, .int 0, .null, .null, .null, .null, .int 0])), (q_1, .inl (cyI, 64, .inl (fun _ => 0)))] H := hP
  have hD : va_D A [(h0, .inr (6, [.ref q_1, .ref q_2, .null, .int 0, .int 0, .int 0, .int 0, .int 0, .null, .null, .null, .null, .int 0])), (q_1, .inl (cyI, 64, .inl (fun _ => 0)))] := hD
  refine lv_aload_n hx hb dX4_init_20 rfl (lv_at hl 0 rfl) ?_
  refine lv_bipush (v := 30) hx hb dX4_init_21 (by decide) ?_
  refine pz_newd hx hb (hts (.arrayClass .int) (by decide +kernel)) hK hP hD hS hA 30 (by decide) (by decide) (by decide) (by decide) (by decide) dX4_init_23 (fun q_3 H hP hS => ?_)
  refine W.widen (k := 3) (n := 124) (by omega) (by omega) ?_
  refine va_putF (D := (dC, dI)) (ci := 6) (v := .ref q_3) (ty := .array .int) (C := RX7) (T := TX7) (N := 13) hx hb hts hiX7 tyX7 tyX7_ok nmX7 hown hK hP hD hS 0 rfl rfl 2 (by decide) (hts (.fieldLink RX4 18 "RegisterMill$Machine" "nexts" "[I") (by decide +kernel)) (fun _ h9 => h9) rfl hin rfl (by decide +kernel) rfl rfl (Nat.le_of_ble_eq_true rfl) dX4_init_25 (fun H locs hP hD hS => ?_)
  have hP : va_P (dC, dI) vwCl [(h0, .inr (6, [.ref q_1, .ref q_2, .ref q_3, .int 0, .int 0, .int 0, .int 0, .int 0, .null, .null, .null, .null, .int 0])), (q_1, .inl (cyI, 64, .inl (fun _ => 0)))] H := hP
  have hD : va_D A [(h0, .inr (6, [.ref q_1, .ref q_2, .ref q_3, .int 0, .int 0, .int 0, .int 0, .int 0, .null, .null, .null, .null, .int 0])), (q_1, .inl (cyI, 64, .inl (fun _ => 0)))] := hD
  refine W.widen (k := 3) (n := 124) (by decide) (by decide) ?_
  have hP9 := hP.sub (ws' := [(h0, .inr (6, [.ref q_1, .ref q_2, .ref q_3, .int 0, .int 0, .int 0, .int 0, .int 0, .null, .null, .null, .null, .int 0])), (q_1, .inl (cyI, 64, .inl (fun _ => 0)))]) [0, 1] rfl
  have hD9 := hD.sub (ws' := [(h0, .inr (6, [.ref q_1, .ref q_2, .ref q_3, .int 0, .int 0, .int 0, .int 0, .int 0, .null, .null, .null, .null, .int 0])), (q_1, .inl (cyI, 64, .inl (fun _ => 0)))]) [0, 1] (by decide) rfl
  exact W.vret hx hb hr (fun t ht hW => ⟨⟨(), rfl, trivial, ⟨q_1, q_2, q_3, pz_Bof hP9 hK hD9 ht hW⟩⟩, hS.F ht⟩) hS.2.2 dX4_init_28

def wq_X8_init : List Cond := .code yX8_init cX8_init 2 none :: ([.code yX4_init cX4_init 1 none, .methodLink RX4 3 objectInit, .instanceMethod objectInit, .code objectInit ⟨#[0xb1]⟩ 1 none, .arrayClass .int, .fieldLink RX4 9 "RegisterMill$Machine" "memory" "[I", .fieldLink RX4 15 "RegisterMill$Machine" "funcs" "[I", .fieldLink RX4 18 "RegisterMill$Machine" "nexts" "[I", .initialized RX4, .instanceMethod yX4_init, .fieldLink RX8 9 "RegisterMill$StackMachine" "locals" "[I", .fieldLink RX8 15 "RegisterMill$StackMachine" "stack" "[I", .fieldLink RX8 18 "RegisterMill$StackMachine" "bottoms" "[I", .fieldLink RX8 21 "RegisterMill$StackMachine" "program" "LRegisterMill$Program;"] ++ wsX80)
set_option maxRecDepth 20000 in
theorem gq_X8_init_X4_init_3 : GoodIn wq_X8_init (wq_X4_init_X8) := goodIn_r _ [1, 2, 3, 4, 5, 6, 7, 8, 15, 16, 17, 18, 19, 20, 21, 22, 23, 24, 25, 26, 27] (by decide +kernel) (by decide +kernel)
set_option maxHeartbeats 4000000 in
set_option maxRecDepth 100000 in
/-- StackMachine(program) -/
theorem c_X8_init (l : Launch) (dC : Nat → ClassId) (dI : Nat → Nat → Nat) (cyI : ClassId) (sz : Nat) (h0 : Nat) (pr : Nat) : Met l yX8_init wq_X8_init ({ frames := 2, cells := 6, slots := 814, locals := 32 }) (va_Pc [.ref h0, .ref pr] (pz_pre dC dI [(cyI, .int)] [(h0, .inr (7, [.null, .null, .null, .int 0, .int 0, .int 0, .int 0, .int 0, .null, .null, .null, .null, .int 0]))] sz)) (va_Qv (S := Unit) (fun _ => True) (fun _ t => ∃ a_memory a_funcs a_nexts a_locals a_stack a_bottoms : Nat, pz_B dC dI [(cyI, .int)] (va_A [(h0, .inr (7, [.null, .null, .null, .int 0, .int 0, .int 0, .int 0, .int 0, .null, .null, .null, .null, .int 0]))] sz) [(h0, .inr (7, [.ref a_memory, .ref a_funcs, .ref a_nexts, .int 0, .int 0, .int 0, .int 0, .int 0, .ref pr, .ref a_locals, .ref a_stack, .ref a_bottoms, .int 0])), (a_memory, .inl (cyI, 64, .inl (fun _ => 0)))] t) (va_A [(h0, .inr (7, [.null, .null, .null, .int 0, .int 0, .int 0, .int 0, .int 0, .null, .null, .null, .null, .int 0]))] sz)) 6 814 (va_A [(h0, .inr (7, [.null, .null, .null, .int 0, .int 0, .int 0, .int 0, .int 0, .null, .null, .null, .null, .int 0]))] sz) := by
  refine Met.ofW (cc := cX8_init) (maxL := 2) (ret := none) (by decide) rfl ?_
  intro p e s m args below meth c s₁ B hml hv
  obtain ⟨rfl, hsz, hP, hK, hD0, hNW⟩ := hv
  have hx := B.exec
  have hb := B.bytes
  have hr := B.returns
  have hts := atoms_spec (ws := wq_X8_init) B.pre
  have hown : s.vm.findClass RX8 = some m.cls := findClass_of_methodNamed B.named
  have hlocks := B.notSynchronized
  have hin : meth.name = "<init>" := (name_of_methodNamed B.named B.method).1
  have hiX8 : ∀ w ∈ wsX80, w ∈ wq_X8_init := by decide +kernel
  subst hsz
  have hD := hD0.self (sz := s.heap.size)
  generalize hAe : va_A [(h0, .inr (7, [.null, .null, .null, .int 0, .int 0, .int 0, .int 0, .int 0, .null, .null, .null, .null, .int 0]))] s.heap.size = A at hD ⊢
  have hA : ∀ q : Nat, s.heap.size ≤ q → A q := fun q h => by rw [← hAe]; exact Or.inr h
  have hS : va_S A s.heap s.heap [] := va_S.rf
  have hl := lv_entry ([.ref h0, .ref pr]) (n := 2) (Nat.le_of_ble_eq_true rfl)
  rw [lg_entry_eq]
  generalize (lg_sl ([.ref h0, .ref pr]) ++ List.replicate (2 - (lg_sl ([.ref h0, .ref pr])).length) Slot.unset).toArray = ls at hl ⊢
  have hl : lv_has ls 2 [(0, .ref h0), (1, .ref pr)] := hl
  refine lv_aload_n hx hb dX8_init_0 rfl (lv_at hl 0 rfl) ?_
  have hPc := hP.sub (ws' := [(h0, .inr (7, [.null, .null, .null, .int 0, .int 0, .int 0, .int 0, .int 0, .null, .null, .null, .null, .int 0]))]) [0] rfl
  have hDc := hD.sub (ws' := [(h0, .inr (7, [.null, .null, .null, .int 0, .int 0, .int 0, .int 0, .int 0, .null, .null, .null, .null, .int 0]))]) [0] (by decide) rfl
  have hKc := hK.sub (tys' := [(cyI, .int)]) [0] rfl
  have hFc := va_free (wc := [(h0, .inr (7, [.null, .null, .null, .int 0, .int 0, .int 0, .int 0, .int 0, .null, .null, .null, .null, .int 0]))]) hD hS hA [0] rfl
  refine va_callv (va_runIN (As := []) (rest := []) ⟨hx, hb, hml, hown, hts⟩ (c_X4_init_X8 l dC dI cyI s.heap.size h0) ⟨va_cnB 0 hts gq_X8_init_X4_init_3 rfl rfl rfl hNW.2.2.2.2.2.2.2 (hts (.initialized RX4) (by decide +kernel)) (by decide +kernel) ⟨Nat.le_of_ble_eq_true rfl, Nat.le_of_ble_eq_true rfl⟩, rfl, (hts (.instanceMethod yX4_init) (by decide +kernel))⟩ ⟨pz_blind, pz_to hPc hKc hDc hNW⟩ rfl rfl hl.1 rfl (lv_room (Nat.le_of_ble_eq_true rfl)) dX8_init_1 (by decide)) hS (fun q _ h => hFc q h) hFc (fun u t H1 locs ht hvm hw hB hz1 hk1 hS => ?_)
  obtain ⟨q_2, q_3, q_4, hP1, hK1, hD1⟩ := hB
  rw [ht] at hP1
  obtain ⟨hP, hD⟩ := va_join (wr := []) (w1 := [(h0, .inr (7, [.ref q_2, .ref q_3, .ref q_4, .int 0, .int 0, .int 0, .int 0, .int 0, .null, .null, .null, .null, .int 0])), (q_2, .inl (cyI, 64, .inl (fun _ => 0)))]) hP hD [0] [] rfl rfl (by decide) (by decide) hk1 hFc hP1 hD1
  generalize H1 = H at hP hS ⊢
  have hP : va_P (dC, dI) vwCl [(h0, .inr (7, [.ref q_2, .ref q_3, .ref q_4, .int 0, .int 0, .int 0, .int 0, .int 0, .null, .null, .null, .null, .int 0])), (q_2, .inl (cyI, 64, .inl (fun _ => 0)))] H := hP
  have hD : va_D A [(h0, .inr (7, [.ref q_2, .ref q_3, .ref q_4, .int 0, .int 0, .int 0, .int 0, .int 0, .null, .null, .null, .null, .int 0])), (q_2, .inl (cyI, 64, .inl (fun _ => 0)))] := hD
  refine W.widen (k := 3) (n := 124) (by omega) (by omega) ?_
  refine lv_aload_n hx hb dX8_init_4 rfl (lv_at hl 0 rfl) ?_
  refine lv_sipush (v := 300) hx hb dX8_init_5 (by decide) ?_
  refine pz_newd hx hb (hts (.arrayClass .int) (by decide +kernel)) hK hP hD hS hA 300 (by decide) (by decide) (by decide) (by decide) (by decide) dX8_init_8 (fun q_5 H hP hS => ?_)
  refine W.widen (k := 4) (n := 424) (by omega) (by omega) ?_
  refine va_putF (D := (dC, dI)) (ci := 7) (v := .ref q_5) (ty := .array .int) (C := RX8) (T := TX8) (N := 13) hx hb hts hiX8 tyX8 tyX8_ok nmX8 hown hK hP hD hS 0 rfl rfl 9 (by decide) (hts (.fieldLink RX8 9 "RegisterMill$StackMachine" "locals" "[I") (by decide +kernel)) (fun _ h9 => h9) rfl hin rfl (by decide +kernel) rfl rfl (Nat.le_of_ble_eq_true rfl) dX8_init_10 (fun H locs hP hD hS => ?_)
  have hP : va_P (dC, dI) vwCl [(h0, .inr (7, [.ref q_2, .ref q_3, .ref q_4, .int 0, .int 0, .int 0, .int 0, .int 0, .null, .ref q_5, .null, .null, .int 0])), (q_2, .inl (cyI, 64, .inl (fun _ => 0)))] H := hP
  have hD : va_D A [(h0, .inr (7, [.ref q_2, .ref q_3, .ref q_4, .int 0, .int 0, .int 0, .int 0, .int 0, .null, .ref q_5, .null, .null, .int 0])), (q_2, .inl (cyI, 64, .inl (fun _ => 0)))] := hD
  refine lv_aload_n hx hb dX8_init_13 rfl (lv_at hl 0 rfl) ?_
  refine lv_sipush (v := 360) hx hb dX8_init_14 (by decide) ?_
  refine pz_newd hx hb (hts (.arrayClass .int) (by decide +kernel)) hK hP hD hS hA 360 (by decide) (by decide) (by decide) (by decide) (by decide) dX8_init_17 (fun q_6 H hP hS => ?_)
  refine W.widen (k := 5) (n := 784) (by omega) (by omega) ?_
  refine va_putF (D := (dC, dI)) (ci := 7) (v := .ref q_6) (ty := .array .int) (C := RX8) (T := TX8) (N := 13) hx hb hts hiX8 tyX8 tyX8_ok nmX8 hown hK hP hD hS 0 rfl rfl 10 (by decide) (hts (.fieldLink RX8 15 "RegisterMill$StackMachine" "stack" "[I") (by decide +kernel)) (fun _ h9 => h9) rfl hin rfl (by decide +kernel) rfl rfl (Nat.le_of_ble_eq_true rfl) dX8_init_19 (fun H locs hP hD hS => ?_)
  have hP : va_P (dC, dI) vwCl [(h0, .inr (7, [.ref q_2, .ref q_3, .ref q_4, .int 0, .int 0, .int 0, .int 0, .int 0, .null, .ref q_5, .ref q_6, .null, .int 0])), (q_2, .inl (cyI, 64, .inl (fun _ => 0)))] H := hP
  have hD : va_D A [(h0, .inr (7, [.ref q_2, .ref q_3, .ref q_4, .int 0, .int 0, .int 0, .int 0, .int 0, .null, .ref q_5, .ref q_6, .null, .int 0])), (q_2, .inl (cyI, 64, .inl (fun _ => 0)))] := hD
  refine lv_aload_n hx hb dX8_init_22 rfl (lv_at hl 0 rfl) ?_
  refine lv_bipush (v := 30) hx hb dX8_init_23 (by decide) ?_
  refine pz_newd hx hb (hts (.arrayClass .int) (by decide +kernel)) hK hP hD hS hA 30 (by decide) (by decide) (by decide) (by decide) (by decide) dX8_init_25 (fun q_7 H hP hS => ?_)
  refine W.widen (k := 6) (n := 814) (by omega) (by omega) ?_
  refine va_putF (D := (dC, dI)) (ci := 7) (v := .ref q_7) (ty := .array .int) (C := RX8) (T := TX8) (N := 13) hx hb hts hiX8 tyX8 tyX8_ok nmX8 hown hK hP hD hS 0 rfl rfl 11 (by decide) (hts (.fieldLink RX8 18 "RegisterMill$StackMachine" "bottoms" "[I") (by decide +kernel)) (fun _ h9 => h9) rfl hin rfl (by decide +kernel) rfl rfl (Nat.le_of_ble_eq_true rfl) dX8_init_27 (fun H locs hP hD hS => ?_)
  have hP : va_P (dC, dI) vwCl [(h0, .inr (7, [.ref q_2, .ref q_3, .ref q_4, .int 0, .int 0, .int 0, .int 0, .int 0, .null, .ref q_5, .ref q_6, .ref q_7, .int 0])), (q_2, .inl (cyI, 64, .inl (fun _ => 0)))] H := hP
  have hD : va_D A [(h0, .inr (7, [.ref q_2, .ref q_3, .ref q_4, .int 0, .int 0, .int 0, .int 0, .int 0, .null, .ref q_5, .ref q_6, .ref q_7, .int 0])), (q_2, .inl (cyI, 64, .inl (fun _ => 0)))] := hD
  refine lv_aload_n hx hb dX8_init_30 rfl (lv_at hl 0 rfl) ?_
  refine lv_aload_n hx hb dX8_init_31 rfl (lv_at hl 1 rfl) ?_
  refine va_putF (D := (dC, dI)) (ci := 7) (v := .ref pr) (ty := .object "RegisterMill$Program") (C := RX8) (T := TX8) (N := 13) hx hb hts hiX8 tyX8 tyX8_ok nmX8 hown hK hP hD hS 0 rfl rfl 8 (by decide) (hts (.fieldLink RX8 21 "RegisterMill$StackMachine" "program" "LRegisterMill$Program;") (by decide +kernel)) (fun _ h9 => h9) rfl hin rfl (by decide +kernel) rfl rfl (Nat.le_of_ble_eq_true rfl) dX8_init_32 (fun H locs hP hD hS => ?_)
  have hP : va_P (dC, dI) vwCl [(h0, .inr (7, [.ref q_2, .ref q_3, .ref q_4, .int 0, .int 0, .int 0, .int 0, .int 0, .ref pr, .ref q_5, .ref q_6, .ref q_7, .int 0])), (q_2, .inl (cyI, 64, .inl (fun _ => 0)))] H := hP
  have hD : va_D A [(h0, .inr (7, [.ref q_2, .ref q_3, .ref q_4, .int 0, .int 0, .int 0, .int 0, .int 0, .ref pr, .ref q_5, .ref q_6, .ref q_7, .int 0])), (q_2, .inl (cyI, 64, .inl (fun _ => 0)))] := hD
  refine W.widen (k := 6) (n := 814) (by decide) (by decide) ?_
  have hP9 := hP.sub (ws' := [(h0, .inr (7, [.ref q_2, .ref q_3, .ref q_4, .int 0, .int 0, .int 0, .int 0, .int 0, .ref pr, .ref q_5, .ref q_6, .ref q_7, .int 0])), (q_2, .inl (cyI, 64, .inl (fun _ => 0)))]) [0, 1] rfl
  have hD9 := hD.sub (ws' := [(h0, .inr (7, [.ref q_2, .ref q_3, .ref q_4, .int 0, .int 0, .int 0, .int 0, .int 0, .ref pr, .ref q_5, .ref q_6, .ref q_7, .int 0])), (q_2, .inl (cyI, 64, .inl (fun _ => 0)))]) [0, 1] (by decide) rfl
  exact W.vret hx hb hr (fun t ht hW => ⟨⟨(), rfl, trivial, ⟨q_2, q_3, q_4, q_5, q_6, q_7, pz_Bof hP9 hK hD9 ht hW⟩⟩, hS.F ht⟩) hS.2.2 dX8_init_35

def wq_X7_init : List Cond := .code yX7_init cX7_init 2 none :: ([.code yX4_init cX4_init 1 none, .methodLink RX4 3 objectInit, .instanceMethod objectInit, .code objectInit ⟨#[0xb1]⟩ 1 none, .arrayClass .int, .fieldLink RX4 9 "RegisterMill$Machine" "memory" "[I", .fieldLink RX4 15 "RegisterMill$Machine" "funcs" "[I", .fieldLink RX4 18 "RegisterMill$Machine" "nexts" "[I", .initialized RX4, .instanceMethod yX4_init, .fieldLink RX7 9 "RegisterMill$RegisterMachine" "registers" "[I", .fieldLink RX7 15 "RegisterMill$RegisterMachine" "slotCells" "[I", .fieldLink RX7 18 "RegisterMill$RegisterMachine" "passed" "[I", .fieldLink RX7 21 "RegisterMill$RegisterMachine" "code" "LRegisterMill$Code;"] ++ wsX70)
set_option maxRecDepth 20000 in
theorem gq_X7_init_X4_init_3 : GoodIn wq_X7_init (wq_X4_init_X7) := goodIn_r _ [1, 2, 3, 4, 5, 6, 7, 8, 15, 16, 17, 18, 19, 20, 21, 22, 23, 24, 25, 26, 27] (by decide +kernel) (by decide +kernel)
set_option maxHeartbeats 4000000 in
set_option maxRecDepth 100000 in
/-- RegisterMachine(code) -/
theorem c_X7_init (l : Launch) (dC : Nat → ClassId) (dI : Nat → Nat → Nat) (cyI : ClassId) (sz : Nat) (h0 : Nat) (co : Nat) : Met l yX7_init wq_X7_init ({ frames := 2, cells := 6, slots := 1270, locals := 32 }) (va_Pc [.ref h0, .ref co] (pz_pre dC dI [(cyI, .int)] [(h0, .inr (6, [.null, .null, .null, .int 0, .int 0, .int 0, .int 0, .int 0, .null, .null, .null, .null, .int 0]))] sz)) (va_Qv (S := Unit) (fun _ => True) (fun _ t => ∃ a_memory a_funcs a_nexts a_registers a_slotCells a_passed : Nat, pz_B dC dI [(cyI, .int)] (va_A [(h0, .inr (6, [.null, .null, .null, .int 0, .int 0, .int 0, .int 0, .int 0, .null, .null, .null, .null, .int 0]))] sz) [(h0, .inr (6, [.ref a_memory, .ref a_funcs, .ref a_nexts, .int 0, .int 0, .int 0, .int 0, .int 0, .ref co, .ref a_registers, .ref a_slotCells, .ref a_passed, .int 0])), (a_memory, .inl (cyI, 64, .inl (fun _ => 0))), (a_passed, .inl (cyI, 6, .inl (fun _ => 0)))] t) (va_A [(h0, .inr (6, [.null, .null, .null, .int 0, .int 0, .int 0, .int 0, .int 0, .null, .null, .null, .null, .int 0]))] sz)) 6 1270 (va_A [(h0, .inr (6, [.null, .null, .null, .int 0, .int 0, .int 0, .int 0, .int 0, .null, .null, .null, .null, .int 0]))] sz) := by
  refine Met.ofW (cc := cX7_init) (maxL := 2) (ret := none) (by decide) rfl ?_
  intro p e s m args below meth c s₁ B hml hv
  obtain ⟨rfl, hsz, hP, hK, hD0, hNW⟩ := hv
  have hx := B.exec
  have hb := B.bytes
  have hr := B.returns
  have hts := atoms_spec (ws := wq_X7_init) B.pre
  have hown : s.vm.findClass RX7 = some m.cls := findClass_of_methodNamed B.named
  have hlocks := B.notSynchronized
  have hin : meth.name = "<init>" := (name_of_methodNamed B.named B.method).1
  have hiX7 : ∀ w ∈ wsX70, w ∈ wq_X7_init := by decide +kernel
  subst hsz
  have hD := hD0.self (sz := s.heap.size)
  generalize hAe : va_A [(h0, .inr (6, [.null, .null, .null, .int 0, .int 0, .int 0, .int 0, .int 0, .null, .null, .null, .null, .int 0]))] s.heap.size = A at hD ⊢
  have hA : ∀ q : Nat, s.heap.size ≤ q → A q := fun q h => by rw [← hAe]; exact Or.inr h
  have hS : va_S A s.heap s.heap [] := va_S.rf
  have hl := lv_entry ([.ref h0, .ref co]) (n := 2) (Nat.le_of_ble_eq_true rfl)
  rw [lg_entry_eq]
  generalize (lg_sl ([.ref h0, .ref co]) ++ List.replicate (2 - (lg_sl ([.ref h0, .ref co])).length) Slot.unset).toArray = ls at hl ⊢
  have hl : lv_has ls 2 [(0, .ref h0), (1, .ref co)] := hl
  refine lv_aload_n hx hb dX7_init_0 rfl (lv_at hl 0 rfl) ?_
  have hPc := hP.sub (ws' := [(h0, .inr (6, [.null, .null, .null, .int 0, .int 0, .int 0, .int 0, .int 0, .null, .null, .null, .null, .int 0]))]) [0] rfl
  have hDc := hD.sub (ws' := [(h0, .inr (6, [.null, .null, .null, .int 0, .int 0, .int 0, .int 0, .int 0, .null, .null, .null, .null, .int 0]))]) [0] (by decide) rfl
  have hKc := hK.sub (tys' := [(cyI, .int)]) [0] rfl
  have hFc := va_free (wc := [(h0, .inr (6, [.null, .null, .null, .int 0, .int 0, .int 0, .int 0, .int 0, .null, .null, .null, .null, .int 0]))]) hD hS hA [0] rfl
  refine va_callv (va_runIN (As := []) (rest := []) ⟨hx, hb, hml, hown, hts⟩ (c_X4_init_X7 l dC dI cyI s.heap.size h0) ⟨va_cnB 0 hts gq_X7_init_X4_init_3 rfl rfl rfl hNW.2.2.2.2.2.2.1 (hts (.initialized RX4) (by decide +kernel)) (by decide +kernel) ⟨Nat.le_of_ble_eq_true rfl, Nat.le_of_ble_eq_true rfl⟩, rfl, (hts (.instanceMethod yX4_init) (by decide +kernel))⟩ ⟨pz_blind, pz_to hPc hKc hDc hNW⟩ rfl rfl hl.1 rfl (lv_room (Nat.le_of_ble_eq_true rfl)) dX7_init_1 (by decide)) hS (fun q _ h => hFc q h) hFc (fun u t H1 locs ht hvm hw hB hz1 hk1 hS => ?_)
  obtain ⟨q_2, q_3, q_4, hP1, hK1, hD1⟩ := hB
  rw [ht] at hP1
  obtain ⟨hP, hD⟩ := va_join (wr := []) (w1 := [(h0, .inr (6, [.ref q_2, .ref q_3, .ref q_4, .int 0, .int 0, .int 0, .int 0, .int 0, .null, .null, .null, .null, .int 0])), (q_2, .inl (cyI, 64, .inl (fun _ => 0)))]) hP hD [0] [] rfl rfl (by decide) (by decide) hk1 hFc hP1 hD1
  generalize H1 = H at hP hS ⊢
  have hP : va_P (dC, dI) vwCl [(h0, .inr (6, [.ref q_2, .ref q_3, .ref q_4, .int 0, .int 0, .int 0, .int 0, .int 0, .null, .null, .null, .null, .int 0])), (q_2, .inl (cyI, 64, .inl (fun _ => 0)))] H := hP
  have hD : va_D A [(h0, .inr (6, [.ref q_2, .ref q_3, .ref q_4, .int 0, .int 0, .int 0, .int 0, .int 0, .null, .null, .null, .null, .int 0])), (q_2, .inl (cyI, 64, .inl (fun _ => 0)))] := hD
  refine W.widen (k := 3) (n := 124) (by omega) (by omega) ?_
  refine lv_aload_n hx hb dX7_init_4 rfl (lv_at hl 0 rfl) ?_
  refine lv_sipush (v := 480) hx hb dX7_init_5 (by decide) ?_
  refine pz_newd hx hb (hts (.arrayClass .int) (by decide +kernel)) hK hP hD hS hA 480 (by decide) (by decide) (by decide) (by decide) (by decide) dX7_init_8 (fun q_5 H hP hS => ?_)
  refine W.widen (k := 4) (n := 604) (by omega) (by omega) ?_
  refine va_putF (D := (dC, dI)) (ci := 6) (v := .ref q_5) (ty := .array .int) (C := RX7) (T := TX7) (N := 13) hx hb hts hiX7 tyX7 tyX7_ok nmX7 hown hK hP hD hS 0 rfl rfl 9 (by decide) (hts (.fieldLink RX7 9 "RegisterMill$RegisterMachine" "registers" "[I") (by decide +kernel)) (fun _ h9 => h9) rfl hin rfl (by decide +kernel) rfl rfl (Nat.le_of_ble_eq_true rfl) dX7_init_10 (fun H locs hP hD hS => ?_)
  have hP : va_P (dC, dI) vwCl [(h0, .inr (6, [.ref q_2, .ref q_3, .ref q_4, .int 0, .int 0, .int 0, .int 0, .int 0, .null, .ref q_5, .null, .null, .int 0])), (q_2, .inl (cyI, 64, .inl (fun _ => 0)))] H := hP
  have hD : va_D A [(h0, .inr (6, [.ref q_2, .ref q_3, .ref q_4, .int 0, .int 0, .int 0, .int 0, .int 0, .null, .ref q_5, .null, .null, .int 0])), (q_2, .inl (cyI, 64, .inl (fun _ => 0)))] := hD
  refine lv_aload_n hx hb dX7_init_13 rfl (lv_at hl 0 rfl) ?_
  refine lv_sipush (v := 660) hx hb dX7_init_14 (by decide) ?_
  refine pz_newd hx hb (hts (.arrayClass .int) (by decide +kernel)) hK hP hD hS hA 660 (by decide) (by decide) (by decide) (by decide) (by decide) dX7_init_17 (fun q_6 H hP hS => ?_)
  refine W.widen (k := 5) (n := 1264) (by omega) (by omega) ?_
  refine va_putF (D := (dC, dI)) (ci := 6) (v := .ref q_6) (ty := .array .int) (C := RX7) (T := TX7) (N := 13) hx hb hts hiX7 tyX7 tyX7_ok nmX7 hown hK hP hD hS 0 rfl rfl 10 (by decide) (hts (.fieldLink RX7 15 "RegisterMill$RegisterMachine" "slotCells" "[I") (by decide +kernel)) (fun _ h9 => h9) rfl hin rfl (by decide +kernel) rfl rfl (Nat.le_of_ble_eq_true rfl) dX7_init_19 (fun H locs hP hD hS => ?_)
  have hP : va_P (dC, dI) vwCl [(h0, .inr (6, [.ref q_2, .ref q_3, .ref q_4, .int 0, .int 0, .int 0, .int 0, .int 0, .null, .ref q_5, .ref q_6, .null, .int 0])), (q_2, .inl (cyI, 64, .inl (fun _ => 0)))] H := hP
  have hD : va_D A [(h0, .inr (6, [.ref q_2, .ref q_3, .ref q_4, .int 0, .int 0, .int 0, .int 0, .int 0, .null, .ref q_5, .ref q_6, .null, .int 0])), (q_2, .inl (cyI, 64, .inl (fun _ => 0)))] := hD
  refine lv_aload_n hx hb dX7_init_22 rfl (lv_at hl 0 rfl) ?_
  refine lv_bipush (v := 6) hx hb dX7_init_23 (by decide) ?_
  refine pz_newa hx hb (hts (.arrayClass .int) (by decide +kernel)) hK hP hD hS hA 6 (by decide) (by decide) (by decide) (by decide) (by decide) dX7_init_25 (fun q_7 H hP hD hS => ?_)
  have hP : va_P (dC, dI) vwCl [(h0, .inr (6, [.ref q_2, .ref q_3, .ref q_4, .int 0, .int 0, .int 0, .int 0, .int 0, .null, .ref q_5, .ref q_6, .null, .int 0])), (q_2, .inl (cyI, 64, .inl (fun _ => 0))), (q_7, .inl (cyI, 6, .inl (fun _ => 0)))] H := hP
  have hD : va_D A [(h0, .inr (6, [.ref q_2, .ref q_3, .ref q_4, .int 0, .int 0, .int 0, .int 0, .int 0, .null, .ref q_5, .ref q_6, .null, .int 0])), (q_2, .inl (cyI, 64, .inl (fun _ => 0))), (q_7, .inl (cyI, 6, .inl (fun _ => 0)))] := hD
  refine W.widen (k := 6) (n := 1270) (by omega) (by omega) ?_
  refine va_putF (D := (dC, dI)) (ci := 6) (v := .ref q_7) (ty := .array .int) (C := RX7) (T := TX7) (N := 13) hx hb hts hiX7 tyX7 tyX7_ok nmX7 hown hK hP hD hS 0 rfl rfl 11 (by decide) (hts (.fieldLink RX7 18 "RegisterMill$RegisterMachine" "passed" "[I") (by decide +kernel)) (fun _ h9 => h9) rfl hin rfl (by decide +kernel) rfl rfl (Nat.le_of_ble_eq_true rfl) dX7_init_27 (fun H locs hP hD hS => ?_)
  have hP : va_P (dC, dI) vwCl [(h0, .inr (6, [.ref q_2, .ref q_3, .ref q_4, .int 0, .int 0, .int 0, .int 0, .int 0, .null, .ref q_5, .ref q_6, .ref q_7, .int 0])), (q_2, .inl (cyI, 64, .inl (fun _ => 0))), (q_7, .inl (cyI, 6, .inl (fun _ => 0)))] H := hP
  have hD : va_D A [(h0, .inr (6, [.ref q_2, .ref q_3, .ref q_4, .int 0, .int 0, .int 0, .int 0, .int 0, .null, .ref q_5, .ref q_6, .ref q_7, .int 0])), (q_2, .inl (cyI, 64, .inl (fun _ => 0))), (q_7, .inl (cyI, 6, .inl (fun _ => 0)))] := hD
  refine lv_aload_n hx hb dX7_init_30 rfl (lv_at hl 0 rfl) ?_
  refine lv_aload_n hx hb dX7_init_31 rfl (lv_at hl 1 rfl) ?_
  refine va_putF (D := (dC, dI)) (ci := 6) (v := .ref co) (ty := .object "RegisterMill$Code") (C := RX7) (T := TX7) (N := 13) hx hb hts hiX7 tyX7 tyX7_ok nmX7 hown hK hP hD hS 0 rfl rfl 8 (by decide) (hts (.fieldLink RX7 21 "RegisterMill$RegisterMachine" "code" "LRegisterMill$Code;") (by decide +kernel)) (fun _ h9 => h9) rfl hin rfl (by decide +kernel) rfl rfl (Nat.le_of_ble_eq_true rfl) dX7_init_32 (fun H locs hP hD hS => ?_)
  have hP : va_P (dC, dI) vwCl [(h0, .inr (6, [.ref q_2, .ref q_3, .ref q_4, .int 0, .int 0, .int 0, .int 0, .int 0, .ref co, .ref q_5, .ref q_6, .ref q_7, .int 0])), (q_2, .inl (cyI, 64, .inl (fun _ => 0))), (q_7, .inl (cyI, 6, .inl (fun _ => 0)))] H := hP
  have hD : va_D A [(h0, .inr (6, [.ref q_2, .ref q_3, .ref q_4, .int 0, .int 0, .int 0, .int 0, .int 0, .ref co, .ref q_5, .ref q_6, .ref q_7, .int 0])), (q_2, .inl (cyI, 64, .inl (fun _ => 0))), (q_7, .inl (cyI, 6, .inl (fun _ => 0)))] := hD
  refine W.widen (k := 6) (n := 1270) (by decide) (by decide) ?_
  have hP9 := hP.sub (ws' := [(h0, .inr (6, [.ref q_2, .ref q_3, .ref q_4, .int 0, .int 0, .int 0, .int 0, .int 0, .ref co, .ref q_5, .ref q_6, .ref q_7, .int 0])), (q_2, .inl (cyI, 64, .inl (fun _ => 0))), (q_7, .inl (cyI, 6, .inl (fun _ => 0)))]) [0, 1, 2] rfl
  have hD9 := hD.sub (ws' := [(h0, .inr (6, [.ref q_2, .ref q_3, .ref q_4, .int 0, .int 0, .int 0, .int 0, .int 0, .ref co, .ref q_5, .ref q_6, .ref q_7, .int 0])), (q_2, .inl (cyI, 64, .inl (fun _ => 0))), (q_7, .inl (cyI, 6, .inl (fun _ => 0)))]) [0, 1, 2] (by decide) rfl
  exact W.vret hx hb hr (fun t ht hW => ⟨⟨(), rfl, trivial, ⟨q_2, q_3, q_4, q_5, q_6, q_7, pz_Bof hP9 hK hD9 ht hW⟩⟩, hS.F ht⟩) hS.2.2 dX7_init_35

def wq_X9_init : List Cond := .code yX9_init cX9_init 2 none :: ([.methodLink RX9 3 objectInit, .instanceMethod objectInit, .code objectInit ⟨#[0xb1]⟩ 1 none, .classLink RX9 9 RX5, .instantiable RX5 10, .initialized RX5, .code yX5_init cX5_init 1 none, .methodLink RX5 3 objectInit, .arrayClass .int, .fieldLink RX5 9 "RegisterMill$Places" "kinds" "[I", .fieldLink RX5 15 "RegisterMill$Places" "numbers" "[I", .fieldLink RX5 18 "RegisterMill$Places" "goals" "[I", .fieldLink RX5 21 "RegisterMill$Places" "written" "[I", .fieldLink RX5 24 "RegisterMill$Places" "readCounts" "[I", .classLink RX5 27 "[[I", .fieldLink RX5 29 "RegisterMill$Places" "reads" "[[I", .fieldLink RX5 32 "RegisterMill$Places" "newNumbers" "[I", .arrayClass .boolean, .fieldLink RX5 35 "RegisterMill$Places" "blockStarts" "[Z", .fieldLink RX5 39 "RegisterMill$Places" "copyOf" "[I", .instanceMethod yX5_init, .fieldLink RX9 12 "RegisterMill$Turner" "places" "LRegisterMill$Places;", .classLink RX9 18 RX3, .instantiable RX3 2, .initialized RX3, .code yX3_init cX3_init 1 none, .methodLink RX3 3 objectInit, .fieldLink RX3 9 "RegisterMill$Live" "ahead" "[I", .fieldLink RX3 15 "RegisterMill$Live" "behind" "[I", .instanceMethod yX3_init, .fieldLink RX9 21 "RegisterMill$Turner" "live" "LRegisterMill$Live;", .classLink RX9 25 RX2, .instantiable RX2 6, .initialized RX2, .code yX2_init cX2_init 1 none, .methodLink RX2 3 objectInit, .fieldLink RX2 9 "RegisterMill$Homes" "firsts" "[I", .fieldLink RX2 15 "RegisterMill$Homes" "lasts" "[I", .fieldLink RX2 18 "RegisterMill$Homes" "registers" "[I", .fieldLink RX2 21 "RegisterMill$Homes" "slotNumbers" "[I", .fieldLink RX2 24 "RegisterMill$Homes" "slotCounts" "[I", .fieldLink RX2 27 "RegisterMill$Homes" "holders" "[I", .instanceMethod yX2_init, .fieldLink RX9 28 "RegisterMill$Turner" "homes" "LRegisterMill$Homes;", .classLink RX9 32 RX1, .instantiable RX1 4, .initialized RX1, .code yX1_init cX1_init 1 none, .methodLink RX1 3 objectInit, .fieldLink RX1 9 "RegisterMill$Code" "starts" "[I", .fieldLink RX1 15 "RegisterMill$Code" "sizes" "[I", .fieldLink RX1 18 "RegisterMill$Code" "parts" "[I", .instanceMethod yX1_init, .fieldLink RX9 35 "RegisterMill$Turner" "code" "LRegisterMill$Code;", .fieldLink RX9 39 "RegisterMill$Turner" "placeCounts" "[I", .fieldLink RX9 43 "RegisterMill$Turner" "program" "LRegisterMill$Program;", .classLink RX9 47 RX10, .instantiable RX10 7, .initialized RX10, .code yX10_init cX10_init 4 none, .methodLink RX10 3 objectInit, .fieldLink RX10 9 "RegisterMill$Writer" "firstOps" "[I", .fieldLink RX10 15 "RegisterMill$Writer" "places" "LRegisterMill$Places;", .fieldLink RX10 19 "RegisterMill$Writer" "homes" "LRegisterMill$Homes;", .fieldLink RX10 23 "RegisterMill$Writer" "code" "LRegisterMill$Code;", .methodLink RX9 49 yX10_init, .instanceMethod yX10_init, .fieldLink RX9 52 "RegisterMill$Turner" "writer" "LRegisterMill$Writer;"] ++ wsX50 ++ wsX90 ++ wsX30 ++ wsX20 ++ wsX10 ++ wsX100)
set_option maxRecDepth 20000 in
theorem gq_X9_init_X5_init_11 : GoodIn wq_X9_init (wq_X5_init) := goodIn_r _ [7, 8, 2, 3, 9, 10, 11, 12, 13, 14, 15, 16, 17, 18, 19, 20, 69, 70, 71, 72, 73, 74, 75, 76, 77, 78] (by decide +kernel) (by decide +kernel)
set_option maxRecDepth 20000 in
theorem gq_X9_init_X3_init_20 : GoodIn wq_X9_init (wq_X3_init) := goodIn_r _ [26, 27, 2, 3, 9, 28, 29, 87, 88] (by decide +kernel) (by decide +kernel)
set_option maxRecDepth 20000 in
theorem gq_X9_init_X2_init_27 : GoodIn wq_X9_init (wq_X2_init) := goodIn_r _ [35, 36, 2, 3, 9, 37, 38, 39, 40, 41, 42, 89, 90, 91, 92, 93, 94] (by decide +kernel) (by decide +kernel)
set_option maxRecDepth 20000 in
theorem gq_X9_init_X1_init_34 : GoodIn wq_X9_init (wq_X1_init) := goodIn_r _ [48, 49, 2, 3, 9, 50, 51, 52, 95, 96, 97, 98] (by decide +kernel) (by decide +kernel)
set_option maxRecDepth 20000 in
theorem gq_X9_init_X10_init_49 : GoodIn wq_X9_init (wq_X10_init) := goodIn_r _ [60, 61, 2, 3, 9, 62, 63, 64, 65, 99, 100, 101, 102, 103, 104, 105] (by decide +kernel) (by decide +kernel)
set_option maxHeartbeats 4000000 in
set_option maxRecDepth 100000 in
/-- Turner(program) -/
theorem c_X9_init (l : Launch) (dC : Nat → ClassId) (dI : Nat → Nat → Nat) (cyI : ClassId) (sz : Nat) (h0 : Nat) (pr : Nat) : Met l yX9_init wq_X9_init ({ frames := 2, cells := 33, slots := 7977, locals := 35 }) (va_Pc [.ref h0, .ref pr] (pz_pre dC dI [(cyI, .int)] [(h0, .inr (8, [.null, .null, .null, .null, .null, .null, .null, .int 0]))] sz)) (va_Qv (S := Unit) (fun _ => True) (fun _ t => ∃ a_places a_live a_homes a_code a_writer a_placeCounts : Nat, pz_B dC dI [(cyI, .int)] (va_A [(h0, .inr (8, [.null, .null, .null, .null, .null, .null, .null, .int 0]))] sz) [(h0, .inr (8, [.ref pr, .ref a_places, .ref a_live, .ref a_homes, .ref a_code, .ref a_writer, .ref a_placeCounts, .int 0]))] t) (va_A [(h0, .inr (8, [.null, .null, .null, .null, .null, .null, .null, .int 0]))] sz)) 33 7977 (va_A [(h0, .inr (8, [.null, .null, .null, .null, .null, .null, .null, .int 0]))] sz) := by
  refine Met.ofW (cc := cX9_init) (maxL := 2) (ret := none) (by decide) rfl ?_
  intro p e s m args below meth c s₁ B hml hv
  obtain ⟨rfl, hsz, hP, hK, hD0, hNW⟩ := hv
  have hx := B.exec
  have hb := B.bytes
  have hr := B.returns
  have hts := atoms_spec (ws := wq_X9_init) B.pre
  have hown : s.vm.findClass RX9 = some m.cls := findClass_of_methodNamed B.named
  have hlocks := B.notSynchronized
  have hin : meth.name = "<init>" := (name_of_methodNamed B.named B.method).1
  have hiX5 : ∀ w ∈ wsX50, w ∈ wq_X9_init := by decide +kernel
  have hiX9 : ∀ w ∈ wsX90, w ∈ wq_X9_init := by decide +kernel
  have hiX3 : ∀ w ∈ wsX30, w ∈ wq_X9_init := by decide +kernel
  have hiX2 : ∀ w ∈ wsX20, w ∈ wq_X9_init := by decide +kernel
  have hiX1 : ∀ w ∈ wsX10, w ∈ wq_X9_init := by decide +kernel
  have hiX10 : ∀ w ∈ wsX100, w ∈ wq_X9_init := by decide +kernel
  subst hsz
  have hD := hD0.self (sz := s.heap.size)
  generalize hAe : va_A [(h0, .inr (8, [.null, .null, .null, .null, .null, .null, .null, .int 0]))] s.heap.size = A at hD ⊢
  have hA : ∀ q : Nat, s.heap.size ≤ q → A q := fun q h => by rw [← hAe]; exact Or.inr h
  have hS : va_S A s.heap s.heap [] := va_S.rf
  have hl := lv_entry ([.ref h0, .ref pr]) (n := 2) (Nat.le_of_ble_eq_true rfl)
  rw [lg_entry_eq]
  generalize (lg_sl ([.ref h0, .ref pr]) ++ List.replicate (2 - (lg_sl ([.ref h0, .ref pr])).length) Slot.unset).toArray = ls at hl ⊢
  have hl : lv_has ls 2 [(0, .ref h0), (1, .ref pr)] := hl
  refine lv_aload_n hx hb dX9_init_0 rfl (lv_at hl 0 rfl) ?_
  refine W.objInit hx hb hown (hts (.methodLink RX9 3 objectInit) (by decide +kernel)) (hts (.instanceMethod objectInit) (by decide +kernel)) (hts (.code objectInit ⟨#[0xb1]⟩ 1 none) (by decide +kernel)) rfl (by rw [hml]; exact hl.1) rfl dX9_init_1 (Nat.le_of_ble_eq_true rfl) (Nat.le_of_ble_eq_true rfl) ?_
  refine W.eq (g2 := F0 m 4 ls []) rfl ?_
  refine lv_aload_n hx hb dX9_init_4 rfl (lv_at hl 0 rfl) ?_
  refine va_new (ci := 4) (fs := [.null, .null, .null, .null, .null, .null, .int 0, .null, .null, .null]) (C := RX5) (T := TX5) (N := 10) hx hb hts hiX5 tyX5 tyX5_ok hown (hts (.classLink RX9 9 RX5) (by decide +kernel)) (hts (.instantiable RX5 10) (by decide +kernel)) (hts (.initialized RX5) (by decide +kernel)) hK hP hD hS hA rfl (fun j hj => fsX5 j hj) (by decide) (by decide) dX9_init_5 (fun q_1 H hP hD hS => ?_)
  have hP : va_P (dC, dI) vwCl [(h0, .inr (8, [.null, .null, .null, .null, .null, .null, .null, .int 0])), (q_1, .inr (4, [.null, .null, .null, .null, .null, .null, .int 0, .null, .null, .null]))] H := hP
  have hD : va_D A [(h0, .inr (8, [.null, .null, .null, .null, .null, .null, .null, .int 0])), (q_1, .inr (4, [.null, .null, .null, .null, .null, .null, .int 0, .null, .null, .null]))] := hD
  refine W.widen (k := 1) (n := 10) (by omega) (by omega) ?_
  refine lv_dup hx hb dX9_init_8 rfl ?_
  have hPc := hP.sub (ws' := [(q_1, .inr (4, [.null, .null, .null, .null, .null, .null, .int 0, .null, .null, .null]))]) [1] rfl
  have hDc := hD.sub (ws' := [(q_1, .inr (4, [.null, .null, .null, .null, .null, .null, .int 0, .null, .null, .null]))]) [1] (by decide) rfl
  have hKc := hK.sub (tys' := [(cyI, .int)]) [0] rfl
  have hFc := va_free (wc := [(q_1, .inr (4, [.null, .null, .null, .null, .null, .null, .int 0, .null, .null, .null]))]) hD hS hA [1] rfl
  refine va_callv (va_runIN (As := []) (rest := [.ref q_1, .ref h0]) ⟨hx, hb, hml, hown, hts⟩ (c_X5_init l dC dI cyI H.size q_1) ⟨va_cnB 0 hts gq_X9_init_X5_init_11 rfl rfl rfl hNW.2.2.1 (hts (.initialized RX5) (by decide +kernel)) (by decide +kernel) ⟨Nat.le_of_ble_eq_true rfl, Nat.le_of_ble_eq_true rfl⟩, rfl, (hts (.instanceMethod yX5_init) (by decide +kernel))⟩ ⟨pz_blind, pz_to hPc hKc hDc hNW⟩ rfl rfl hl.1 rfl (lv_room (Nat.le_of_ble_eq_true rfl)) dX9_init_9 (by decide)) hS (fun q _ h => hFc q h) hFc (fun u t H1 locs ht hvm hw hB hz1 hk1 hS => ?_)
  obtain ⟨q_3, q_4, q_5, q_6, q_7, q_8, q_9, q_10, q_11, hP1, hK1, hD1⟩ := hB
  rw [ht] at hP1
  obtain ⟨hP, hD⟩ := va_join (wr := [(h0, .inr (8, [.null, .null, .null, .null, .null, .null, .null, .int 0]))]) (w1 := [(q_1, .inr (4, [.ref q_3, .ref q_4, .ref q_5, .ref q_6, .ref q_7, .ref q_8, .int 0, .ref q_9, .ref q_10, .ref q_11]))]) hP hD [1] [0] rfl rfl (by decide) (by decide) hk1 hFc hP1 hD1
  generalize H1 = H at hP hS ⊢
  have hP : va_P (dC, dI) vwCl [(h0, .inr (8, [.null, .null, .null, .null, .null, .null, .null, .int 0])), (q_1, .inr (4, [.ref q_3, .ref q_4, .ref q_5, .ref q_6, .ref q_7, .ref q_8, .int 0, .ref q_9, .ref q_10, .ref q_11]))] H := hP
  have hD : va_D A [(h0, .inr (8, [.null, .null, .null, .null, .null, .null, .null, .int 0])), (q_1, .inr (4, [.ref q_3, .ref q_4, .ref q_5, .ref q_6, .ref q_7, .ref q_8, .int 0, .ref q_9, .ref q_10, .ref q_11]))] := hD
  refine W.widen (k := 16) (n := 3938) (by omega) (by omega) ?_
  refine va_putF (D := (dC, dI)) (ci := 8) (v := .ref q_1) (ty := .object "RegisterMill$Places") (C := RX9) (T := TX9) (N := 8) hx hb hts hiX9 tyX9 tyX9_ok nmX9 hown hK hP hD hS 0 rfl rfl 1 (by decide) (hts (.fieldLink RX9 12 "RegisterMill$Turner" "places" "LRegisterMill$Places;") (by decide +kernel)) (fun _ h9 => h9) rfl hin rfl (by decide +kernel) rfl rfl (Nat.le_of_ble_eq_true rfl) dX9_init_12 (fun H locs hP hD hS => ?_)
  have hP : va_P (dC, dI) vwCl [(h0, .inr (8, [.null, .ref q_1, .null, .null, .null, .null, .null, .int 0])), (q_1, .inr (4, [.ref q_3, .ref q_4, .ref q_5, .ref q_6, .ref q_7, .ref q_8, .int 0, .ref q_9, .ref q_10, .ref q_11]))] H := hP
  have hD : va_D A [(h0, .inr (8, [.null, .ref q_1, .null, .null, .null, .null, .null, .int 0])), (q_1, .inr (4, [.ref q_3, .ref q_4, .ref q_5, .ref q_6, .ref q_7, .ref q_8, .int 0, .ref q_9, .ref q_10, .ref q_11]))] := hD
  refine lv_aload_n hx hb dX9_init_15 rfl (lv_at hl 0 rfl) ?_
  refine va_new (ci := 3) (fs := [.null, .null]) (C := RX3) (T := TX3) (N := 2) hx hb hts hiX3 tyX3 tyX3_ok hown (hts (.classLink RX9 18 RX3) (by decide +kernel)) (hts (.instantiable RX3 2) (by decide +kernel)) (hts (.initialized RX3) (by decide +kernel)) hK hP hD hS hA rfl (fun j hj => fsX3 j hj) (by decide) (by decide) dX9_init_16 (fun q_12 H hP hD hS => ?_)
  have hP : va_P (dC, dI) vwCl [(h0, .inr (8, [.null, .ref q_1, .null, .null, .null, .null, .null, .int 0])), (q_1, .inr (4, [.ref q_3, .ref q_4, .ref q_5, .ref q_6, .ref q_7, .ref q_8, .int 0, .ref q_9, .ref q_10, .ref q_11])), (q_12, .inr (3, [.null, .null]))] H := hP
  have hD : va_D A [(h0, .inr (8, [.null, .ref q_1, .null, .null, .null, .null, .null, .int 0])), (q_1, .inr (4, [.ref q_3, .ref q_4, .ref q_5, .ref q_6, .ref q_7, .ref q_8, .int 0, .ref q_9, .ref q_10, .ref q_11])), (q_12, .inr (3, [.null, .null]))] := hD
  refine W.widen (k := 17) (n := 3940) (by omega) (by omega) ?_
  refine lv_dup hx hb dX9_init_19 rfl ?_
  have hPc := hP.sub (ws' := [(q_12, .inr (3, [.null, .null]))]) [2] rfl
  have hDc := hD.sub (ws' := [(q_12, .inr (3, [.null, .null]))]) [2] (by decide) rfl
  have hKc := hK.sub (tys' := [(cyI, .int)]) [0] rfl
  have hFc := va_free (wc := [(q_12, .inr (3, [.null, .null]))]) hD hS hA [2] rfl
  refine va_callv (va_runIN (As := []) (rest := [.ref q_12, .ref h0]) ⟨hx, hb, hml, hown, hts⟩ (c_X3_init l dC dI cyI H.size q_12) ⟨va_cnB 0 hts gq_X9_init_X3_init_20 rfl rfl rfl hNW.2.2.2.1 (hts (.initialized RX3) (by decide +kernel)) (by decide +kernel) ⟨Nat.le_of_ble_eq_true rfl, Nat.le_of_ble_eq_true rfl⟩, rfl, (hts (.instanceMethod yX3_init) (by decide +kernel))⟩ ⟨pz_blind, pz_to hPc hKc hDc hNW⟩ rfl rfl hl.1 rfl (lv_room (Nat.le_of_ble_eq_true rfl)) dX9_init_20 (by decide)) hS (fun q _ h => hFc q h) hFc (fun u t H1 locs ht hvm hw hB hz1 hk1 hS => ?_)
  obtain ⟨q_14, q_15, hP1, hK1, hD1⟩ := hB
  rw [ht] at hP1
  obtain ⟨hP, hD⟩ := va_join (wr := [(h0, .inr (8, [.null, .ref q_1, .null, .null, .null, .null, .null, .int 0])), (q_1, .inr (4, [.ref q_3, .ref q_4, .ref q_5, .ref q_6, .ref q_7, .ref q_8, .int 0, .ref q_9, .ref q_10, .ref q_11]))]) (w1 := [(q_12, .inr (3, [.ref q_14, .ref q_15]))]) hP hD [2] [0, 1] rfl rfl (by decide) (by decide) hk1 hFc hP1 hD1
  generalize H1 = H at hP hS ⊢
  have hP : va_P (dC, dI) vwCl [(h0, .inr (8, [.null, .ref q_1, .null, .null, .null, .null, .null, .int 0])), (q_1, .inr (4, [.ref q_3, .ref q_4, .ref q_5, .ref q_6, .ref q_7, .ref q_8, .int 0, .ref q_9, .ref q_10, .ref q_11])), (q_12, .inr (3, [.ref q_14, .ref q_15]))] H := hP
  have hD : va_D A [(h0, .inr (8, [.null, .ref q_1, .null, .null, .null, .null, .null, .int 0])), (q_1, .inr (4, [.ref q_3, .ref q_4, .ref q_5, .ref q_6, .ref q_7, .ref q_8, .int 0, .ref q_9, .ref q_10, .ref q_11])), (q_12, .inr (3, [.ref q_14, .ref q_15]))] := hD
  refine W.widen (k := 19) (n := 4540) (by omega) (by omega) ?_
  refine va_putF (D := (dC, dI)) (ci := 8) (v := .ref q_12) (ty := .object "RegisterMill$Live") (C := RX9) (T := TX9) (N := 8) hx hb hts hiX9 tyX9 tyX9_ok nmX9 hown hK hP hD hS 0 rfl rfl 2 (by decide) (hts (.fieldLink RX9 21 "RegisterMill$Turner" "live" "LRegisterMill$Live;") (by decide +kernel)) (fun _ h9 => h9) rfl hin rfl (by decide +kernel) rfl rfl (Nat.le_of_ble_eq_true rfl) dX9_init_23 (fun H locs hP hD hS => ?_)
  have hP : va_P (dC, dI) vwCl [(h0, .inr (8, [.null, .ref q_1, .ref q_12, .null, .null, .null, .null, .int 0])), (q_1, .inr (4, [.ref q_3, .ref q_4, .ref q_5, .ref q_6, .ref q_7, .ref q_8, .int 0, .ref q_9, .ref q_10, .ref q_11])), (q_12, .inr (3, [.ref q_14, .ref q_15]))] H := hP
  have hD : va_D A [(h0, .inr (8, [.null, .ref q_1, .ref q_12, .null, .null, .null, .null, .int 0])), (q_1, .inr (4, [.ref q_3, .ref q_4, .ref q_5, .ref q_6, .ref q_7, .ref q_8, .int 0, .ref q_9, .ref q_10, .ref q_11])), (q_12, .inr (3, [.ref q_14, .ref q_15]))] := hD
  refine lv_aload_n hx hb dX9_init_26 rfl (lv_at hl 0 rfl) ?_
  refine va_new (ci := 2) (fs := [.null, .null, .null, .null, .null, .null]) (C := RX2) (T := TX2) (N := 6) hx hb hts hiX2 tyX2 tyX2_ok hown (hts (.classLink RX9 25 RX2) (by decide +kernel)) (hts (.instantiable RX2 6) (by decide +kernel)) (hts (.initialized RX2) (by decide +kernel)) hK hP hD hS hA rfl (fun j hj => fsX2 j hj) (by decide) (by decide) dX9_init_27 (fun q_16 H hP hD hS => ?_)
  have hP : va_P (dC, dI) vwCl [(h0, .inr (8, [.null, .ref q_1, .ref q_12, .null, .null, .null, .null, .int 0])), (q_1, .inr (4, [.ref q_3, .ref q_4, .ref q_5, .ref q_6, .ref q_7, .ref q_8, .int 0, .ref q_9, .ref q_10, .ref q_11])), (q_12, .inr (3, [.ref q_14, .ref q_15])), (q_16, .inr (2, [.null, .null, .null, .null, .null, .null]))] H := hP
  have hD : va_D A [(h0, .inr (8, [.null, .ref q_1, .ref q_12, .null, .null, .null, .null, .int 0])), (q_1, .inr (4, [.ref q_3, .ref q_4, .ref q_5, .ref q_6, .ref q_7, .ref q_8, .int 0, .ref q_9, .ref q_10, .ref q_11])), (q_12, .inr (3, [.ref q_14, .ref q_15])), (q_16, .inr (2, [.null, .null, .null, .null, .null, .null]))] := hD
  refine W.widen (k := 20) (n := 4546) (by omega) (by omega) ?_
  refine lv_dup hx hb dX9_init_30 rfl ?_
  have hPc := hP.sub (ws' := [(q_16, .inr (2, [.null, .null, .null, .null, .null, .null]))]) [3] rfl
  have hDc := hD.sub (ws' := [(q_16, .inr (2, [.null, .null, .null, .null, .null, .null]))]) [3] (by decide) rfl
  have hKc := hK.sub (tys' := [(cyI, .int)]) [0] rfl
  have hFc := va_free (wc := [(q_16, .inr (2, [.null, .null, .null, .null, .null, .null]))]) hD hS hA [3] rfl
  refine va_callv (va_runIN (As := []) (rest := [.ref q_16, .ref h0]) ⟨hx, hb, hml, hown, hts⟩ (c_X2_init l dC dI cyI H.size q_16) ⟨va_cnB 0 hts gq_X9_init_X2_init_27 rfl rfl rfl hNW.2.2.2.2.1 (hts (.initialized RX2) (by decide +kernel)) (by decide +kernel) ⟨Nat.le_of_ble_eq_true rfl, Nat.le_of_ble_eq_true rfl⟩, rfl, (hts (.instanceMethod yX2_init) (by decide +kernel))⟩ ⟨pz_blind, pz_to hPc hKc hDc hNW⟩ rfl rfl hl.1 rfl (lv_room (Nat.le_of_ble_eq_true rfl)) dX9_init_31 (by decide)) hS (fun q _ h => hFc q h) hFc (fun u t H1 locs ht hvm hw hB hz1 hk1 hS => ?_)
  obtain ⟨q_18, q_19, q_20, q_21, q_22, q_23, hP1, hK1, hD1⟩ := hB
  rw [ht] at hP1
  obtain ⟨hP, hD⟩ := va_join (wr := [(h0, .inr (8, [.null, .ref q_1, .ref q_12, .null, .null, .null, .null, .int 0])), (q_1, .inr (4, [.ref q_3, .ref q_4, .ref q_5, .ref q_6, .ref q_7, .ref q_8, .int 0, .ref q_9, .ref q_10, .ref q_11])), (q_12, .inr (3, [.ref q_14, .ref q_15]))]) (w1 := [(q_16, .inr (2, [.ref q_18, .ref q_19, .ref q_20, .ref q_21, .ref q_22, .ref q_23]))]) hP hD [3] [0, 1, 2] rfl rfl (by decide) (by decide) hk1 hFc hP1 hD1
  generalize H1 = H at hP hS ⊢
  have hP : va_P (dC, dI) vwCl [(h0, .inr (8, [.null, .ref q_1, .ref q_12, .null, .null, .null, .null, .int 0])), (q_1, .inr (4, [.ref q_3, .ref q_4, .ref q_5, .ref q_6, .ref q_7, .ref q_8, .int 0, .ref q_9, .ref q_10, .ref q_11])), (q_12, .inr (3, [.ref q_14, .ref q_15])), (q_16, .inr (2, [.ref q_18, .ref q_19, .ref q_20, .ref q_21, .ref q_22, .ref q_23]))] H := hP
  have hD : va_D A [(h0, .inr (8, [.null, .ref q_1, .ref q_12, .null, .null, .null, .null, .int 0])), (q_1, .inr (4, [.ref q_3, .ref q_4, .ref q_5, .ref q_6, .ref q_7, .ref q_8, .int 0, .ref q_9, .ref q_10, .ref q_11])), (q_12, .inr (3, [.ref q_14, .ref q_15])), (q_16, .inr (2, [.ref q_18, .ref q_19, .ref q_20, .ref q_21, .ref q_22, .ref q_23]))] := hD
  refine W.widen (k := 26) (n := 5630) (by omega) (by omega) ?_
  refine va_putF (D := (dC, dI)) (ci := 8) (v := .ref q_16) (ty := .object "RegisterMill$Homes") (C := RX9) (T := TX9) (N := 8) hx hb hts hiX9 tyX9 tyX9_ok nmX9 hown hK hP hD hS 0 rfl rfl 3 (by decide) (hts (.fieldLink RX9 28 "RegisterMill$Turner" "homes" "LRegisterMill$Homes;") (by decide +kernel)) (fun _ h9 => h9) rfl hin rfl (by decide +kernel) rfl rfl (Nat.le_of_ble_eq_true rfl) dX9_init_34 (fun H locs hP hD hS => ?_)
  have hP : va_P (dC, dI) vwCl [(h0, .inr (8, [.null, .ref q_1, .ref q_12, .ref q_16, .null, .null, .null, .int 0])), (q_1, .inr (4, [.ref q_3, .ref q_4, .ref q_5, .ref q_6, .ref q_7, .ref q_8, .int 0, .ref q_9, .ref q_10, .ref q_11])), (q_12, .inr (3, [.ref q_14, .ref q_15])), (q_16, .inr (2, [.ref q_18, .ref q_19, .ref q_20, .ref q_21, .ref q_22, .ref q_23]))] H := hP
  have hD : va_D A [(h0, .inr (8, [.null, .ref q_1, .ref q_12, .ref q_16, .null, .null, .null, .int 0])), (q_1, .inr (4, [.ref q_3, .ref q_4, .ref q_5, .ref q_6, .ref q_7, .ref q_8, .int 0, .ref q_9, .ref q_10, .ref q_11])), (q_12, .inr (3, [.ref q_14, .ref q_15])), (q_16, .inr (2, [.ref q_18, .ref q_19, .ref q_20, .ref q_21, .ref q_22, .ref q_23]))] := hD
  refine lv_aload_n hx hb dX9_init_37 rfl (lv_at hl 0 rfl) ?_
  refine va_new (ci := 1) (fs := [.null, .null, .int 0, .null]) (C := RX1) (T := TX1) (N := 4) hx hb hts hiX1 tyX1 tyX1_ok hown (hts (.classLink RX9 32 RX1) (by decide +kernel)) (hts (.instantiable RX1 4) (by decide +kernel)) (hts (.initialized RX1) (by decide +kernel)) hK hP hD hS hA rfl (fun j hj => fsX1 j hj) (by decide) (by decide) dX9_init_38 (fun q_24 H hP hD hS => ?_)
  have hP : va_P (dC, dI) vwCl [(h0, .inr (8, [.null, .ref q_1, .ref q_12, .ref q_16, .null, .null, .null, .int 0])), (q_1, .inr (4, [.ref q_3, .ref q_4, .ref q_5, .ref q_6, .ref q_7, .ref q_8, .int 0, .ref q_9, .ref q_10, .ref q_11])), (q_12, .inr (3, [.ref q_14, .ref q_15])), (q_16, .inr (2, [.ref q_18, .ref q_19, .ref q_20, .ref q_21, .ref q_22, .ref q_23])), (q_24, .inr (1, [.null, .null, .int 0, .null]))] H := hP
  have hD : va_D A [(h0, .inr (8, [.null, .ref q_1, .ref q_12, .ref q_16, .null, .null, .null, .int 0])), (q_1, .inr (4, [.ref q_3, .ref q_4, .ref q_5, .ref q_6, .ref q_7, .ref q_8, .int 0, .ref q_9, .ref q_10, .ref q_11])), (q_12, .inr (3, [.ref q_14, .ref q_15])), (q_16, .inr (2, [.ref q_18, .ref q_19, .ref q_20, .ref q_21, .ref q_22, .ref q_23])), (q_24, .inr (1, [.null, .null, .int 0, .null]))] := hD
  refine W.widen (k := 27) (n := 5634) (by omega) (by omega) ?_
  refine lv_dup hx hb dX9_init_41 rfl ?_
  have hPc := hP.sub (ws' := [(q_24, .inr (1, [.null, .null, .int 0, .null]))]) [4] rfl
  have hDc := hD.sub (ws' := [(q_24, .inr (1, [.null, .null, .int 0, .null]))]) [4] (by decide) rfl
  have hKc := hK.sub (tys' := [(cyI, .int)]) [0] rfl
  have hFc := va_free (wc := [(q_24, .inr (1, [.null, .null, .int 0, .null]))]) hD hS hA [4] rfl
  refine va_callv (va_runIN (As := []) (rest := [.ref q_24, .ref h0]) ⟨hx, hb, hml, hown, hts⟩ (c_X1_init l dC dI cyI H.size q_24) ⟨va_cnB 0 hts gq_X9_init_X1_init_34 rfl rfl rfl hNW.2.2.2.2.2.1 (hts (.initialized RX1) (by decide +kernel)) (by decide +kernel) ⟨Nat.le_of_ble_eq_true rfl, Nat.le_of_ble_eq_true rfl⟩, rfl, (hts (.instanceMethod yX1_init) (by decide +kernel))⟩ ⟨pz_blind, pz_to hPc hKc hDc hNW⟩ rfl rfl hl.1 rfl (lv_room (Nat.le_of_ble_eq_true rfl)) dX9_init_42 (by decide)) hS (fun q _ h => hFc q h) hFc (fun u t H1 locs ht hvm hw hB hz1 hk1 hS => ?_)
  obtain ⟨q_26, q_27, q_28, hP1, hK1, hD1⟩ := hB
  rw [ht] at hP1
  obtain ⟨hP, hD⟩ := va_join (wr := [(h0, .inr (8, [.null, .ref q_1, .ref q_12, .ref q_16, .null, .null, .null, .int 0])), (q_1, .inr (4, [.ref q_3, .ref q_4, .ref q_5, .ref q_6, .ref q_7, .ref q_8, .int 0, .ref q_9, .ref q_10, .ref q_11])), (q_12, .inr (3, [.ref q_14, .ref q_15])), (q_16, .inr (2, [.ref q_18, .ref q_19, .ref q_20, .ref q_21, .ref q_22, .ref q_23]))]) (w1 := [(q_24, .inr (1, [.ref q_26, .ref q_27, .int 0, .ref q_28]))]) hP hD [4] [0, 1, 2, 3] rfl rfl (by decide) (by decide) hk1 hFc hP1 hD1
  generalize H1 = H at hP hS ⊢
  have hP : va_P (dC, dI) vwCl [(h0, .inr (8, [.null, .ref q_1, .ref q_12, .ref q_16, .null, .null, .null, .int 0])), (q_1, .inr (4, [.ref q_3, .ref q_4, .ref q_5, .ref q_6, .ref q_7, .ref q_8, .int 0, .ref q_9, .ref q_10, .ref q_11])), (q_12, .inr (3, [.ref q_14, .ref q_15])), (q_16, .inr (2, [.ref q_18, .ref q_19, .ref q_20, .ref q_21, .ref q_22, .ref q_23])), (q_24, .inr (1, [.ref q_26, .ref q_27, .int 0, .ref q_28]))] H := hP
  have hD : va_D A [(h0, .inr (8, [.null, .ref q_1, .ref q_12, .ref q_16, .null, .null, .null, .int 0])), (q_1, .inr (4, [.ref q_3, .ref q_4, .ref q_5, .ref q_6, .ref q_7, .ref q_8, .int 0, .ref q_9, .ref q_10, .ref q_11])), (q_12, .inr (3, [.ref q_14, .ref q_15])), (q_16, .inr (2, [.ref q_18, .ref q_19, .ref q_20, .ref q_21, .ref q_22, .ref q_23])), (q_24, .inr (1, [.ref q_26, .ref q_27, .int 0, .ref q_28]))] := hD
  refine W.widen (k := 30) (n := 7658) (by omega) (by omega) ?_
  refine va_putF (D := (dC, dI)) (ci := 8) (v := .ref q_24) (ty := .object "RegisterMill$Code") (C := RX9) (T := TX9) (N := 8) hx hb hts hiX9 tyX9 tyX9_ok nmX9 hown hK hP hD hS 0 rfl rfl 4 (by decide) (hts (.fieldLink RX9 35 "RegisterMill$Turner" "code" "LRegisterMill$Code;") (by decide +kernel)) (fun _ h9 => h9) rfl hin rfl (by decide +kernel) rfl rfl (Nat.le_of_ble_eq_true rfl) dX9_init_45 (fun H locs hP hD hS => ?_)
  have hP : va_P (dC, dI) vwCl [(h0, .inr (8, [.null, .ref q_1, .ref q_12, .ref q_16, .ref q_24, .null, .null, .int 0])), (q_1, .inr (4, [.ref q_3, .ref q_4, .ref q_5, .ref q_6, .ref q_7, .ref q_8, .int 0, .ref q_9, .ref q_10, .ref q_11])), (q_12, .inr (3, [.ref q_14, .ref q_15])), (q_16, .inr (2, [.ref q_18, .ref q_19, .ref q_20, .ref q_21, .ref q_22, .ref q_23])), (q_24, .inr (1, [.ref q_26, .ref q_27, .int 0, .ref q_28]))] H := hP
  have hD : va_D A [(h0, .inr (8, [.null, .ref q_1, .ref q_12, .ref q_16, .ref q_24, .null, .null, .int 0])), (q_1, .inr (4, [.ref q_3, .ref q_4, .ref q_5, .ref q_6, .ref q_7, .ref q_8, .int 0, .ref q_9, .ref q_10, .ref q_11])), (q_12, .inr (3, [.ref q_14, .ref q_15])), (q_16, .inr (2, [.ref q_18, .ref q_19, .ref q_20, .ref q_21, .ref q_22, .ref q_23])), (q_24, .inr (1, [.ref q_26, .ref q_27, .int 0, .ref q_28]))] := hD
  refine lv_aload_n hx hb dX9_init_48 rfl (lv_at hl 0 rfl) ?_
  refine lv_bipush (v := 12) hx hb dX9_init_49 (by decide) ?_
  refine pz_newd hx hb (hts (.arrayClass .int) (by decide +kernel)) hK hP hD hS hA 12 (by decide) (by decide) (by decide) (by decide) (by decide) dX9_init_51 (fun q_29 H hP hS => ?_)
  refine W.widen (k := 31) (n := 7670) (by omega) (by omega) ?_
  refine va_putF (D := (dC, dI)) (ci := 8) (v := .ref q_29) (ty := .array .int) (C := RX9) (T := TX9) (N := 8) hx hb hts hiX9 tyX9 tyX9_ok nmX9 hown hK hP hD hS 0 rfl rfl 6 (by decide) (hts (.fieldLink RX9 39 "RegisterMill$Turner" "placeCounts" "[I") (by decide +kernel)) (fun _ h9 => h9) rfl hin rfl (by decide +kernel) rfl rfl (Nat.le_of_ble_eq_true rfl) dX9_init_53 (fun H locs hP hD hS => ?_)
  have hP : va_P (dC, dI) vwCl [(h0, .inr (8, [.null, .ref q_1, .ref q_12, .ref q_16, .ref q_24, .null, .ref q_29, .int 0])), (q_1, .inr (4, [.ref q_3, .ref q_4, .ref q_5, .ref q_6, .ref q_7, .ref q_8, .int 0, .ref q_9, .ref q_10, .ref q_11])), (q_12, .inr (3, [.ref q_14, .ref q_15])), (q_16, .inr (2, [.ref q_18, .ref q_19, .ref q_20, .ref q_21, .ref q_22, .ref q_23])), (q_24, .inr (1, [.ref q_26, .ref q_27, .int 0, .ref q_28]))] H := hP
  have hD : va_D A [(h0, .inr (8, [.null, .ref q_1, .ref q_12, .ref q_16, .ref q_24, .null, .ref q_29, .int 0])), (q_1, .inr (4, [.ref q_3, .ref q_4, .ref q_5, .ref q_6, .ref q_7, .ref q_8, .int 0, .ref q_9, .ref q_10, .ref q_11])), (q_12, .inr (3, [.ref q_14, .ref q_15])), (q_16, .inr (2, [.ref q_18, .ref q_19, .ref q_20, .ref q_21, .ref q_22, .ref q_23])), (q_24, .inr (1, [.ref q_26, .ref q_27, .int 0, .ref q_28]))] := hD
  refine lv_aload_n hx hb dX9_init_56 rfl (lv_at hl 0 rfl) ?_
  refine lv_aload_n hx hb dX9_init_57 rfl (lv_at hl 1 rfl) ?_
  refine va_putF (D := (dC, dI)) (ci := 8) (v := .ref pr) (ty := .object "RegisterMill$Program") (C := RX9) (T := TX9) (N := 8) hx hb hts hiX9 tyX9 tyX9_ok nmX9 hown hK hP hD hS 0 rfl rfl 0 (by decide) (hts (.fieldLink RX9 43 "RegisterMill$Turner" "program" "LRegisterMill$Program;") (by decide +kernel)) (fun _ h9 => h9) rfl hin rfl (by decide +kernel) rfl rfl (Nat.le_of_ble_eq_true rfl) dX9_init_58 (fun H locs hP hD hS => ?_)
  have hP : va_P (dC, dI) vwCl [(h0, .inr (8, [.ref pr, .ref q_1, .ref q_12, .ref q_16, .ref q_24, .null, .ref q_29, .int 0])), (q_1, .inr (4, [.ref q_3, .ref q_4, .ref q_5, .ref q_6, .ref q_7, .ref q_8, .int 0, .ref q_9, .ref q_10, .ref q_11])), (q_12, .inr (3, [.ref q_14, .ref q_15])), (q_16, .inr (2, [.ref q_18, .ref q_19, .ref q_20, .ref q_21, .ref q_22, .ref q_23])), (q_24, .inr (1, [.ref q_26, .ref q_27, .int 0, .ref q_28]))] H := hP
  have hD : va_D A [(h0, .inr (8, [.ref pr, .ref q_1, .ref q_12, .ref q_16, .ref q_24, .null, .ref q_29, .int 0])), (q_1, .inr (4, [.ref q_3, .ref q_4, .ref q_5, .ref q_6, .ref q_7, .ref q_8, .int 0, .ref q_9, .ref q_10, .ref q_11])), (q_12, .inr (3, [.ref q_14, .ref q_15])), (q_16, .inr (2, [.ref q_18, .ref q_19, .ref q_20, .ref q_21, .ref q_22, .ref q_23])), (q_24, .inr (1, [.ref q_26, .ref q_27, .int 0, .ref q_28]))] := hD
  refine lv_aload_n hx hb dX9_init_61 rfl (lv_at hl 0 rfl) ?_
  refine va_new (ci := 9) (fs := [.null, .null, .null, .null, .int 0, .int 0, .int 0]) (C := RX10) (T := TX10) (N := 7) hx hb hts hiX10 tyX10 tyX10_ok hown (hts (.classLink RX9 47 RX10) (by decide +kernel)) (hts (.instantiable RX10 7) (by decide +kernel)) (hts (.initialized RX10) (by decide +kernel)) hK hP hD hS hA rfl (fun j hj => fsX10 j hj) (by decide) (by decide) dX9_init_62 (fun q_30 H hP hD hS => ?_)
  have hP : va_P (dC, dI) vwCl [(h0, .inr (8, [.ref pr, .ref q_1, .ref q_12, .ref q_16, .ref q_24, .null, .ref q_29, .int 0])), (q_1, .inr (4, [.ref q_3, .ref q_4, .ref q_5, .ref q_6, .ref q_7, .ref q_8, .int 0, .ref q_9, .ref q_10, .ref q_11])), (q_12, .inr (3, [.ref q_14, .ref q_15])), (q_16, .inr (2, [.ref q_18, .ref q_19, .ref q_20, .ref q_21, .ref q_22, .ref q_23])), (q_24, .inr (1, [.ref q_26, .ref q_27, .int 0, .ref q_28])), (q_30, .inr (9, [.null, .null, .null, .null, .int 0, .int 0, .int 0]))] H := hP
  have hD : va_D A [(h0, .inr (8, [.ref pr, .ref q_1, .ref q_12, .ref q_16, .ref q_24, .null, .ref q_29, .int 0])), (q_1, .inr (4, [.ref q_3, .ref q_4, .ref q_5, .ref q_6, .ref q_7, .ref q_8, .int 0, .ref q_9, .ref q_10, .ref q_11])), (q_12, .inr (3, [.ref q_14, .ref q_15])), (q_16, .inr (2, [.ref q_18, .ref q_19, .ref q_20, .ref q_21, .ref q_22, .ref q_23])), (q_24, .inr (1, [.ref q_26, .ref q_27, .int 0, .ref q_28])), (q_30, .inr (9, [.null, .null, .null, .null, .int 0, .int 0, .int 0]))] := hD
  refine W.widen (k := 32) (n := 7677) (by omega) (by omega) ?_
  refine lv_dup hx hb dX9_init_65 rfl ?_
  refine lv_aload_n hx hb dX9_init_66 rfl (lv_at hl 0 rfl) ?_
  refine va_get (D := (dC, dI)) (ci := 8) (v := .ref q_1) (C := RX9) (T := TX9) (N := 8) hx hb hts hiX9 hown hK hP 0 rfl rfl 1 (by decide) (hts (.fieldLink RX9 12 "RegisterMill$Turner" "places" "LRegisterMill$Places;") (by decide +kernel)) (fun _ h9 => h9) rfl dX9_init_67 ?_
  refine lv_aload_n hx hb dX9_init_70 rfl (lv_at hl 0 rfl) ?_
  refine va_get (D := (dC, dI)) (ci := 8) (v := .ref q_16) (C := RX9) (T := TX9) (N := 8) hx hb hts hiX9 hown hK hP 0 rfl rfl 3 (by decide) (hts (.fieldLink RX9 28 "RegisterMill$Turner" "homes" "LRegisterMill$Homes;") (by decide +kernel)) (fun _ h9 => h9) rfl dX9_init_71 ?_
  refine lv_aload_n hx hb dX9_init_74 rfl (lv_at hl 0 rfl) ?_
  refine va_get (D := (dC, dI)) (ci := 8) (v := .ref q_24) (C := RX9) (T := TX9) (N := 8) hx hb hts hiX9 hown hK hP 0 rfl rfl 4 (by decide) (hts (.fieldLink RX9 35 "RegisterMill$Turner" "code" "LRegisterMill$Code;") (by decide +kernel)) (fun _ h9 => h9) rfl dX9_init_75 ?_
  have hPc := hP.sub (ws' := [(q_30, .inr (9, [.null, .null, .null, .null, .int 0, .int 0, .int 0]))]) [5] rfl
  have hDc := hD.sub (ws' := [(q_30, .inr (9, [.null, .null, .null, .null, .int 0, .int 0, .int 0]))]) [5] (by decide) rfl
  have hKc := hK.sub (tys' := [(cyI, .int)]) [0] rfl
  have hFc := va_free (wc := [(q_30, .inr (9, [.null, .null, .null, .null, .int 0, .int 0, .int 0]))]) hD hS hA [5] rfl
  refine va_callv (va_runI (As := [.ref q_1, .ref q_16, .ref q_24]) (rest := [.ref q_30, .ref h0]) ⟨hx, hb, hml, hown, hts⟩ (c_X10_init l dC dI cyI H.size q_30 q_1 q_16 q_24) (cwI 3 hts gq_X9_init_X10_init_49 rfl rfl rfl (hts (.initialized RX10) (by decide +kernel)) (hts (.methodLink RX9 49 yX10_init) (by decide +kernel)) (hts (.instanceMethod yX10_init) (by decide +kernel)) rfl (by decide +kernel) ⟨Nat.le_of_ble_eq_true rfl, Nat.le_of_ble_eq_true rfl⟩) ⟨pz_blind, pz_to hPc hKc hDc hNW⟩ rfl rfl hl.1 rfl (lv_room (Nat.le_of_ble_eq_true rfl)) dX9_init_78 (by decide)) hS (fun q _ h => hFc q h) hFc (fun u t H1 locs ht hvm hw hB hz1 hk1 hS => ?_)
  obtain ⟨q_32, hP1, hK1, hD1⟩ := hB
  rw [ht] at hP1
  obtain ⟨hP, hD⟩ := va_join (wr := [(h0, .inr (8, [.ref pr, .ref q_1, .ref q_12, .ref q_16, .ref q_24, .null, .ref q_29, .int 0])), (q_1, .inr (4, [.ref q_3, .ref q_4, .ref q_5, .ref q_6, .ref q_7, .ref q_8, .int 0, .ref q_9, .ref q_10, .ref q_11])), (q_12, .inr (3, [.ref q_14, .ref q_15])), (q_16, .inr (2, [.ref q_18, .ref q_19, .ref q_20, .ref q_21, .ref q_22, .ref q_23])), (q_24, .inr (1, [.ref q_26, .ref q_27, .int 0, .ref q_28]))]) (w1 := [(q_30, .inr (9, [.ref q_1, .ref q_16, .ref q_24, .ref q_32, .int 0, .int 0, .int 0]))]) hP hD [5] [0, 1, 2, 3, 4] rfl rfl (by decide) (by decide) hk1 hFc hP1 hD1
  generalize H1 = H at hP hS ⊢
  have hP : va_P (dC, dI) vwCl [(h0, .inr (8, [.ref pr, .ref q_1, .ref q_12, .ref q_16, .ref q_24, .null, .ref q_29, .int 0])), (q_1, .inr (4, [.ref q_3, .ref q_4, .ref q_5, .ref q_6, .ref q_7, .ref q_8, .int 0, .ref q_9, .ref q_10, .ref q_11])), (q_12, .inr (3, [.ref q_14, .ref q_15])), (q_16, .inr (2, [.ref q_18, .ref q_19, .ref q_20, .ref q_21, .ref q_22, .ref q_23])), (q_24, .inr (1, [.ref q_26, .ref q_27, .int 0, .ref q_28])), (q_30, .inr (9, [.ref q_1, .ref q_16, .ref q_24, .ref q_32, .int 0, .int 0, .int 0]))] H := hP
  have hD : va_D A [(h0, .inr (8, [.ref pr, .ref q_1, .ref q_12, .ref q_16, .ref q_24, .null, .ref q_29, .int 0])), (q_1, .inr (4, [.ref q_3, .ref q_4, .ref q_5, .ref q_6, .ref q_7, .ref q_8, .int 0, .ref q_9, .ref q_10, .ref q_11])), (q_12, .inr (3, [.ref q_14, .ref q_15])), (q_16, .inr (2, [.ref q_18, .ref q_19, .ref q_20, .ref q_21, .ref q_22, .ref q_23])), (q_24, .inr (1, [.ref q_26, .ref q_27, .int 0, .ref q_28])), (q_30, .inr (9, [.ref q_1, .ref q_16, .ref q_24, .ref q_32, .int 0, .int 0, .int 0]))] := hD
  refine W.widen (k := 33) (n := 7977) (by omega) (by omega) ?_
  refine va_putF (D := (dC, dI)) (ci := 8) (v := .ref q_30) (ty := .object "RegisterMill$Writer") (C := RX9) (T := TX9) (N := 8) hx hb hts hiX9 tyX9 tyX9_ok nmX9 hown hK hP hD hS 0 rfl rfl 5 (by decide) (hts (.fieldLink RX9 52 "RegisterMill$Turner" "writer" "LRegisterMill$Writer;") (by decide +kernel)) (fun _ h9 => h9) rfl hin rfl (by decide +kernel) rfl rfl (Nat.le_of_ble_eq_true rfl) dX9_init_81 (fun H locs hP hD hS => ?_)
  have hP : va_P (dC, dI) vwCl [(h0, .inr (8, [.ref pr, .ref q_1, .ref q_12, .ref q_16, .ref q_24, .ref q_30, .ref q_29, .int 0])), (q_1, .inr (4, [.ref q_3, .ref q_4, .ref q_5, .ref q_6, .ref q_7, .ref q_8, .int 0, .ref q_9, .ref q_10, .ref q_11])), (q_12, .inr (3, [.ref q_14, .ref q_15])), (q_16, .inr (2, [.ref q_18, .ref q_19, .ref q_20, .ref q_21, .ref q_22, .ref q_23])), (q_24, .inr (1, [.ref q_26, .ref q_27, .int 0, .ref q_28])), (q_30, .inr (9, [.ref q_1, .ref q_16, .ref q_24, .ref q_32, .int 0, .int 0, .int 0]))] H := hP
  have hD : va_D A [(h0, .inr (8, [.ref pr, .ref q_1, .ref q_12, .ref q_16, .ref q_24, .ref q_30, .ref q_29, .int 0])), (q_1, .inr (4, [.ref q_3, .ref q_4, .ref q_5, .ref q_6, .ref q_7, .ref q_8, .int 0, .ref q_9, .ref q_10, .ref q_11])), (q_12, .inr (3, [.ref q_14, .ref q_15])), (q_16, .inr (2, [.ref q_18, .ref q_19, .ref q_20, .ref q_21, .ref q_22, .ref q_23])), (q_24, .inr (1, [.ref q_26, .ref q_27, .int 0, .ref q_28])), (q_30, .inr (9, [.ref q_1, .ref q_16, .ref q_24, .ref q_32, .int 0, .int 0, .int 0]))] := hD
  refine W.widen (k := 33) (n := 7977) (by decide) (by decide) ?_
  have hP9 := hP.sub (ws' := [(h0, .inr (8, [.ref pr, .ref q_1, .ref q_12, .ref q_16, .ref q_24, .ref q_30, .ref q_29, .int 0]))]) [0] rfl
  have hD9 := hD.sub (ws' := [(h0, .inr (8, [.ref pr, .ref q_1, .ref q_12, .ref q_16, .ref q_24, .ref q_30, .ref q_29, .int 0]))]) [0] (by decide) rfl
  exact W.vret hx hb hr (fun t ht hW => ⟨⟨(), rfl, trivial, ⟨q_1, q_12, q_16, q_24, q_30, q_29, pz_Bof hP9 hK hD9 ht hW⟩⟩, hS.F ht⟩) hS.2.2 dX9_init_84
