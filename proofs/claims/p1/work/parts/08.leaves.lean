def wq_X6_addFunc : List Cond := .code yX6_addFunc cX6_addFunc 3 (some .int) :: ([.fieldLink RX6 9 "RegisterMill$Program" "args" "[I", .fieldLink RX6 33 "RegisterMill$Program" "funcs" "I", .fieldLink RX6 15 "RegisterMill$Program" "locals" "[I", .fieldLink RX6 18 "RegisterMill$Program" "starts" "[I", .fieldLink RX6 37 "RegisterMill$Program" "words" "I", .fieldLink RX6 21 "RegisterMill$Program" "lengths" "[I"] ++ wsX60)
set_option maxHeartbeats 4000000 in
set_option maxRecDepth 100000 in
/-- addFunc on a fresh program: the first -/
theorem c_X6_addFunc (l : Launch) (dC : Nat → ClassId) (dI : Nat → Nat → Nat) (cyI : ClassId) (sz : Nat) (pr : Nat) (p_args : Nat) (p_locals : Nat) (p_starts : Nat) (p_lengths : Nat) (p_ops : Nat) (p_numbers : Nat) (p_depths : Nat) (p0 : Int32) (p1 : Int32) : Met l yX6_addFunc wq_X6_addFunc ({ frames := 0, cells := 0, slots := 0, locals := 0 }) (va_Pc [.ref pr, .int p0, .int p1] (pz_pre dC dI [(cyI, .int)] [(pr, .inr (5, [.ref p_args, .ref p_locals, .ref p_starts, .ref p_lengths, .ref p_ops, .ref p_numbers, .ref p_depths, .int 0, .int 0, .int 0])), (p_args, .inl (cyI, 12, .inl (fun _ => 0))), (p_locals, .inl (cyI, 12, .inl (fun _ => 0))), (p_starts, .inl (cyI, 12, .inl (fun _ => 0))), (p_lengths, .inl (cyI, 12, .inl (fun _ => 0)))] sz)) (va_Qi (S := Unit) (fun (r : Int32) _ => r = 0) (fun _ _ => True) (va_A [(pr, .inr (5, [.ref p_args, .ref p_locals, .ref p_starts, .ref p_lengths, .ref p_ops, .ref p_numbers, .ref p_depths, .int 0, .int 0, .int 0])), (p_args, .inl (cyI, 12, .inl (fun _ => 0))), (p_locals, .inl (cyI, 12, .inl (fun _ => 0))), (p_starts, .inl (cyI, 12, .inl (fun _ => 0))), (p_lengths, .inl (cyI, 12, .inl (fun _ => 0)))] sz)) 0 0 (va_A [(pr, .inr (5, [.ref p_args, .ref p_locals, .ref p_starts, .ref p_lengths, .ref p_ops, .ref p_numbers, .ref p_depths, .int 0, .int 0, .int 0])), (p_args, .inl (cyI, 12, .inl (fun _ => 0))), (p_locals, .inl (cyI, 12, .inl (fun _ => 0))), (p_starts, .inl (cyI, 12, .inl (fun _ => 0))), (p_lengths, .inl (cyI, 12, .inl (fun _ => 0)))] sz) := by
  refine Met.ofW (cc := cX6_addFunc) (maxL := 3) (ret := (some .int)) (by decide) rfl ?_
  intro p e s m args below meth c s₁ B hml hv
  obtain ⟨rfl, hsz, hP, hK, hD0, hNW⟩ := hv
  have hx := B.exec
  have hb := B.bytes
  have hr := B.returns
  have hts := atoms_spec (ws := wq_X6_addFunc) B.pre
  have hown : s.vm.findClass RX6 = some m.cls := findClass_of_methodNamed B.named
  have hlocks := B.notSynchronized
  have hiX6 : ∀ w ∈ wsX60, w ∈ wq_X6_addFunc := by decide +kernel
  subst hsz
  have hD := hD0.self (sz := s.heap.size)
  generalize hAe : va_A [(pr, .inr (5, [.ref p_args, .ref p_locals, .ref p_starts, .ref p_lengths, .ref p_ops, .ref p_numbers, .ref p_depths, .int 0, .int 0, .int 0])), (p_args, .inl (cyI, 12, .inl (fun _ => 0))), (p_locals, .inl (cyI, 12, .inl (fun _ => 0))), (p_starts, .inl (cyI, 12, .inl (fun _ => 0))), (p_lengths, .inl (cyI, 12, .inl (fun _ => 0)))] s.heap.size = A at hD ⊢
  have hA : ∀ q : Nat, s.heap.size ≤ q → A q := fun q h => by rw [← hAe]; exact Or.inr h
  have hS : va_S A s.heap s.heap [] := va_S.rf
  have hl := lv_entry ([.ref pr, .int p0, .int p1]) (n := 3) (Nat.le_of_ble_eq_true rfl)
  rw [lg_entry_eq]
  generalize (lg_sl ([.ref pr, .int p0, .int p1]) ++ List.replicate (3 - (lg_sl ([.ref pr, .int p0, .int p1])).length) Slot.unset).toArray = ls at hl ⊢
  have hl : lv_has ls 3 [(0, .ref pr), (1, .int p0), (2, .int p1)] := hl
  refine lv_aload_n hx hb dX6_addFunc_0 rfl (lv_at hl 0 rfl) ?_
  refine va_get (D := (dC, dI)) (ci := 5) (v := .ref p_args) (C := RX6) (T := TX6) (N := 10) hx hb hts hiX6 hown hK hP 0 rfl rfl 0 (by decide) (hts (.fieldLink RX6 9 "RegisterMill$Program" "args" "[I") (by decide +kernel)) (fun _ h9 => h9) rfl dX6_addFunc_1 ?_
  refine lv_aload_n hx hb dX6_addFunc_4 rfl (lv_at hl 0 rfl) ?_
  refine va_get (D := (dC, dI)) (ci := 5) (v := .int 0) (C := RX6) (T := TX6) (N := 10) hx hb hts hiX6 hown hK hP 0 rfl rfl 7 (by decide) (hts (.fieldLink RX6 33 "RegisterMill$Program" "funcs" "I") (by decide +kernel)) (fun _ h9 => h9) rfl dX6_addFunc_5 ?_
  refine lv_iload_n hx hb dX6_addFunc_8 rfl (lv_at hl 1 rfl) ?_
  refine va_iast hx hb hK hP hD hS 1 0 rfl rfl (by unfold vp_in; decide) dX6_addFunc_9 (fun H locs hP hD hS => ?_)
  have hP : va_P (dC, dI) vwCl [(pr, .inr (5, [.ref p_args, .ref p_locals, .ref p_starts, .ref p_lengths, .ref p_ops, .ref p_numbers, .ref p_depths, .int 0, .int 0, .int 0])), (p_args, .inl (cyI, 12, .inl (upd (fun _ => 0) (Int32.toNatClampNeg 0) p0))), (p_locals, .inl (cyI, 12, .inl (fun _ => 0))), (p_starts, .inl (cyI, 12, .inl (fun _ => 0))), (p_lengths, .inl (cyI, 12, .inl (fun _ => 0)))] H := hP
  have hD : va_D A [(pr, .inr (5, [.ref p_args, .ref p_locals, .ref p_starts, .ref p_lengths, .ref p_ops, .ref p_numbers, .ref p_depths, .int 0, .int 0, .int 0])), (p_args, .inl (cyI, 12, .inl (upd (fun _ => 0) (Int32.toNatClampNeg 0) p0))), (p_locals, .inl (cyI, 12, .inl (fun _ => 0))), (p_starts, .inl (cyI, 12, .inl (fun _ => 0))), (p_lengths, .inl (cyI, 12, .inl (fun _ => 0)))] := hD
  refine lv_aload_n hx hb dX6_addFunc_10 rfl (lv_at hl 0 rfl) ?_
  refine va_get (D := (dC, dI)) (ci := 5) (v := .ref p_locals) (C := RX6) (T := TX6) (N := 10) hx hb hts hiX6 hown hK hP 0 rfl rfl 1 (by decide) (hts (.fieldLink RX6 15 "RegisterMill$Program" "locals" "[I") (by decide +kernel)) (fun _ h9 => h9) rfl dX6_addFunc_11 ?_
  refine lv_aload_n hx hb dX6_addFunc_14 rfl (lv_at hl 0 rfl) ?_
  refine va_get (D := (dC, dI)) (ci := 5) (v := .int 0) (C := RX6) (T := TX6) (N := 10) hx hb hts hiX6 hown hK hP 0 rfl rfl 7 (by decide) (hts (.fieldLink RX6 33 "RegisterMill$Program" "funcs" "I") (by decide +kernel)) (fun _ h9 => h9) rfl dX6_addFunc_15 ?_
  refine lv_iload_n hx hb dX6_addFunc_18 rfl (lv_at hl 2 rfl) ?_
  refine va_iast hx hb hK hP hD hS 2 0 rfl rfl (by unfold vp_in; decide) dX6_addFunc_19 (fun H locs hP hD hS => ?_)
  have hP : va_P (dC, dI) vwCl [(pr, .inr (5, [.ref p_args, .ref p_locals, .ref p_starts, .ref p_lengths, .ref p_ops, .ref p_numbers, .ref p_depths, .int 0, .int 0, .int 0])), (p_args, .inl (cyI, 12, .inl (upd (fun _ => 0) (Int32.toNatClampNeg 0) p0))), (p_locals, .inl (cyI, 12, .inl (upd (fun _ => 0) (Int32.toNatClampNeg 0) p1))), (p_starts, .inl (cyI, 12, .inl (fun _ => 0))), (p_lengths, .inl (cyI, 12, .inl (fun _ => 0)))] H := hP
  have hD : va_D A [(pr, .inr (5, [.ref p_args, .ref p_locals, .ref p_starts, .ref p_lengths, .ref p_ops, .ref p_numbers, .ref p_depths, .int 0, .int 0, .int 0])), (p_args, .inl (cyI, 12, .inl (upd (fun _ => 0) (Int32.toNatClampNeg 0) p0))), (p_locals, .inl (cyI, 12, .inl (upd (fun _ => 0) (Int32.toNatClampNeg 0) p1))), (p_starts, .inl (cyI, 12, .inl (fun _ => 0))), (p_lengths, .inl (cyI, 12, .inl (fun _ => 0)))] := hD
  refine lv_aload_n hx hb dX6_addFunc_20 rfl (lv_at hl 0 rfl) ?_
  refine va_get (D := (dC, dI)) (ci := 5) (v := .ref p_starts) (C := RX6) (T := TX6) (N := 10) hx hb hts hiX6 hown hK hP 0 rfl rfl 2 (by decide) (hts (.fieldLink RX6 18 "RegisterMill$Program" "starts" "[I") (by decide +kernel)) (fun _ h9 => h9) rfl dX6_addFunc_21 ?_
  refine lv_aload_n hx hb dX6_addFunc_24 rfl (lv_at hl 0 rfl) ?_
  refine va_get (D := (dC, dI)) (ci := 5) (v := .int 0) (C := RX6) (T := TX6) (N := 10) hx hb hts hiX6 hown hK hP 0 rfl rfl 7 (by decide) (hts (.fieldLink RX6 33 "RegisterMill$Program" "funcs" "I") (by decide +kernel)) (fun _ h9 => h9) rfl dX6_addFunc_25 ?_
  refine lv_aload_n hx hb dX6_addFunc_28 rfl (lv_at hl 0 rfl) ?_
  refine va_get (D := (dC, dI)) (ci := 5) (v := .int 0) (C := RX6) (T := TX6) (N := 10) hx hb hts hiX6 hown hK hP 0 rfl rfl 8 (by decide) (hts (.fieldLink RX6 37 "RegisterMill$Program" "words" "I") (by decide +kernel)) (fun _ h9 => h9) rfl dX6_addFunc_29 ?_
  refine va_iast hx hb hK hP hD hS 3 0 rfl rfl (by unfold vp_in; decide) dX6_addFunc_32 (fun H locs hP hD hS => ?_)
  rw [pz_up0] at hP hD
  have hP : va_P (dC, dI) vwCl [(pr, .inr (5, [.ref p_args, .ref p_locals, .ref p_starts, .ref p_lengths, .ref p_ops, .ref p_numbers, .ref p_depths, .int 0, .int 0, .int 0])), (p_args, .inl (cyI, 12, .inl (upd (fun _ => 0) (Int32.toNatClampNeg 0) p0))), (p_locals, .inl (cyI, 12, .inl (upd (fun _ => 0) (Int32.toNatClampNeg 0) p1))), (p_starts, .inl (cyI, 12, .inl (fun _ => 0))), (p_lengths, .inl (cyI, 12, .inl (fun _ => 0)))] H := hP
  have hD : va_D A [(pr, .inr (5, [.ref p_args, .ref p_locals, .ref p_starts, .ref p_lengths, .ref p_ops, .ref p_numbers, .ref p_depths, .int 0, .int 0, .int 0])), (p_args, .inl (cyI, 12, .inl (upd (fun _ => 0) (Int32.toNatClampNeg 0) p0))), (p_locals, .inl (cyI, 12, .inl (upd (fun _ => 0) (Int32.toNatClampNeg 0) p1))), (p_starts, .inl (cyI, 12, .inl (fun _ => 0))), (p_lengths, .inl (cyI, 12, .inl (fun _ => 0)))] := hD
  refine lv_aload_n hx hb dX6_addFunc_33 rfl (lv_at hl 0 rfl) ?_
  refine va_get (D := (dC, dI)) (ci := 5) (v := .ref p_lengths) (C := RX6) (T := TX6) (N := 10) hx hb hts hiX6 hown hK hP 0 rfl rfl 3 (by decide) (hts (.fieldLink RX6 21 "RegisterMill$Program" "lengths" "[I") (by decide +kernel)) (fun _ h9 => h9) rfl dX6_addFunc_34 ?_
  refine lv_aload_n hx hb dX6_addFunc_37 rfl (lv_at hl 0 rfl) ?_
  refine va_get (D := (dC, dI)) (ci := 5) (v := .int 0) (C := RX6) (T := TX6) (N := 10) hx hb hts hiX6 hown hK hP 0 rfl rfl 7 (by decide) (hts (.fieldLink RX6 33 "RegisterMill$Program" "funcs" "I") (by decide +kernel)) (fun _ h9 => h9) rfl dX6_addFunc_38 ?_
  refine lv_iconst (v := 0) hx hb dX6_addFunc_41 (by decide) ?_
  refine va_iast hx hb hK hP hD hS 4 0 rfl rfl (by unfold vp_in; decide) dX6_addFunc_42 (fun H locs hP hD hS => ?_)
  rw [pz_up0] at hP hD
  have hP : va_P (dC, dI) vwCl [(pr, .inr (5, [.ref p_args, .ref p_locals, .ref p_starts, .ref p_lengths, .ref p_ops, .ref p_numbers, .ref p_depths, .int 0, .int 0, .int 0])), (p_args, .inl (cyI, 12, .inl (upd (fun _ => 0) (Int32.toNatClampNeg 0) p0))), (p_locals, .inl (cyI, 12, .inl (upd (fun _ => 0) (Int32.toNatClampNeg 0) p1))), (p_starts, .inl (cyI, 12, .inl (fun _ => 0))), (p_lengths, .inl (cyI, 12, .inl (fun _ => 0)))] H := hP
  have hD : va_D A [(pr, .inr (5, [.ref p_args, .ref p_locals, .ref p_starts, .ref p_lengths, .ref p_ops, .ref p_numbers, .ref p_depths, .int 0, .int 0, .int 0])), (p_args, .inl (cyI, 12, .inl (upd (fun _ => 0) (Int32.toNatClampNeg 0) p0))), (p_locals, .inl (cyI, 12, .inl (upd (fun _ => 0) (Int32.toNatClampNeg 0) p1))), (p_starts, .inl (cyI, 12, .inl (fun _ => 0))), (p_lengths, .inl (cyI, 12, .inl (fun _ => 0)))] := hD
  refine lv_aload_n hx hb dX6_addFunc_43 rfl (lv_at hl 0 rfl) ?_
  refine lv_dup hx hb dX6_addFunc_44 rfl ?_
  refine va_get (D := (dC, dI)) (ci := 5) (v := .int 0) (C := RX6) (T := TX6) (N := 10) hx hb hts hiX6 hown hK hP 0 rfl rfl 7 (by decide) (hts (.fieldLink RX6 33 "RegisterMill$Program" "funcs" "I") (by decide +kernel)) (fun _ h9 => h9) rfl dX6_addFunc_45 ?_
  refine lv_iconst (v := 1) hx hb dX6_addFunc_48 (by decide) ?_
  refine lv_iadd hx hb dX6_addFunc_49 ?_
  refine W.eq (g2 := F0 m 50 ls [.int 1, .ref pr]) (by first | rfl | exact congrArg (fun z => F0 m 50 ls (.int z :: _)) (by decide)) ?_
  refine va_put (D := (dC, dI)) (ci := 5) (v := .int 1) (ty := .int) (C := RX6) (T := TX6) (N := 10) hx hb hts hiX6 tyX6 tyX6_ok nmX6 hown hK hP hD hS 0 rfl rfl 7 (by decide) (hts (.fieldLink RX6 33 "RegisterMill$Program" "funcs" "I") (by decide +kernel)) (fun _ h9 => h9) rfl (by decide +kernel) rfl rfl (Nat.le_of_ble_eq_true rfl) dX6_addFunc_50 (fun H locs hP hD hS => ?_)
  have hP : va_P (dC, dI) vwCl [(pr, .inr (5, [.ref p_args, .ref p_locals, .ref p_starts, .ref p_lengths, .ref p_ops, .ref p_numbers, .ref p_depths, .int 1, .int 0, .int 0])), (p_args, .inl (cyI, 12, .inl (upd (fun _ => 0) (Int32.toNatClampNeg 0) p0))), (p_locals, .inl (cyI, 12, .inl (upd (fun _ => 0) (Int32.toNatClampNeg 0) p1))), (p_starts, .inl (cyI, 12, .inl (fun _ => 0))), (p_lengths, .inl (cyI, 12, .inl (fun _ => 0)))] H := hP
  have hD : va_D A [(pr, .inr (5, [.ref p_args, .ref p_locals, .ref p_starts, .ref p_lengths, .ref p_ops, .ref p_numbers, .ref p_depths, .int 1, .int 0, .int 0])), (p_args, .inl (cyI, 12, .inl (upd (fun _ => 0) (Int32.toNatClampNeg 0) p0))), (p_locals, .inl (cyI, 12, .inl (upd (fun _ => 0) (Int32.toNatClampNeg 0) p1))), (p_starts, .inl (cyI, 12, .inl (fun _ => 0))), (p_lengths, .inl (cyI, 12, .inl (fun _ => 0)))] := hD
  refine lv_aload_n hx hb dX6_addFunc_53 rfl (lv_at hl 0 rfl) ?_
  refine va_get (D := (dC, dI)) (ci := 5) (v := .int 1) (C := RX6) (T := TX6) (N := 10) hx hb hts hiX6 hown hK hP 0 rfl rfl 7 (by decide) (hts (.fieldLink RX6 33 "RegisterMill$Program" "funcs" "I") (by decide +kernel)) (fun _ h9 => h9) rfl dX6_addFunc_54 ?_
  refine lv_iconst (v := 1) hx hb dX6_addFunc_57 (by decide) ?_
  refine lv_isub hx hb dX6_addFunc_58 ?_
  refine W.eq (g2 := F0 m 59 ls [.int 0]) (by first | rfl | exact congrArg (fun z => F0 m 59 ls (.int z :: _)) (by decide)) ?_
  have h9 : (0 : Int32) = 0 := rfl
  exact W.iret (v := (0)) hx hb hr (fun t ht hW => ⟨⟨_, (), rfl, h9, trivial⟩, hS.F ht⟩) hS.2.2 dX6_addFunc_59

def wq_X6_empty : List Cond := .code yX6_empty cX6_empty 1 none :: ([.fieldLink RX6 33 "RegisterMill$Program" "funcs" "I", .fieldLink RX6 37 "RegisterMill$Program" "words" "I", .fieldLink RX6 40 "RegisterMill$Program" "checked" "Z"] ++ wsX60)
set_option maxHeartbeats 4000000 in
set_option maxRecDepth 100000 in
/-- empty: a fresh program stays as it is -/
theorem c_X6_empty (l : Launch) (dC : Nat → ClassId) (dI : Nat → Nat → Nat) (cyI : ClassId) (sz : Nat) (pr : Nat) (p_args : Nat) (p_locals : Nat) (p_starts : Nat) (p_lengths : Nat) (p_ops : Nat) (p_numbers : Nat) (p_depths : Nat) : Met l yX6_empty wq_X6_empty ({ frames := 0, cells := 0, slots := 0, locals := 0 }) (va_Pc [.ref pr] (pz_pre dC dI [(cyI, .int)] [(pr, .inr (5, [.ref p_args, .ref p_locals, .ref p_starts, .ref p_lengths, .ref p_ops, .ref p_numbers, .ref p_depths, .int 0, .int 0, .int 0]))] sz)) (va_Qv (S := Unit) (fun _ => True) (fun _ t => pz_B dC dI [(cyI, .int)] (va_A [(pr, .inr (5, [.ref p_args, .ref p_locals, .ref p_starts, .ref p_lengths, .ref p_ops, .ref p_numbers, .ref p_depths, .int 0, .int 0, .int 0]))] sz) [(pr, .inr (5, [.ref p_args, .ref p_locals, .ref p_starts, .ref p_lengths, .ref p_ops, .ref p_numbers, .ref p_depths, .int 0, .int 0, .int 0]))] t) (va_A [(pr, .inr (5, [.ref p_args, .ref p_locals, .ref p_starts, .ref p_lengths, .ref p_ops, .ref p_numbers, .ref p_depths, .int 0, .int 0, .int 0]))] sz)) 0 0 (va_A [(pr, .inr (5, [.ref p_args, .ref p_locals, .ref p_starts, .ref p_lengths, .ref p_ops, .ref p_numbers, .ref p_depths, .int 0, .int 0, .int 0]))] sz) := by
  refine Met.ofW (cc := cX6_empty) (maxL := 1) (ret := none) (by decide) rfl ?_
  intro p e s m args below meth c s₁ B hml hv
  obtain ⟨rfl, hsz, hP, hK, hD0, hNW⟩ := hv
  have hx := B.exec
  have hb := B.bytes
  have hr := B.returns
  have hts := atoms_spec (ws := wq_X6_empty) B.pre
  have hown : s.vm.findClass RX6 = some m.cls := findClass_of_methodNamed B.named
  have hlocks := B.notSynchronized
  have hiX6 : ∀ w ∈ wsX60, w ∈ wq_X6_empty := by decide +kernel
  subst hsz
  have hD := hD0.self (sz := s.heap.size)
  generalize hAe : va_A [(pr, .inr (5, [.ref p_args, .ref p_locals, .ref p_starts, .ref p_lengths, .ref p_ops, .ref p_numbers, .ref p_depths, .int 0, .int 0, .int 0]))] s.heap.size = A at hD ⊢
  have hA : ∀ q : Nat, s.heap.size ≤ q → A q := fun q h => by rw [← hAe]; exact Or.inr h
  have hS : va_S A s.heap s.heap [] := va_S.rf
  have hl := lv_entry ([.ref pr]) (n := 1) (Nat.le_of_ble_eq_true rfl)
  rw [lg_entry_eq]
  generalize (lg_sl ([.ref pr]) ++ List.replicate (1 - (lg_sl ([.ref pr])).length) Slot.unset).toArray = ls at hl ⊢
  have hl : lv_has ls 1 [(0, .ref pr)] := hl
  refine lv_aload_n hx hb dX6_empty_0 rfl (lv_at hl 0 rfl) ?_
  refine lv_iconst (v := 0) hx hb dX6_empty_1 (by decide) ?_
  refine va_put (D := (dC, dI)) (ci := 5) (v := .int 0) (ty := .int) (C := RX6) (T := TX6) (N := 10) hx hb hts hiX6 tyX6 tyX6_ok nmX6 hown hK hP hD hS 0 rfl rfl 7 (by decide) (hts (.fieldLink RX6 33 "RegisterMill$Program" "funcs" "I") (by decide +kernel)) (fun _ h9 => h9) rfl (by decide +kernel) rfl rfl (Nat.le_of_ble_eq_true rfl) dX6_empty_2 (fun H locs hP hD hS => ?_)
  have hP : va_P (dC, dI) vwCl [(pr, .inr (5, [.ref p_args, .ref p_locals, .ref p_starts, .ref p_lengths, .ref p_ops, .ref p_numbers, .ref p_depths, .int 0, .int 0, .int 0]))] H := hP
  have hD : va_D A [(pr, .inr (5, [.ref p_args, .ref p_locals, .ref p_starts, .ref p_lengths, .ref p_ops, .ref p_numbers, .ref p_depths, .int 0, .int 0, .int 0]))] := hD
  refine lv_aload_n hx hb dX6_empty_5 rfl (lv_at hl 0 rfl) ?_
  refine lv_iconst (v := 0) hx hb dX6_empty_6 (by decide) ?_
  refine va_put (D := (dC, dI)) (ci := 5) (v := .int 0) (ty := .int) (C := RX6) (T := TX6) (N := 10) hx hb hts hiX6 tyX6 tyX6_ok nmX6 hown hK hP hD hS 0 rfl rfl 8 (by decide) (hts (.fieldLink RX6 37 "RegisterMill$Program" "words" "I") (by decide +kernel)) (fun _ h9 => h9) rfl (by decide +kernel) rfl rfl (Nat.le_of_ble_eq_true rfl) dX6_empty_7 (fun H locs hP hD hS => ?_)
  have hP : va_P (dC, dI) vwCl [(pr, .inr (5, [.ref p_args, .ref p_locals, .ref p_starts, .ref p_lengths, .ref p_ops, .ref p_numbers, .ref p_depths, .int 0, .int 0, .int 0]))] H := hP
  have hD : va_D A [(pr, .inr (5, [.ref p_args, .ref p_locals, .ref p_starts, .ref p_lengths, .ref p_ops, .ref p_numbers, .ref p_depths, .int 0, .int 0, .int 0]))] := hD
  refine lv_aload_n hx hb dX6_empty_10 rfl (lv_at hl 0 rfl) ?_
  refine lv_iconst (v := 0) hx hb dX6_empty_11 (by decide) ?_
  refine va_put (D := (dC, dI)) (ci := 5) (v := .int 0) (ty := .boolean) (C := RX6) (T := TX6) (N := 10) hx hb hts hiX6 tyX6 tyX6_ok nmX6 hown hK hP hD hS 0 rfl rfl 9 (by decide) (hts (.fieldLink RX6 40 "RegisterMill$Program" "checked" "Z") (by decide +kernel)) (fun _ h9 => h9) rfl (by decide +kernel) (by decide) (by decide) (Nat.le_of_ble_eq_true rfl) dX6_empty_12 (fun H locs hP hD hS => ?_)
  have hP : va_P (dC, dI) vwCl [(pr, .inr (5, [.ref p_args, .ref p_locals, .ref p_starts, .ref p_lengths, .ref p_ops, .ref p_numbers, .ref p_depths, .int 0, .int 0, .int 0]))] H := hP
  have hD : va_D A [(pr, .inr (5, [.ref p_args, .ref p_locals, .ref p_starts, .ref p_lengths, .ref p_ops, .ref p_numbers, .ref p_depths, .int 0, .int 0, .int 0]))] := hD
  have hP9 := hP.sub (ws' := [(pr, .inr (5, [.ref p_args, .ref p_locals, .ref p_starts, .ref p_lengths, .ref p_ops, .ref p_numbers, .ref p_depths, .int 0, .int 0, .int 0]))]) [0] rfl
  have hD9 := hD.sub (ws' := [(pr, .inr (5, [.ref p_args, .ref p_locals, .ref p_starts, .ref p_lengths, .ref p_ops, .ref p_numbers, .ref p_depths, .int 0, .int 0, .int 0]))]) [0] (by decide) rfl
  exact W.vret hx hb hr (fun t ht hW => ⟨⟨(), rfl, trivial, pz_Bof hP9 hK hD9 ht hW⟩, hS.F ht⟩) hS.2.2 dX6_empty_15

def wq_X0_firstFault : List Cond := .code yX0_firstFault cX0_firstFault 3 (some .int) :: ([.fieldLink RX0 15 "RegisterMill$Checker" "program" "LRegisterMill$Program;", .fieldLink RX0 19 "RegisterMill$Program" "funcs" "I"] ++ wsX00 ++ wsX60)
set_option maxHeartbeats 4000000 in
set_option maxRecDepth 100000 in
/-- no FUNC -/
theorem c_X0_firstFault (l : Launch) (dC : Nat → ClassId) (dI : Nat → Nat → Nat) (cyI : ClassId) (sz : Nat) (ck : Nat) (pr : Nat) (k_passed : Nat) (p_args : Nat) (p_locals : Nat) (p_starts : Nat) (p_lengths : Nat) (p_ops : Nat) (p_numbers : Nat) (p_depths : Nat) : Met l yX0_firstFault wq_X0_firstFault ({ frames := 0, cells := 0, slots := 0, locals := 0 }) (va_Pc [.ref ck] (pz_pre dC dI [(cyI, .int)] [(ck, .inr (0, [.ref pr, .ref k_passed, .int 0])), (pr, .inr (5, [.ref p_args, .ref p_locals, .ref p_starts, .ref p_lengths, .ref p_ops, .ref p_numbers, .ref p_depths, .int 0, .int 0, .int 0]))] sz)) (va_Qi (S := Unit) (fun (r : Int32) _ => r = 7) (fun _ t => pz_B dC dI [(cyI, .int)] (va_A [(ck, .inr (0, [.ref pr, .ref k_passed, .int 0])), (pr, .inr (5, [.ref p_args, .ref p_locals, .ref p_starts, .ref p_lengths, .ref p_ops, .ref p_numbers, .ref p_depths, .int 0, .int 0, .int 0]))] sz) [(ck, .inr (0, [.ref pr, .ref k_passed, .int 0])), (pr, .inr (5, [.ref p_args, .ref p_locals, .ref p_starts, .ref p_lengths, .ref p_ops, .ref p_numbers, .ref p_depths, .int 0, .int 0, .int 0]))] t) (va_A [(ck, .inr (0, [.ref pr, .ref k_passed, .int 0])), (pr, .inr (5, [.ref p_args, .ref p_locals, .ref p_starts, .ref p_lengths, .ref p_ops, .ref p_numbers, .ref p_depths, .int 0, .int 0, .int 0]))] sz)) 0 0 (va_A [(ck, .inr (0, [.ref pr, .ref k_passed, .int 0])), (pr, .inr (5, [.ref p_args, .ref p_locals, .ref p_starts, .ref p_lengths, .ref p_ops, .ref p_numbers, .ref p_depths, .int 0, .int 0, .int 0]))] sz) := by
  refine Met.ofW (cc := cX0_firstFault) (maxL := 3) (ret := (some .int)) (by decide) rfl ?_
  intro p e s m args below meth c s₁ B hml hv
  obtain ⟨rfl, hsz, hP, hK, hD0, hNW⟩ := hv
  have hx := B.exec
  have hb := B.bytes
  have hr := B.returns
  have hts := atoms_spec (ws := wq_X0_firstFault) B.pre
  have hown : s.vm.findClass RX0 = some m.cls := findClass_of_methodNamed B.named
  have hlocks := B.notSynchronized
  have hiX0 : ∀ w ∈ wsX00, w ∈ wq_X0_firstFault := by decide +kernel
  have hiX6 : ∀ w ∈ wsX60, w ∈ wq_X0_firstFault := by decide +kernel
  subst hsz
  have hD := hD0.self (sz := s.heap.size)
  generalize hAe : va_A [(ck, .inr (0, [.ref pr, .ref k_passed, .int 0])), (pr, .inr (5, [.ref p_args, .ref p_locals, .ref p_starts, .ref p_lengths, .ref p_ops, .ref p_numbers, .ref p_depths, .int 0, .int 0, .int 0]))] s.heap.size = A at hD ⊢
  have hA : ∀ q : Nat, s.heap.size ≤ q → A q := fun q h => by rw [← hAe]; exact Or.inr h
  have hS : va_S A s.heap s.heap [] := va_S.rf
  have hl := lv_entry ([.ref ck]) (n := 3) (Nat.le_of_ble_eq_true rfl)
  rw [lg_entry_eq]
  generalize (lg_sl ([.ref ck]) ++ List.replicate (3 - (lg_sl ([.ref ck])).length) Slot.unset).toArray = ls at hl ⊢
  have hl : lv_has ls 3 [(0, .ref ck)] := hl
  refine lv_aload_n hx hb dX0_firstFault_0 rfl (lv_at hl 0 rfl) ?_
  refine va_get (D := (dC, dI)) (ci := 0) (v := .ref pr) (C := RX0) (T := TX0) (N := 3) hx hb hts hiX0 hown hK hP 0 rfl rfl 0 (by decide) (hts (.fieldLink RX0 15 "RegisterMill$Checker" "program" "LRegisterMill$Program;") (by decide +kernel)) (fun _ h9 => h9) rfl dX0_firstFault_1 ?_
  refine va_get (D := (dC, dI)) (ci := 5) (v := .int 0) (C := RX6) (T := TX6) (N := 10) hx hb hts hiX6 hown hK hP 1 rfl rfl 7 (by decide) (hts (.fieldLink RX0 19 "RegisterMill$Program" "funcs" "I") (by decide +kernel)) (fun _ h9 => h9) rfl dX0_firstFault_4 ?_
  refine lv_if_ne (tgt := 13) hx hb dX0_firstFault_7 (by decide) (fun h => absurd h (by decide)) (fun _ => ?_)
  refine lv_bipush (v := 7) hx hb dX0_firstFault_10 (by decide) ?_
  have hP9 := hP.sub (ws' := [(ck, .inr (0, [.ref pr, .ref k_passed, .int 0])), (pr, .inr (5, [.ref p_args, .ref p_locals, .ref p_starts, .ref p_lengths, .ref p_ops, .ref p_numbers, .ref p_depths, .int 0, .int 0, .int 0]))]) [0, 1] rfl
  have hD9 := hD.sub (ws' := [(ck, .inr (0, [.ref pr, .ref k_passed, .int 0])), (pr, .inr (5, [.ref p_args, .ref p_locals, .ref p_starts, .ref p_lengths, .ref p_ops, .ref p_numbers, .ref p_depths, .int 0, .int 0, .int 0]))]) [0, 1] (by decide) rfl
  have h9 : (7 : Int32) = 7 := rfl
  exact W.iret (v := (7)) hx hb hr (fun t ht hW => ⟨⟨_, (), rfl, h9, pz_Bof hP9 hK hD9 ht hW⟩, hS.F ht⟩) hS.2.2 dX0_firstFault_12

def wq_J7_fill_53178_64 : List Cond := .code yJ7_fill_53178 cJ7_fill_53178 4 none :: ([])
set_option maxHeartbeats 4000000 in
set_option maxRecDepth 100000 in
theorem lp_J7_fill_53178_64_5 {p : Program} {l : Launch} {e : Env} {R : Room} {s : State} {m : MethodId} {args : Array Value} {below : List Frame} {meth : Method} {c : Code} {cells slots : Nat} {Q : State → Prop} {A : Nat → Prop} {dC : Nat → ClassId} {dI : Nat → Nat → Nat} {cyI : ClassId} {a0 : Nat}
    (hx : p.tables.exec = Jvm.exec) (hb : c.code = cJ7_fill_53178) (hown : s.vm.findClass RJ7 = some m.cls) (hts : ∀ w ∈ wq_J7_fill_53178_64, w.before args s = true) (hK : va_K (dC, dI) vwCl [(cyI, .int)] s)
    (hexit : ∀ (H : Heap) (locs : List Loc), va_P (dC, dI) vwCl [(a0, .inl (cyI, 64, .inl (fun _ => 0)))] H → va_D A [(a0, .inl (cyI, 64, .inl (fun _ => 0)))] → va_S A s.heap H locs → ∀ ls : Array Slot, lv_has ls 4 [(0, .ref a0), (1, .int 0), (3, .int 64)] → W p l e R s m args below meth c H locs cells slots Q (F0 m 20 ls [])) :
    ∀ (k j : Nat), j ≤ 64 → 64 < j + k → ∀ (H : Heap) (locs : List Loc), va_P (dC, dI) vwCl [(a0, .inl (cyI, 64, .inl (fun _ => 0)))] H → va_D A [(a0, .inl (cyI, 64, .inl (fun _ => 0)))] → va_S A s.heap H locs → ∀ ls : Array Slot, lv_has ls 4 [(0, .ref a0), (1, .int 0), (2, .int (nI j)), (3, .int 64)] → W p l e R s m args below meth c H locs cells slots Q (F0 m 5 ls []) := by
  intro k
  induction k with
  | zero => intro j h1 h2; omega
  | succ k ih =>
    intro j hj hjk H locs hP hD hS ls hl
    refine lv_iload_n hx hb dJ7_fill_53178_5 rfl (lv_at hl 2 rfl) ?_
    refine lv_iload_n hx hb dJ7_fill_53178_6 rfl (lv_at hl 3 rfl) ?_
    refine lv_icmp_ge (tgt := 20) hx hb dJ7_fill_53178_7 (by decide) (fun h => ?_) (fun h => ?_)
    · exact hexit _ _ hP hD hS ls (lv_sub hl [0, 1, 3] rfl)
    · have hlt : j < 64 := Nat.lt_of_not_le fun q => h (nI_le q (by omega))
      refine lv_aload_n hx hb dJ7_fill_53178_10 rfl (lv_at hl 0 rfl) ?_
      refine lv_iload_n hx hb dJ7_fill_53178_11 rfl (lv_at hl 2 rfl) ?_
      refine lv_iload_n hx hb dJ7_fill_53178_12 rfl (lv_at hl 1 rfl) ?_
      refine va_iast hx hb hK hP hD hS 0 0 rfl rfl (vp_in_nI (by omega) (by decide)) dJ7_fill_53178_13 (fun H locs hP hD hS => ?_)
      rw [pz_up0] at hP hD
      have hP : va_P (dC, dI) vwCl [(a0, .inl (cyI, 64, .inl (fun _ => 0)))] H := hP
      have hD : va_D A [(a0, .inl (cyI, 64, .inl (fun _ => 0)))] := hD
      refine lv_iinc (v := nI (j + 1)) (lv' := [(2, .int (nI (j + 1))), (0, .ref a0), (1, .int 0), (3, .int 64)]) hx hb dJ7_fill_53178_14 hl (k := 2) rfl (nI_1 j) (by decide) rfl (fun ls hl => ?_)
      refine lv_goto (tgt := 5) hx hb dJ7_fill_53178_17 (by decide) ?_
      exact ih (j + 1) (by omega) (by omega) _ _ hP hD hS ls (lv_sub hl [1, 2, 0, 3] rfl)
set_option maxHeartbeats 4000000 in
set_option maxRecDepth 100000 in
/-- Arrays.fill(row, 0) over a row of zeros -/
theorem c_J7_fill_53178_64 (l : Launch) (dC : Nat → ClassId) (dI : Nat → Nat → Nat) (cyI : ClassId) (sz : Nat) (a0 : Nat) : Met l yJ7_fill_53178 wq_J7_fill_53178_64 ({ frames := 0, cells := 0, slots := 0, locals := 0 }) (va_Pc [.ref a0, .int 0] (pz_pre dC dI [(cyI, .int)] [(a0, .inl (cyI, 64, .inl (fun _ => 0)))] sz)) (va_Qv (S := Unit) (fun _ => True) (fun _ t => pz_B dC dI [(cyI, .int)] (va_A [(a0, .inl (cyI, 64, .inl (fun _ => 0)))] sz) [(a0, .inl (cyI, 64, .inl (fun _ => 0)))] t) (va_A [(a0, .inl (cyI, 64, .inl (fun _ => 0)))] sz)) 0 0 (va_A [(a0, .inl (cyI, 64, .inl (fun _ => 0)))] sz) := by
  refine Met.ofW (cc := cJ7_fill_53178) (maxL := 4) (ret := none) (by decide) rfl ?_
  intro p e s m args below meth c s₁ B hml hv
  obtain ⟨rfl, hsz, hP, hK, hD0, hNW⟩ := hv
  have hx := B.exec
  have hb := B.bytes
  have hr := B.returns
  have hts := atoms_spec (ws := wq_J7_fill_53178_64) B.pre
  have hown : s.vm.findClass RJ7 = some m.cls := findClass_of_methodNamed B.named
  have hlocks := B.notSynchronized
  subst hsz
  have hD := hD0.self (sz := s.heap.size)
  generalize hAe : va_A [(a0, .inl (cyI, 64, .inl (fun _ => 0)))] s.heap.size = A at hD ⊢
  have hA : ∀ q : Nat, s.heap.size ≤ q → A q := fun q h => by rw [← hAe]; exact Or.inr h
  have hS : va_S A s.heap s.heap [] := va_S.rf
  have hl := lv_entry ([.ref a0, .int 0]) (n := 4) (Nat.le_of_ble_eq_true rfl)
  rw [lg_entry_eq]
  generalize (lg_sl ([.ref a0, .int 0]) ++ List.replicate (4 - (lg_sl ([.ref a0, .int 0])).length) Slot.unset).toArray = ls at hl ⊢
  have hl : lv_has ls 4 [(0, .ref a0), (1, .int 0)] := hl
  refine lv_iconst (v := 0) hx hb dJ7_fill_53178_0 (by decide) ?_
  refine lv_istore_n (lv' := [(2, .int 0), (0, .ref a0), (1, .int 0)]) hx hb dJ7_fill_53178_1 rfl hl (by decide) rfl (fun ls hl => ?_)
  refine lv_aload_n hx hb dJ7_fill_53178_2 rfl (lv_at hl 1 rfl) ?_
  refine va_alen (v := 64) hx hb hK hP 0 0 rfl rfl (by decide) dJ7_fill_53178_3 ?_
  refine lv_istore_n (lv' := [(3, .int 64), (2, .int 0), (0, .ref a0), (1, .int 0)]) hx hb dJ7_fill_53178_4 rfl hl (by decide) rfl (fun ls hl => ?_)
  refine lp_J7_fill_53178_64_5 hx hb hown hts hK (fun H locs hP hD hS ls hl => ?_) 65 0 (by decide) (by decide) _ _ hP hD hS ls (by rw [nI_0]; exact lv_sub hl [2, 3, 1, 0] rfl)
  have hP9 := hP.sub (ws' := [(a0, .inl (cyI, 64, .inl (fun _ => 0)))]) [0] rfl
  have hD9 := hD.sub (ws' := [(a0, .inl (cyI, 64, .inl (fun _ => 0)))]) [0] (by decide) rfl
  exact W.vret hx hb hr (fun t ht hW => ⟨⟨(), rfl, trivial, pz_Bof hP9 hK hD9 ht hW⟩, hS.F ht⟩) hS.2.2 dJ7_fill_53178_20

def wq_J7_fill_53178_6 : List Cond := .code yJ7_fill_53178 cJ7_fill_53178 4 none :: ([])
set_option maxHeartbeats 4000000 in
set_option maxRecDepth 100000 in
theorem lp_J7_fill_53178_6_5 {p : Program} {l : Launch} {e : Env} {R : Room} {s : State} {m : MethodId} {args : Array Value} {below : List Frame} {meth : Method} {c : Code} {cells slots : Nat} {Q : State → Prop} {A : Nat → Prop} {dC : Nat → ClassId} {dI : Nat → Nat → Nat} {cyI : ClassId} {a0 : Nat}
    (hx : p.tables.exec = Jvm.exec) (hb : c.code = cJ7_fill_53178) (hown : s.vm.findClass RJ7 = some m.cls) (hts : ∀ w ∈ wq_J7_fill_53178_6, w.before args s = true) (hK : va_K (dC, dI) vwCl [(cyI, .int)] s)
    (hexit : ∀ (H : Heap) (locs : List Loc), va_P (dC, dI) vwCl [(a0, .inl (cyI, 6, .inl (fun _ => 0)))] H → va_D A [(a0, .inl (cyI, 6, .inl (fun _ => 0)))] → va_S A s.heap H locs → ∀ ls : Array Slot, lv_has ls 4 [(0, .ref a0), (1, .int 0), (3, .int 6)] → W p l e R s m args below meth c H locs cells slots Q (F0 m 20 ls [])) :
    ∀ (k j : Nat), j ≤ 6 → 6 < j + k → ∀ (H : Heap) (locs : List Loc), va_P (dC, dI) vwCl [(a0, .inl (cyI, 6, .inl (fun _ => 0)))] H → va_D A [(a0, .inl (cyI, 6, .inl (fun _ => 0)))] → va_S A s.heap H locs → ∀ ls : Array Slot, lv_has ls 4 [(0, .ref a0), (1, .int 0), (2, .int (nI j)), (3, .int 6)] → W p l e R s m args below meth c H locs cells slots Q (F0 m 5 ls []) := by
  intro k
  induction k with
  | zero => intro j h1 h2; omega
  | succ k ih =>
    intro j hj hjk H locs hP hD hS ls hl
    refine lv_iload_n hx hb dJ7_fill_53178_5 rfl (lv_at hl 2 rfl) ?_
    refine lv_iload_n hx hb dJ7_fill_53178_6 rfl (lv_at hl 3 rfl) ?_
    refine lv_icmp_ge (tgt := 20) hx hb dJ7_fill_53178_7 (by decide) (fun h => ?_) (fun h => ?_)
    · exact hexit _ _ hP hD hS ls (lv_sub hl [0, 1, 3] rfl)
    · have hlt : j < 6 := Nat.lt_of_not_le fun q => h (nI_le q (by omega))
      refine lv_aload_n hx hb dJ7_fill_53178_10 rfl (lv_at hl 0 rfl) ?_
      refine lv_iload_n hx hb dJ7_fill_53178_11 rfl (lv_at hl 2 rfl) ?_
      refine lv_iload_n hx hb dJ7_fill_53178_12 rfl (lv_at hl 1 rfl) ?_
      refine va_iast hx hb hK hP hD hS 0 0 rfl rfl (vp_in_nI (by omega) (by decide)) dJ7_fill_53178_13 (fun H locs hP hD hS => ?_)
      rw [pz_up0] at hP hD
      have hP : va_P (dC, dI) vwCl [(a0, .inl (cyI, 6, .inl (fun _ => 0)))] H := hP
      have hD : va_D A [(a0, .inl (cyI, 6, .inl (fun _ => 0)))] := hD
      refine lv_iinc (v := nI (j + 1)) (lv' := [(2, .int (nI (j + 1))), (0, .ref a0), (1, .int 0), (3, .int 6)]) hx hb dJ7_fill_53178_14 hl (k := 2) rfl (nI_1 j) (by decide) rfl (fun ls hl => ?_)
      refine lv_goto (tgt := 5) hx hb dJ7_fill_53178_17 (by decide) ?_
      exact ih (j + 1) (by omega) (by omega) _ _ hP hD hS ls (lv_sub hl [1, 2, 0, 3] rfl)
set_option maxHeartbeats 4000000 in
set_option maxRecDepth 100000 in
/-- Arrays.fill(row, 0) over a row of zeros -/
theorem c_J7_fill_53178_6 (l : Launch) (dC : Nat → ClassId) (dI : Nat → Nat → Nat) (cyI : ClassId) (sz : Nat) (a0 : Nat) : Met l yJ7_fill_53178 wq_J7_fill_53178_6 ({ frames := 0, cells := 0, slots := 0, locals := 0 }) (va_Pc [.ref a0, .int 0] (pz_pre dC dI [(cyI, .int)] [(a0, .inl (cyI, 6, .inl (fun _ => 0)))] sz)) (va_Qv (S := Unit) (fun _ => True) (fun _ t => pz_B dC dI [(cyI, .int)] (va_A [(a0, .inl (cyI, 6, .inl (fun _ => 0)))] sz) [(a0, .inl (cyI, 6, .inl (fun _ => 0)))] t) (va_A [(a0, .inl (cyI, 6, .inl (fun _ => 0)))] sz)) 0 0 (va_A [(a0, .inl (cyI, 6, .inl (fun _ => 0)))] sz) := by
  refine Met.ofW (cc := cJ7_fill_53178) (maxL := 4) (ret := none) (by decide) rfl ?_
  intro p e s m args below meth c s₁ B hml hv
  obtain ⟨rfl, hsz, hP, hK, hD0, hNW⟩ := hv
  have hx := B.exec
  have hb := B.bytes
  have hr := B.returns
  have hts := atoms_spec (ws := wq_J7_fill_53178_6) B.pre
  have hown : s.vm.findClass RJ7 = some m.cls := findClass_of_methodNamed B.named
  have hlocks := B.notSynchronized
  subst hsz
  have hD := hD0.self (sz := s.heap.size)
  generalize hAe : va_A [(a0, .inl (cyI, 6, .inl (fun _ => 0)))] s.heap.size = A at hD ⊢
  have hA : ∀ q : Nat, s.heap.size ≤ q → A q := fun q h => by rw [← hAe]; exact Or.inr h
  have hS : va_S A s.heap s.heap [] := va_S.rf
  have hl := lv_entry ([.ref a0, .int 0]) (n := 4) (Nat.le_of_ble_eq_true rfl)
  rw [lg_entry_eq]
  generalize (lg_sl ([.ref a0, .int 0]) ++ List.replicate (4 - (lg_sl ([.ref a0, .int 0])).length) Slot.unset).toArray = ls at hl ⊢
  have hl : lv_has ls 4 [(0, .ref a0), (1, .int 0)] := hl
  refine lv_iconst (v := 0) hx hb dJ7_fill_53178_0 (by decide) ?_
  refine lv_istore_n (lv' := [(2, .int 0), (0, .ref a0), (1, .int 0)]) hx hb dJ7_fill_53178_1 rfl hl (by decide) rfl (fun ls hl => ?_)
  refine lv_aload_n hx hb dJ7_fill_53178_2 rfl (lv_at hl 1 rfl) ?_
  refine va_alen (v := 6) hx hb hK hP 0 0 rfl rfl (by decide) dJ7_fill_53178_3 ?_
  refine lv_istore_n (lv' := [(3, .int 6), (2, .int 0), (0, .ref a0), (1, .int 0)]) hx hb dJ7_fill_53178_4 rfl hl (by decide) rfl (fun ls hl => ?_)
  refine lp_J7_fill_53178_6_5 hx hb hown hts hK (fun H locs hP hD hS ls hl => ?_) 7 0 (by decide) (by decide) _ _ hP hD hS ls (by rw [nI_0]; exact lv_sub hl [2, 3, 1, 0] rfl)
  have hP9 := hP.sub (ws' := [(a0, .inl (cyI, 6, .inl (fun _ => 0)))]) [0] rfl
  have hD9 := hD.sub (ws' := [(a0, .inl (cyI, 6, .inl (fun _ => 0)))]) [0] (by decide) rfl
  exact W.vret hx hb hr (fun t ht hW => ⟨⟨(), rfl, trivial, pz_Bof hP9 hK hD9 ht hW⟩, hS.F ht⟩) hS.2.2 dJ7_fill_53178_20

def wq_X4_begin_X8 : List Cond := .code yX4_begin cX4_begin 1 none :: ([.fieldLink RX4 21 "RegisterMill$Machine" "end" "I", .fieldLink RX4 25 "RegisterMill$Machine" "told" "I", .fieldLink RX4 28 "RegisterMill$Machine" "steps" "I", .fieldLink RX4 31 "RegisterMill$Machine" "calls" "I", .fieldLink RX4 34 "RegisterMill$Machine" "nested" "I"] ++ wsX80)
set_option maxHeartbeats 4000000 in
set_option maxRecDepth 100000 in
/-- begin: a fresh machine stays as it is -/
theorem c_X4_begin_X8 (l : Launch) (dC : Nat → ClassId) (dI : Nat → Nat → Nat) (cyI : ClassId) (sz : Nat) (sm : Nat) (s_memory : Nat) (s_funcs : Nat) (s_nexts : Nat) (pr : Nat) (s_locals : Nat) (s_stack : Nat) (s_bottoms : Nat) : Met l yX4_begin wq_X4_begin_X8 ({ frames := 0, cells := 0, slots := 0, locals := 0 }) (va_Pc [.ref sm] (pz_pre dC dI [(cyI, .int)] [(sm, .inr (7, [.ref s_memory, .ref s_funcs, .ref s_nexts, .int 0, .int 0, .int 0, .int 0, .int 0, .ref pr, .ref s_locals, .ref s_stack, .ref s_bottoms, .int 0]))] sz)) (va_Qv (S := Unit) (fun _ => True) (fun _ t => pz_B dC dI [(cyI, .int)] (va_A [(sm, .inr (7, [.ref s_memory, .ref s_funcs, .ref s_nexts, .int 0, .int 0, .int 0, .int 0, .int 0, .ref pr, .ref s_locals, .ref s_stack, .ref s_bottoms, .int 0]))] sz) [(sm, .inr (7, [.ref s_memory, .ref s_funcs, .ref s_nexts, .int 0, .int 0, .int 0, .int 0, .int 0, .ref pr, .ref s_locals, .ref s_stack, .ref s_bottoms, .int 0]))] t) (va_A [(sm, .inr (7, [.ref s_memory, .ref s_funcs, .ref s_nexts, .int 0, .int 0, .int 0, .int 0, .int 0, .ref pr, .ref s_locals, .ref s_stack, .ref s_bottoms, .int 0]))] sz)) 0 0 (va_A [(sm, .inr (7, [.ref s_memory, .ref s_funcs, .ref s_nexts, .int 0, .int 0, .int 0, .int 0, .int 0, .ref pr, .ref s_locals, .ref s_stack, .ref s_bottoms, .int 0]))] sz) := by
  refine Met.ofW (cc := cX4_begin) (maxL := 1) (ret := none) (by decide) rfl ?_
  intro p e s m args below meth c s₁ B hml hv
  obtain ⟨rfl, hsz, hP, hK, hD0, hNW⟩ := hv
  have hx := B.exec
  have hb := B.bytes
  have hr := B.returns
  have hts := atoms_spec (ws := wq_X4_begin_X8) B.pre
  have hown : s.vm.findClass RX4 = some m.cls := findClass_of_methodNamed B.named
  have hlocks := B.notSynchronized
  have hiX8 : ∀ w ∈ wsX80, w ∈ wq_X4_begin_X8 := by decide +kernel
  subst hsz
  have hD := hD0.self (sz := s.heap.size)
  generalize hAe : va_A [(sm, .inr (7, [.ref s_memory, .ref s_funcs, .ref s_nexts, .int 0, .int 0, .int 0, .int 0, .int 0, .ref pr, .ref s_locals, .ref s_stack, .ref s_bottoms, .int 0]))] s.heap.size = A at hD ⊢
  have hA : ∀ q : Nat, s.heap.size ≤ q → A q := fun q h => by rw [← hAe]; exact Or.inr h
  have hS : va_S A s.heap s.heap [] := va_S.rf
  have hl := lv_entry ([.ref sm]) (n := 1) (Nat.le_of_ble_eq_true rfl)
  rw [lg_entry_eq]
  generalize (lg_sl ([.ref sm]) ++ List.replicate (1 - (lg_sl ([.ref sm])).length) Slot.unset).toArray = ls at hl ⊢
  have hl : lv_has ls 1 [(0, .ref sm)] := hl
  refine lv_aload_n hx hb dX4_begin_0 rfl (lv_at hl 0 rfl) ?_
  refine lv_iconst (v := 0) hx hb dX4_begin_1 (by decide) ?_
  refine va_put (D := (dC, dI)) (ci := 7) (v := .int 0) (ty := .int) (C := RX8) (T := TX8) (N := 13) hx hb hts hiX8 tyX8 tyX8_ok nmX8 hown hK hP hD hS 0 rfl rfl 3 (by decide) (hts (.fieldLink RX4 21 "RegisterMill$Machine" "end" "I") (by decide +kernel)) (fun _ h9 => h9) rfl (by decide +kernel) rfl rfl (Nat.le_of_ble_eq_true rfl) dX4_begin_2 (fun H locs hP hD hS => ?_)
  have hP : va_P (dC, dI) vwCl [(sm, .inr (7, [.ref s_memory, .ref s_funcs, .ref s_nexts, .int 0, .int 0, .int 0, .int 0, .int 0, .ref pr, .ref s_locals, .ref s_stack, .ref s_bottoms, .int 0]))] H := hP
  have hD : va_D A [(sm, .inr (7, [.ref s_memory, .ref s_funcs, .ref s_nexts, .int 0, .int 0, .int 0, .int 0, .int 0, .ref pr, .ref s_locals, .ref s_stack, .ref s_bottoms, .int 0]))] := hD
  refine lv_aload_n hx hb dX4_begin_5 rfl (lv_at hl 0 rfl) ?_
  refine lv_iconst (v := 0) hx hb dX4_begin_6 (by decide) ?_
  refine va_put (D := (dC, dI)) (ci := 7) (v := .int 0) (ty := .int) (C := RX8) (T := TX8) (N := 13) hx hb hts hiX8 tyX8 tyX8_ok nmX8 hown hK hP hD hS 0 rfl rfl 4 (by decide) (hts (.fieldLink RX4 25 "RegisterMill$Machine" "told" "I") (by decide +kernel)) (fun _ h9 => h9) rfl (by decide +kernel) rfl rfl (Nat.le_of_ble_eq_true rfl) dX4_begin_7 (fun H locs hP hD hS => ?_)
  have hP : va_P (dC, dI) vwCl [(sm, .inr (7, [.ref s_memory, .ref s_funcs, .ref s_nexts, .int 0, .int 0, .int 0, .int 0, .int 0, .ref pr, .ref s_locals, .ref s_stack, .ref s_bottoms, .int 0]))] H := hP
  have hD : va_D A [(sm, .inr (7, [.ref s_memory, .ref s_funcs, .ref s_nexts, .int 0, .int 0, .int 0, .int 0, .int 0, .ref pr, .ref s_locals, .ref s_stack, .ref s_bottoms, .int 0]))] := hD
  refine lv_aload_n hx hb dX4_begin_10 rfl (lv_at hl 0 rfl) ?_
  refine lv_iconst (v := 0) hx hb dX4_begin_11 (by decide) ?_
  refine va_put (D := (dC, dI)) (ci := 7) (v := .int 0) (ty := .int) (C := RX8) (T := TX8) (N := 13) hx hb hts hiX8 tyX8 tyX8_ok nmX8 hown hK hP hD hS 0 rfl rfl 5 (by decide) (hts (.fieldLink RX4 28 "RegisterMill$Machine" "steps" "I") (by decide +kernel)) (fun _ h9 => h9) rfl (by decide +kernel) rfl rfl (Nat.le_of_ble_eq_true rfl) dX4_begin_12 (fun H locs hP hD hS => ?_)
  have hP : va_P (dC, dI) vwCl [(sm, .inr (7, [.ref s_memory, .ref s_funcs, .ref s_nexts, .int 0, .int 0, .int 0, .int 0, .int 0, .ref pr, .ref s_locals, .ref s_stack, .ref s_bottoms, .int 0]))] H := hP
  have hD : va_D A [(sm, .inr (7, [.ref s_memory, .ref s_funcs, .ref s_nexts, .int 0, .int 0, .int 0, .int 0, .int 0, .ref pr, .ref s_locals, .ref s_stack, .ref s_bottoms, .int 0]))] := hD
  refine lv_aload_n hx hb dX4_begin_15 rfl (lv_at hl 0 rfl) ?_
  refine lv_iconst (v := 0) hx hb dX4_begin_16 (by decide) ?_
  refine va_put (D := (dC, dI)) (ci := 7) (v := .int 0) (ty := .int) (C := RX8) (T := TX8) (N := 13) hx hb hts hiX8 tyX8 tyX8_ok nmX8 hown hK hP hD hS 0 rfl rfl 6 (by decide) (hts (.fieldLink RX4 31 "RegisterMill$Machine" "calls" "I") (by decide +kernel)) (fun _ h9 => h9) rfl (by decide +kernel) rfl rfl (Nat.le_of_ble_eq_true rfl) dX4_begin_17 (fun H locs hP hD hS => ?_)
  have hP : va_P (dC, dI) vwCl [(sm, .inr (7, [.ref s_memory, .ref s_funcs, .ref s_nexts, .int 0, .int 0, .int 0, .int 0, .int 0, .ref pr, .ref s_locals, .ref s_stack, .ref s_bottoms, .int 0]))] H := hP
  have hD : va_D A [(sm, .inr (7, [.ref s_memory, .ref s_funcs, .ref s_nexts, .int 0, .int 0, .int 0, .int 0, .int 0, .ref pr, .ref s_locals, .ref s_stack, .ref s_bottoms, .int 0]))] := hD
  refine lv_aload_n hx hb dX4_begin_20 rfl (lv_at hl 0 rfl) ?_
  refine lv_iconst (v := 0) hx hb dX4_begin_21 (by decide) ?_
  refine va_put (D := (dC, dI)) (ci := 7) (v := .int 0) (ty := .int) (C := RX8) (T := TX8) (N := 13) hx hb hts hiX8 tyX8 tyX8_ok nmX8 hown hK hP hD hS 0 rfl rfl 7 (by decide) (hts (.fieldLink RX4 34 "RegisterMill$Machine" "nested" "I") (by decide +kernel)) (fun _ h9 => h9) rfl (by decide +kernel) rfl rfl (Nat.le_of_ble_eq_true rfl) dX4_begin_22 (fun H locs hP hD hS => ?_)
  have hP : va_P (dC, dI) vwCl [(sm, .inr (7, [.ref s_memory, .ref s_funcs, .ref s_nexts, .int 0, .int 0, .int 0, .int 0, .int 0, .ref pr, .ref s_locals, .ref s_stack, .ref s_bottoms, .int 0]))] H := hP
  have hD : va_D A [(sm, .inr (7, [.ref s_memory, .ref s_funcs, .ref s_nexts, .int 0, .int 0, .int 0, .int 0, .int 0, .ref pr, .ref s_locals, .ref s_stack, .ref s_bottoms, .int 0]))] := hD
  have hP9 := hP.sub (ws' := [(sm, .inr (7, [.ref s_memory, .ref s_funcs, .ref s_nexts, .int 0, .int 0, .int 0, .int 0, .int 0, .ref pr, .ref s_locals, .ref s_stack, .ref s_bottoms, .int 0]))]) [0] rfl
  have hD9 := hD.sub (ws' := [(sm, .inr (7, [.ref s_memory, .ref s_funcs, .ref s_nexts, .int 0, .int 0, .int 0, .int 0, .int 0, .ref pr, .ref s_locals, .ref s_stack, .ref s_bottoms, .int 0]))]) [0] (by decide) rfl
  exact W.vret hx hb hr (fun t ht hW => ⟨⟨(), rfl, trivial, pz_Bof hP9 hK hD9 ht hW⟩, hS.F ht⟩) hS.2.2 dX4_begin_25

def wq_X4_tell_X8 : List Cond := .code yX4_tell cX4_tell 2 (some .int) :: ([.fieldLink RX4 21 "RegisterMill$Machine" "end" "I", .fieldLink RX4 25 "RegisterMill$Machine" "told" "I", .fieldLink RX4 28 "RegisterMill$Machine" "steps" "I", .fieldLink RX4 31 "RegisterMill$Machine" "calls" "I", .fieldLink RX4 34 "RegisterMill$Machine" "nested" "I"] ++ wsX80)
set_option maxHeartbeats 4000000 in
set_option maxRecDepth 100000 in
/-- tell on a fresh machine -/
theorem c_X4_tell_X8 (l : Launch) (dC : Nat → ClassId) (dI : Nat → Nat → Nat) (cyI : ClassId) (sz : Nat) (sm : Nat) (s_memory : Nat) (s_funcs : Nat) (s_nexts : Nat) (pr : Nat) (s_locals : Nat) (s_stack : Nat) (s_bottoms : Nat) (p0 : Int32) : Met l yX4_tell wq_X4_tell_X8 ({ frames := 0, cells := 0, slots := 0, locals := 0 }) (va_Pc [.ref sm, .int p0] (pz_pre dC dI [(cyI, .int)] [(sm, .inr (7, [.ref s_memory, .ref s_funcs, .ref s_nexts, .int 0, .int 0, .int 0, .int 0, .int 0, .ref pr, .ref s_locals, .ref s_stack, .ref s_bottoms, .int 0]))] sz)) (va_Qi (S := Unit) (fun (r : Int32) _ => r = fz_tell p0) (fun _ t => pz_B dC dI [(cyI, .int)] (va_A [(sm, .inr (7, [.ref s_memory, .ref s_funcs, .ref s_nexts, .int 0, .int 0, .int 0, .int 0, .int 0, .ref pr, .ref s_locals, .ref s_stack, .ref s_bottoms, .int 0]))] sz) [(sm, .inr (7, [.ref s_memory, .ref s_funcs, .ref s_nexts, .int 0, .int 0, .int 0, .int 0, .int 0, .ref pr, .ref s_locals, .ref s_stack, .ref s_bottoms, .int 0]))] t) (va_A [(sm, .inr (7, [.ref s_memory, .ref s_funcs, .ref s_nexts, .int 0, .int 0, .int 0, .int 0, .int 0, .ref pr, .ref s_locals, .ref s_stack, .ref s_bottoms, .int 0]))] sz)) 0 0 (va_A [(sm, .inr (7, [.ref s_memory, .ref s_funcs, .ref s_nexts, .int 0, .int 0, .int 0, .int 0, .int 0, .ref pr, .ref s_locals, .ref s_stack, .ref s_bottoms, .int 0]))] sz) := by
  refine Met.ofW (cc := cX4_tell) (maxL := 2) (ret := (some .int)) (by decide) rfl ?_
  intro p e s m args below meth c s₁ B hml hv
  obtain ⟨rfl, hsz, hP, hK, hD0, hNW⟩ := hv
  have hx := B.exec
  have hb := B.bytes
  have hr := B.returns
  have hts := atoms_spec (ws := wq_X4_tell_X8) B.pre
  have hown : s.vm.findClass RX4 = some m.cls := findClass_of_methodNamed B.named
  have hlocks := B.notSynchronized
  have hiX8 : ∀ w ∈ wsX80, w ∈ wq_X4_tell_X8 := by decide +kernel
  subst hsz
  have hD := hD0.self (sz := s.heap.size)
  generalize hAe : va_A [(sm, .inr (7, [.ref s_memory, .ref s_funcs, .ref s_nexts, .int 0, .int 0, .int 0, .int 0, .int 0, .ref pr, .ref s_locals, .ref s_stack, .ref s_bottoms, .int 0]))] s.heap.size = A at hD ⊢
  have hA : ∀ q : Nat, s.heap.size ≤ q → A q := fun q h => by rw [← hAe]; exact Or.inr h
  have hS : va_S A s.heap s.heap [] := va_S.rf
  have hl := lv_entry ([.ref sm, .int p0]) (n := 2) (Nat.le_of_ble_eq_true rfl)
  rw [lg_entry_eq]
  generalize (lg_sl ([.ref sm, .int p0]) ++ List.replicate (2 - (lg_sl ([.ref sm, .int p0])).length) Slot.unset).toArray = ls at hl ⊢
  have hl : lv_has ls 2 [(0, .ref sm), (1, .int p0)] := hl
  refine lv_iload_n hx hb dX4_tell_0 rfl (lv_at hl 1 rfl) ?_
  rcases pz_sw4 p0 with w_1 | w_1 | w_1 | w_1 | w_1 | w_1
  · refine lv_tableIn (off := 35) (tgt := 36) hx hb dX4_tell_1 (by rw [w_1]; decide) (by rw [w_1]; decide) (by rw [w_1]; rfl) (by decide) ?_
    refine lv_aload_n hx hb dX4_tell_36 rfl (lv_at hl 0 rfl) ?_
    refine va_get (D := (dC, dI)) (ci := 7) (v := .int 0) (C := RX8) (T := TX8) (N := 13) hx hb hts hiX8 hown hK hP 0 rfl rfl 3 (by decide) (hts (.fieldLink RX4 21 "RegisterMill$Machine" "end" "I") (by decide +kernel)) (fun _ h9 => h9) rfl dX4_tell_37 ?_
    have hP9 := hP.sub (ws' := [(sm, .inr (7, [.ref s_memory, .ref s_funcs, .ref s_nexts, .int 0, .int 0, .int 0, .int 0, .int 0, .ref pr, .ref s_locals, .ref s_stack, .ref s_bottoms, .int 0]))]) [0] rfl
    have hD9 := hD.sub (ws' := [(sm, .inr (7, [.ref s_memory, .ref s_funcs, .ref s_nexts, .int 0, .int 0, .int 0, .int 0, .int 0, .ref pr, .ref s_locals, .ref s_stack, .ref s_bottoms, .int 0]))]) [0] (by decide) rfl
    have h9 : (0 : Int32) = fz_tell p0 := by simp [fz_tell, w_1]
    exact W.iret (v := (0)) hx hb hr (fun t ht hW => ⟨⟨_, (), rfl, h9, pz_Bof hP9 hK hD9 ht hW⟩, hS.F ht⟩) hS.2.2 dX4_tell_40
  · refine lv_tableIn (off := 40) (tgt := 41) hx hb dX4_tell_1 (by rw [w_1]; decide) (by rw [w_1]; decide) (by rw [w_1]; rfl) (by decide) ?_
    refine lv_aload_n hx hb dX4_tell_41 rfl (lv_at hl 0 rfl) ?_
    refine va_get (D := (dC, dI)) (ci := 7) (v := .int 0) (C := RX8) (T := TX8) (N := 13) hx hb hts hiX8 hown hK hP 0 rfl rfl 4 (by decide) (hts (.fieldLink RX4 25 "RegisterMill$Machine" "told" "I") (by decide +kernel)) (fun _ h9 => h9) rfl dX4_tell_42 ?_
    have hP9 := hP.sub (ws' := [(sm, .inr (7, [.ref s_memory, .ref s_funcs, .ref s_nexts, .int 0, .int 0, .int 0, .int 0, .int 0, .ref pr, .ref s_locals, .ref s_stack, .ref s_bottoms, .int 0]))]) [0] rfl
    have hD9 := hD.sub (ws' := [(sm, .inr (7, [.ref s_memory, .ref s_funcs, .ref s_nexts, .int 0, .int 0, .int 0, .int 0, .int 0, .ref pr, .ref s_locals, .ref s_stack, .ref s_bottoms, .int 0]))]) [0] (by decide) rfl
    have h9 : (0 : Int32) = fz_tell p0 := by simp [fz_tell, w_1]
    exact W.iret (v := (0)) hx hb hr (fun t ht hW => ⟨⟨_, (), rfl, h9, pz_Bof hP9 hK hD9 ht hW⟩, hS.F ht⟩) hS.2.2 dX4_tell_45
  · refine lv_tableIn (off := 45) (tgt := 46) hx hb dX4_tell_1 (by rw [w_1]; decide) (by rw [w_1]; decide) (by rw [w_1]; rfl) (by decide) ?_
    refine lv_aload_n hx hb dX4_tell_46 rfl (lv_at hl 0 rfl) ?_
    refine va_get (D := (dC, dI)) (ci := 7) (v := .int 0) (C := RX8) (T := TX8) (N := 13) hx hb hts hiX8 hown hK hP 0 rfl rfl 5 (by decide) (hts (.fieldLink RX4 28 "RegisterMill$Machine" "steps" "I") (by decide +kernel)) (fun _ h9 => h9) rfl dX4_tell_47 ?_
    have hP9 := hP.sub (ws' := [(sm, .inr (7, [.ref s_memory, .ref s_funcs, .ref s_nexts, .int 0, .int 0, .int 0, .int 0, .int 0, .ref pr, .ref s_locals, .ref s_stack, .ref s_bottoms, .int 0]))]) [0] rfl
    have hD9 := hD.sub (ws' := [(sm, .inr (7, [.ref s_memory, .ref s_funcs, .ref s_nexts, .int 0, .int 0, .int 0, .int 0, .int 0, .ref pr, .ref s_locals, .ref s_stack, .ref s_bottoms, .int 0]))]) [0] (by decide) rfl
    have h9 : (0 : Int32) = fz_tell p0 := by simp [fz_tell, w_1]
    exact W.iret (v := (0)) hx hb hr (fun t ht hW => ⟨⟨_, (), rfl, h9, pz_Bof hP9 hK hD9 ht hW⟩, hS.F ht⟩) hS.2.2 dX4_tell_50
  · refine lv_tableIn (off := 50) (tgt := 51) hx hb dX4_tell_1 (by rw [w_1]; decide) (by rw [w_1]; decide) (by rw [w_1]; rfl) (by decide) ?_
    refine lv_aload_n hx hb dX4_tell_51 rfl (lv_at hl 0 rfl) ?_
    refine va_get (D := (dC, dI)) (ci := 7) (v := .int 0) (C := RX8) (T := TX8) (N := 13) hx hb hts hiX8 hown hK hP 0 rfl rfl 6 (by decide) (hts (.fieldLink RX4 31 "RegisterMill$Machine" "calls" "I") (by decide +kernel)) (fun _ h9 => h9) rfl dX4_tell_52 ?_
    have hP9 := hP.sub (ws' := [(sm, .inr (7, [.ref s_memory, .ref s_funcs, .ref s_nexts, .int 0, .int 0, .int 0, .int 0, .int 0, .ref pr, .ref s_locals, .ref s_stack, .ref s_bottoms, .int 0]))]) [0] rfl
    have hD9 := hD.sub (ws' := [(sm, .inr (7, [.ref s_memory, .ref s_funcs, .ref s_nexts, .int 0, .int 0, .int 0, .int 0, .int 0, .ref pr, .ref s_locals, .ref s_stack, .ref s_bottoms, .int 0]))]) [0] (by decide) rfl
    have h9 : (0 : Int32) = fz_tell p0 := by simp [fz_tell, w_1]
    exact W.iret (v := (0)) hx hb hr (fun t ht hW => ⟨⟨_, (), rfl, h9, pz_Bof hP9 hK hD9 ht hW⟩, hS.F ht⟩) hS.2.2 dX4_tell_55
  · refine lv_tableIn (off := 55) (tgt := 56) hx hb dX4_tell_1 (by rw [w_1]; decide) (by rw [w_1]; decide) (by rw [w_1]; rfl) (by decide) ?_
    refine lv_aload_n hx hb dX4_tell_56 rfl (lv_at hl 0 rfl) ?_
    refine va_get (D := (dC, dI)) (ci := 7) (v := .int 0) (C := RX8) (T := TX8) (N := 13) hx hb hts hiX8 hown hK hP 0 rfl rfl 7 (by decide) (hts (.fieldLink RX4 34 "RegisterMill$Machine" "nested" "I") (by decide +kernel)) (fun _ h9 => h9) rfl dX4_tell_57 ?_
    have hP9 := hP.sub (ws' := [(sm, .inr (7, [.ref s_memory, .ref s_funcs, .ref s_nexts, .int 0, .int 0, .int 0, .int 0, .int 0, .ref pr, .ref s_locals, .ref s_stack, .ref s_bottoms, .int 0]))]) [0] rfl
    have hD9 := hD.sub (ws' := [(sm, .inr (7, [.ref s_memory, .ref s_funcs, .ref s_nexts, .int 0, .int 0, .int 0, .int 0, .int 0, .ref pr, .ref s_locals, .ref s_stack, .ref s_bottoms, .int 0]))]) [0] (by decide) rfl
    have h9 : (0 : Int32) = fz_tell p0 := by simp [fz_tell, w_1]
    exact W.iret (v := (0)) hx hb hr (fun t ht hW => ⟨⟨_, (), rfl, h9, pz_Bof hP9 hK hD9 ht hW⟩, hS.F ht⟩) hS.2.2 dX4_tell_60
  · refine lv_tableOut (tgt := 61) hx hb dX4_tell_1 w_1.1 (by decide) ?_
    refine lv_iconst (v := -1) hx hb dX4_tell_61 (by decide) ?_
    have hP9 := hP.sub (ws' := [(sm, .inr (7, [.ref s_memory, .ref s_funcs, .ref s_nexts, .int 0, .int 0, .int 0, .int 0, .int 0, .ref pr, .ref s_locals, .ref s_stack, .ref s_bottoms, .int 0]))]) [0] rfl
    have hD9 := hD.sub (ws' := [(sm, .inr (7, [.ref s_memory, .ref s_funcs, .ref s_nexts, .int 0, .int 0, .int 0, .int 0, .int 0, .ref pr, .ref s_locals, .ref s_stack, .ref s_bottoms, .int 0]))]) [0] (by decide) rfl
    have h9 : (-1 : Int32) = fz_tell p0 := by simp [fz_tell, w_1.2]
    exact W.iret (v := (-1)) hx hb hr (fun t ht hW => ⟨⟨_, (), rfl, h9, pz_Bof hP9 hK hD9 ht hW⟩, hS.F ht⟩) hS.2.2 dX4_tell_62

def wq_X4_begin_X7 : List Cond := .code yX4_begin cX4_begin 1 none :: ([.fieldLink RX4 21 "RegisterMill$Machine" "end" "I", .fieldLink RX4 25 "RegisterMill$Machine" "told" "I", .fieldLink RX4 28 "RegisterMill$Machine" "steps" "I", .fieldLink RX4 31 "RegisterMill$Machine" "calls" "I", .fieldLink RX4 34 "RegisterMill$Machine" "nested" "I"] ++ wsX70)
set_option maxHeartbeats 4000000 in
set_option maxRecDepth 100000 in
/-- begin: a fresh machine stays as it is -/
theorem c_X4_begin_X7 (l : Launch) (dC : Nat → ClassId) (dI : Nat → Nat → Nat) (cyI : ClassId) (sz : Nat) (rm : Nat) (r_memory : Nat) (r_funcs : Nat) (r_nexts : Nat) (t_code : Nat) (r_registers : Nat) (r_slotCells : Nat) (r_passed : Nat) : Met l yX4_begin wq_X4_begin_X7 ({ frames := 0, cells := 0, slots := 0, locals := 0 }) (va_Pc [.ref rm] (pz_pre dC dI [(cyI, .int)] [(rm, .inr (6, [.ref r_memory, .ref r_funcs, .ref r_nexts, .int 0, .int 0, .int 0, .int 0, .int 0, .ref t_code, .ref r_registers, .ref r_slotCells, .ref r_passed, .int 0]))] sz)) (va_Qv (S := Unit) (fun _ => True) (fun _ t => pz_B dC dI [(cyI, .int)] (va_A [(rm, .inr (6, [.ref r_memory, .ref r_funcs, .ref r_nexts, .int 0, .int 0, .int 0, .int 0, .int 0, .ref t_code, .ref r_registers, .ref r_slotCells, .ref r_passed, .int 0]))] sz) [(rm, .inr (6, [.ref r_memory, .ref r_funcs, .ref r_nexts, .int 0, .int 0, .int 0, .int 0, .int 0, .ref t_code, .ref r_registers, .ref r_slotCells, .ref r_passed, .int 0]))] t) (va_A [(rm, .inr (6, [.ref r_memory, .ref r_funcs, .ref r_nexts, .int 0, .int 0, .int 0, .int 0, .int 0, .ref t_code, .ref r_registers, .ref r_slotCells, .ref r_passed, .int 0]))] sz)) 0 0 (va_A [(rm, .inr (6, [.ref r_memory, .ref r_funcs, .ref r_nexts, .int 0, .int 0, .int 0, .int 0, .int 0, .ref t_code, .ref r_registers, .ref r_slotCells, .ref r_passed, .int 0]))] sz) := by
  refine Met.ofW (cc := cX4_begin) (maxL := 1) (ret := none) (by decide) rfl ?_
  intro p e s m args below meth c s₁ B hml hv
  obtain ⟨rfl, hsz, hP, hK, hD0, hNW⟩ := hv
  have hx := B.exec
  have hb := B.bytes
  have hr := B.returns
  have hts := atoms_spec (ws := wq_X4_begin_X7) B.pre
  have hown : s.vm.findClass RX4 = some m.cls := findClass_of_methodNamed B.named
  have hlocks := B.notSynchronized
  have hiX7 : ∀ w ∈ wsX70, w ∈ wq_X4_begin_X7 := by decide +kernel
  subst hsz
  have hD := hD0.self (sz := s.heap.size)
  generalize hAe : va_A [(rm, .inr (6, [.ref r_memory, .ref r_funcs, .ref r_nexts, .int 0, .int 0, .int 0, .int 0, .int 0, .ref t_code, .ref r_registers, .ref r_slotCells, .ref r_passed, .int 0]))] s.heap.size = A at hD ⊢
  have hA : ∀ q : Nat, s.heap.size ≤ q → A q := fun q h => by rw [← hAe]; exact Or.inr h
  have hS : va_S A s.heap s.heap [] := va_S.rf
  have hl := lv_entry ([.ref rm]) (n := 1) (Nat.le_of_ble_eq_true rfl)
  rw [lg_entry_eq]
  generalize (lg_sl ([.ref rm]) ++ List.replicate (1 - (lg_sl ([.ref rm])).length) Slot.unset).toArray = ls at hl ⊢
  have hl : lv_has ls 1 [(0, .ref rm)] := hl
  refine lv_aload_n hx hb dX4_begin_0 rfl (lv_at hl 0 rfl) ?_
  refine lv_iconst (v := 0) hx hb dX4_begin_1 (by decide) ?_
  refine va_put (D := (dC, dI)) (ci := 6) (v := .int 0) (ty := .int) (C := RX7) (T := TX7) (N := 13) hx hb hts hiX7 tyX7 tyX7_ok nmX7 hown hK hP hD hS 0 rfl rfl 3 (by decide) (hts (.fieldLink RX4 21 "RegisterMill$Machine" "end" "I") (by decide +kernel)) (fun _ h9 => h9) rfl (by decide +kernel) rfl rfl (Nat.le_of_ble_eq_true rfl) dX4_begin_2 (fun H locs hP hD hS => ?_)
  have hP : va_P (dC, dI) vwCl [(rm, .inr (6, [.ref r_memory, .ref r_funcs, .ref r_nexts, .int 0, .int 0, .int 0, .int 0, .int 0, .ref t_code, .ref r_registers, .ref r_slotCells, .ref r_passed, .int 0]))] H := hP
  have hD : va_D A [(rm, .inr (6, [.ref r_memory, .ref r_funcs, .ref r_nexts, .int 0, .int 0, .int 0, .int 0, .int 0, .ref t_code, .ref r_registers, .ref r_slotCells, .ref r_passed, .int 0]))] := hD
  refine lv_aload_n hx hb dX4_begin_5 rfl (lv_at hl 0 rfl) ?_
  refine lv_iconst (v := 0) hx hb dX4_begin_6 (by decide) ?_
  refine va_put (D := (dC, dI)) (ci := 6) (v := .int 0) (ty := .int) (C := RX7) (T := TX7) (N := 13) hx hb hts hiX7 tyX7 tyX7_ok nmX7 hown hK hP hD hS 0 rfl rfl 4 (by decide) (hts (.fieldLink RX4 25 "RegisterMill$Machine" "told" "I") (by decide +kernel)) (fun _ h9 => h9) rfl (by decide +kernel) rfl rfl (Nat.le_of_ble_eq_true rfl) dX4_begin_7 (fun H locs hP hD hS => ?_)
  have hP : va_P (dC, dI) vwCl [(rm, .inr (6, [.ref r_memory, .ref r_funcs, .ref r_nexts, .int 0, .int 0, .int 0, .int 0, .int 0, .ref t_code, .ref r_registers, .ref r_slotCells, .ref r_passed, .int 0]))] H := hP
  have hD : va_D A [(rm, .inr (6, [.ref r_memory, .ref r_funcs, .ref r_nexts, .int 0, .int 0, .int 0, .int 0, .int 0, .ref t_code, .ref r_registers, .ref r_slotCells, .ref r_passed, .int 0]))] := hD
  refine lv_aload_n hx hb dX4_begin_10 rfl (lv_at hl 0 rfl) ?_
  refine lv_iconst (v := 0) hx hb dX4_begin_11 (by decide) ?_
  refine va_put (D := (dC, dI)) (ci := 6) (v := .int 0) (ty := .int) (C := RX7) (T := TX7) (N := 13) hx hb hts hiX7 tyX7 tyX7_ok nmX7 hown hK hP hD hS 0 rfl rfl 5 (by decide) (hts (.fieldLink RX4 28 "RegisterMill$Machine" "steps" "I") (by decide +kernel)) (fun _ h9 => h9) rfl (by decide +kernel) rfl rfl (Nat.le_of_ble_eq_true rfl) dX4_begin_12 (fun H locs hP hD hS => ?_)
  have hP : va_P (dC, dI) vwCl [(rm, .inr (6, [.ref r_memory, .ref r_funcs, .ref r_nexts, .int 0, .int 0, .int 0, .int 0, .int 0, .ref t_code, .ref r_registers, .ref r_slotCells, .ref r_passed, .int 0]))] H := hP
  have hD : va_D A [(rm, .inr (6, [.ref r_memory, .ref r_funcs, .ref r_nexts, .int 0, .int 0, .int 0, .int 0, .int 0, .ref t_code, .ref r_registers, .ref r_slotCells, .ref r_passed, .int 0]))] := hD
  refine lv_aload_n hx hb dX4_begin_15 rfl (lv_at hl 0 rfl) ?_
  refine lv_iconst (v := 0) hx hb dX4_begin_16 (by decide) ?_
  refine va_put (D := (dC, dI)) (ci := 6) (v := .int 0) (ty := .int) (C := RX7) (T := TX7) (N := 13) hx hb hts hiX7 tyX7 tyX7_ok nmX7 hown hK hP hD hS 0 rfl rfl 6 (by decide) (hts (.fieldLink RX4 31 "RegisterMill$Machine" "calls" "I") (by decide +kernel)) (fun _ h9 => h9) rfl (by decide +kernel) rfl rfl (Nat.le_of_ble_eq_true rfl) dX4_begin_17 (fun H locs hP hD hS => ?_)
  have hP : va_P (dC, dI) vwCl [(rm, .inr (6, [.ref r_memory, .ref r_funcs, .ref r_nexts, .int 0, .int 0, .int 0, .int 0, .int 0, .ref t_code, .ref r_registers, .ref r_slotCells, .ref r_passed, .int 0]))] H := hP
  have hD : va_D A [(rm, .inr (6, [.ref r_memory, .ref r_funcs, .ref r_nexts, .int 0, .int 0, .int 0, .int 0, .int 0, .ref t_code, .ref r_registers, .ref r_slotCells, .ref r_passed, .int 0]))] := hD
  refine lv_aload_n hx hb dX4_begin_20 rfl (lv_at hl 0 rfl) ?_
  refine lv_iconst (v := 0) hx hb dX4_begin_21 (by decide) ?_
  refine va_put (D := (dC, dI)) (ci := 6) (v := .int 0) (ty := .int) (C := RX7) (T := TX7) (N := 13) hx hb hts hiX7 tyX7 tyX7_ok nmX7 hown hK hP hD hS 0 rfl rfl 7 (by decide) (hts (.fieldLink RX4 34 "RegisterMill$Machine" "nested" "I") (by decide +kernel)) (fun _ h9 => h9) rfl (by decide +kernel) rfl rfl (Nat.le_of_ble_eq_true rfl) dX4_begin_22 (fun H locs hP hD hS => ?_)
  have hP : va_P (dC, dI) vwCl [(rm, .inr (6, [.ref r_memory, .ref r_funcs, .ref r_nexts, .int 0, .int 0, .int 0, .int 0, .int 0, .ref t_code, .ref r_registers, .ref r_slotCells, .ref r_passed, .int 0]))] H := hP
  have hD : va_D A [(rm, .inr (6, [.ref r_memory, .ref r_funcs, .ref r_nexts, .int 0, .int 0, .int 0, .int 0, .int 0, .ref t_code, .ref r_registers, .ref r_slotCells, .ref r_passed, .int 0]))] := hD
  have hP9 := hP.sub (ws' := [(rm, .inr (6, [.ref r_memory, .ref r_funcs, .ref r_nexts, .int 0, .int 0, .int 0, .int 0, .int 0, .ref t_code, .ref r_registers, .ref r_slotCells, .ref r_passed, .int 0]))]) [0] rfl
  have hD9 := hD.sub (ws' := [(rm, .inr (6, [.ref r_memory, .ref r_funcs, .ref r_nexts, .int 0, .int 0, .int 0, .int 0, .int 0, .ref t_code, .ref r_registers, .ref r_slotCells, .ref r_passed, .int 0]))]) [0] (by decide) rfl
  exact W.vret hx hb hr (fun t ht hW => ⟨⟨(), rfl, trivial, pz_Bof hP9 hK hD9 ht hW⟩, hS.F ht⟩) hS.2.2 dX4_begin_25

def wq_X4_tell_X7 : List Cond := .code yX4_tell cX4_tell 2 (some .int) :: ([.fieldLink RX4 21 "RegisterMill$Machine" "end" "I", .fieldLink RX4 25 "RegisterMill$Machine" "told" "I", .fieldLink RX4 28 "RegisterMill$Machine" "steps" "I", .fieldLink RX4 31 "RegisterMill$Machine" "calls" "I", .fieldLink RX4 34 "RegisterMill$Machine" "nested" "I"] ++ wsX70)
set_option maxHeartbeats 4000000 in
set_option maxRecDepth 100000 in
/-- tell on a fresh machine -/
theorem c_X4_tell_X7 (l : Launch) (dC : Nat → ClassId) (dI : Nat → Nat → Nat) (cyI : ClassId) (sz : Nat) (rm : Nat) (r_memory : Nat) (r_funcs : Nat) (r_nexts : Nat) (t_code : Nat) (r_registers : Nat) (r_slotCells : Nat) (r_passed : Nat) (p0 : Int32) : Met l yX4_tell wq_X4_tell_X7 ({ frames := 0, cells := 0, slots := 0, locals := 0 }) (va_Pc [.ref rm, .int p0] (pz_pre dC dI [(cyI, .int)] [(rm, .inr (6, [.ref r_memory, .ref r_funcs, .ref r_nexts, .int 0, .int 0, .int 0, .int 0, .int 0, .ref t_code, .ref r_registers, .ref r_slotCells, .ref r_passed, .int 0]))] sz)) (va_Qi (S := Unit) (fun (r : Int32) _ => r = fz_tell p0) (fun _ t => pz_B dC dI [(cyI, .int)] (va_A [(rm, .inr (6, [.ref r_memory, .ref r_funcs, .ref r_nexts, .int 0, .int 0, .int 0, .int 0, .int 0, .ref t_code, .ref r_registers, .ref r_slotCells, .ref r_passed, .int 0]))] sz) [(rm, .inr (6, [.ref r_memory, .ref r_funcs, .ref r_nexts, .int 0, .int 0, .int 0, .int 0, .int 0, .ref t_code, .ref r_registers, .ref r_slotCells, .ref r_passed, .int 0]))] t) (va_A [(rm, .inr (6, [.ref r_memory, .ref r_funcs, .ref r_nexts, .int 0, .int 0, .int 0, .int 0, .int 0, .ref t_code, .ref r_registers, .ref r_slotCells, .ref r_passed, .int 0]))] sz)) 0 0 (va_A [(rm, .inr (6, [.ref r_memory, .ref r_funcs, .ref r_nexts, .int 0, .int 0, .int 0, .int 0, .int 0, .ref t_code, .ref r_registers, .ref r_slotCells, .ref r_passed, .int 0]))] sz) := by
  refine Met.ofW (cc := cX4_tell) (maxL := 2) (ret := (some .int)) (by decide) rfl ?_
  intro p e s m args below meth c s₁ B hml hv
  obtain ⟨rfl, hsz, hP, hK, hD0, hNW⟩ := hv
  have hx := B.exec
  have hb := B.bytes
  have hr := B.returns
  have hts := atoms_spec (ws := wq_X4_tell_X7) B.pre
  have hown : s.vm.findClass RX4 = some m.cls := findClass_of_methodNamed B.named
  have hlocks := B.notSynchronized
  have hiX7 : ∀ w ∈ wsX70, w ∈ wq_X4_tell_X7 := by decide +kernel
  subst hsz
  have hD := hD0.self (sz := s.heap.size)
  generalize hAe : va_A [(rm, .inr (6, [.ref r_memory, .ref r_funcs, .ref r_nexts, .int 0, .int 0, .int 0, .int 0, .int 0, .ref t_code, .ref r_registers, .ref r_slotCells, .ref r_passed, .int 0]))] s.heap.size = A at hD ⊢
  have hA : ∀ q : Nat, s.heap.size ≤ q → A q := fun q h => by rw [← hAe]; exact Or.inr h
  have hS : va_S A s.heap s.heap [] := va_S.rf
  have hl := lv_entry ([.ref rm, .int p0]) (n := 2) (Nat.le_of_ble_eq_true rfl)
  rw [lg_entry_eq]
  generalize (lg_sl ([.ref rm, .int p0]) ++ List.replicate (2 - (lg_sl ([.ref rm, .int p0])).length) Slot.unset).toArray = ls at hl ⊢
  have hl : lv_has ls 2 [(0, .ref rm), (1, .int p0)] := hl
  refine lv_iload_n hx hb dX4_tell_0 rfl (lv_at hl 1 rfl) ?_
  rcases pz_sw4 p0 with w_1 | w_1 | w_1 | w_1 | w_1 | w_1
  · refine lv_tableIn (off := 35) (tgt := 36) hx hb dX4_tell_1 (by rw [w_1]; decide) (by rw [w_1]; decide) (by rw [w_1]; rfl) (by decide) ?_
    refine lv_aload_n hx hb dX4_tell_36 rfl (lv_at hl 0 rfl) ?_
    refine va_get (D := (dC, dI)) (ci := 6) (v := .int 0) (C := RX7) (T := TX7) (N := 13) hx hb hts hiX7 hown hK hP 0 rfl rfl 3 (by decide) (hts (.fieldLink RX4 21 "RegisterMill$Machine" "end" "I") (by decide +kernel)) (fun _ h9 => h9) rfl dX4_tell_37 ?_
    have hP9 := hP.sub (ws' := [(rm, .inr (6, [.ref r_memory, .ref r_funcs, .ref r_nexts, .int 0, .int 0, .int 0, .int 0, .int 0, .ref t_code, .ref r_registers, .ref r_slotCells, .ref r_passed, .int 0]))]) [0] rfl
    have hD9 := hD.sub (ws' := [(rm, .inr (6, [.ref r_memory, .ref r_funcs, .ref r_nexts, .int 0, .int 0, .int 0, .int 0, .int 0, .ref t_code, .ref r_registers, .ref r_slotCells, .ref r_passed, .int 0]))]) [0] (by decide) rfl
    have h9 : (0 : Int32) = fz_tell p0 := by simp [fz_tell, w_1]
    exact W.iret (v := (0)) hx hb hr (fun t ht hW => ⟨⟨_, (), rfl, h9, pz_Bof hP9 hK hD9 ht hW⟩, hS.F ht⟩) hS.2.2 dX4_tell_40
  · refine lv_tableIn (off := 40) (tgt := 41) hx hb dX4_tell_1 (by rw [w_1]; decide) (by rw [w_1]; decide) (by rw [w_1]; rfl) (by decide) ?_
    refine lv_aload_n hx hb dX4_tell_41 rfl (lv_at hl 0 rfl) ?_
    refine va_get (D := (dC, dI)) (ci := 6) (v := .int 0) (C := RX7) (T := TX7) (N := 13) hx hb hts hiX7 hown hK hP 0 rfl rfl 4 (by decide) (hts (.fieldLink RX4 25 "RegisterMill$Machine" "told" "I") (by decide +kernel)) (fun _ h9 => h9) rfl dX4_tell_42 ?_
    have hP9 := hP.sub (ws' := [(rm, .inr (6, [.ref r_memory, .ref r_funcs, .ref r_nexts, .int 0, .int 0, .int 0, .int 0, .int 0, .ref t_code, .ref r_registers, .ref r_slotCells, .ref r_passed, .int 0]))]) [0] rfl
    have hD9 := hD.sub (ws' := [(rm, .inr (6, [.ref r_memory, .ref r_funcs, .ref r_nexts, .int 0, .int 0, .int 0, .int 0, .int 0, .ref t_code, .ref r_registers, .ref r_slotCells, .ref r_passed, .int 0]))]) [0] (by decide) rfl
    have h9 : (0 : Int32) = fz_tell p0 := by simp [fz_tell, w_1]
    exact W.iret (v := (0)) hx hb hr (fun t ht hW => ⟨⟨_, (), rfl, h9, pz_Bof hP9 hK hD9 ht hW⟩, hS.F ht⟩) hS.2.2 dX4_tell_45
  · refine lv_tableIn (off := 45) (tgt := 46) hx hb dX4_tell_1 (by rw [w_1]; decide) (by rw [w_1]; decide) (by rw [w_1]; rfl) (by decide) ?_
    refine lv_aload_n hx hb dX4_tell_46 rfl (lv_at hl 0 rfl) ?_
    refine va_get (D := (dC, dI)) (ci := 6) (v := .int 0) (C := RX7) (T := TX7) (N := 13) hx hb hts hiX7 hown hK hP 0 rfl rfl 5 (by decide) (hts (.fieldLink RX4 28 "RegisterMill$Machine" "steps" "I") (by decide +kernel)) (fun _ h9 => h9) rfl dX4_tell_47 ?_
    have hP9 := hP.sub (ws' := [(rm, .inr (6, [.ref r_memory, .ref r_funcs, .ref r_nexts, .int 0, .int 0, .int 0, .int 0, .int 0, .ref t_code, .ref r_registers, .ref r_slotCells, .ref r_passed, .int 0]))]) [0] rfl
    have hD9 := hD.sub (ws' := [(rm, .inr (6, [.ref r_memory, .ref r_funcs, .ref r_nexts, .int 0, .int 0, .int 0, .int 0, .int 0, .ref t_code, .ref r_registers, .ref r_slotCells, .ref r_passed, .int 0]))]) [0] (by decide) rfl
    have h9 : (0 : Int32) = fz_tell p0 := by simp [fz_tell, w_1]
    exact W.iret (v := (0)) hx hb hr (fun t ht hW => ⟨⟨_, (), rfl, h9, pz_Bof hP9 hK hD9 ht hW⟩, hS.F ht⟩) hS.2.2 dX4_tell_50
  · refine lv_tableIn (off := 50) (tgt := 51) hx hb dX4_tell_1 (by rw [w_1]; decide) (by rw [w_1]; decide) (by rw [w_1]; rfl) (by decide) ?_
    refine lv_aload_n hx hb dX4_tell_51 rfl (lv_at hl 0 rfl) ?_
    refine va_get (D := (dC, dI)) (ci := 6) (v := .int 0) (C := RX7) (T := TX7) (N := 13) hx hb hts hiX7 hown hK hP 0 rfl rfl 6 (by decide) (hts (.fieldLink RX4 31 "RegisterMill$Machine" "calls" "I") (by decide +kernel)) (fun _ h9 => h9) rfl dX4_tell_52 ?_
    have hP9 := hP.sub (ws' := [(rm, .inr (6, [.ref r_memory, .ref r_funcs, .ref r_nexts, .int 0, .int 0, .int 0, .int 0, .int 0, .ref t_code, .ref r_registers, .ref r_slotCells, .ref r_passed, .int 0]))]) [0] rfl
    have hD9 := hD.sub (ws' := [(rm, .inr (6, [.ref r_memory, .ref r_funcs, .ref r_nexts, .int 0, .int 0, .int 0, .int 0, .int 0, .ref t_code, .ref r_registers, .ref r_slotCells, .ref r_passed, .int 0]))]) [0] (by decide) rfl
    have h9 : (0 : Int32) = fz_tell p0 := by simp [fz_tell, w_1]
    exact W.iret (v := (0)) hx hb hr (fun t ht hW => ⟨⟨_, (), rfl, h9, pz_Bof hP9 hK hD9 ht hW⟩, hS.F ht⟩) hS.2.2 dX4_tell_55
  · refine lv_tableIn (off := 55) (tgt := 56) hx hb dX4_tell_1 (by rw [w_1]; decide) (by rw [w_1]; decide) (by rw [w_1]; rfl) (by decide) ?_
    refine lv_aload_n hx hb dX4_tell_56 rfl (lv_at hl 0 rfl) ?_
    refine va_get (D := (dC, dI)) (ci := 6) (v := .int 0) (C := RX7) (T := TX7) (N := 13) hx hb hts hiX7 hown hK hP 0 rfl rfl 7 (by decide) (hts (.fieldLink RX4 34 "RegisterMill$Machine" "nested" "I") (by decide +kernel)) (fun _ h9 => h9) rfl dX4_tell_57 ?_
    have hP9 := hP.sub (ws' := [(rm, .inr (6, [.ref r_memory, .ref r_funcs, .ref r_nexts, .int 0, .int 0, .int 0, .int 0, .int 0, .ref t_code, .ref r_registers, .ref r_slotCells, .ref r_passed, .int 0]))]) [0] rfl
    have hD9 := hD.sub (ws' := [(rm, .inr (6, [.ref r_memory, .ref r_funcs, .ref r_nexts, .int 0, .int 0, .int 0, .int 0, .int 0, .ref t_code, .ref r_registers, .ref r_slotCells, .ref r_passed, .int 0]))]) [0] (by decide) rfl
    have h9 : (0 : Int32) = fz_tell p0 := by simp [fz_tell, w_1]
    exact W.iret (v := (0)) hx hb hr (fun t ht hW => ⟨⟨_, (), rfl, h9, pz_Bof hP9 hK hD9 ht hW⟩, hS.F ht⟩) hS.2.2 dX4_tell_60
  · refine lv_tableOut (tgt := 61) hx hb dX4_tell_1 w_1.1 (by decide) ?_
    refine lv_iconst (v := -1) hx hb dX4_tell_61 (by decide) ?_
    have hP9 := hP.sub (ws' := [(rm, .inr (6, [.ref r_memory, .ref r_funcs, .ref r_nexts, .int 0, .int 0, .int 0, .int 0, .int 0, .ref t_code, .ref r_registers, .ref r_slotCells, .ref r_passed, .int 0]))]) [0] rfl
    have hD9 := hD.sub (ws' := [(rm, .inr (6, [.ref r_memory, .ref r_funcs, .ref r_nexts, .int 0, .int 0, .int 0, .int 0, .int 0, .ref t_code, .ref r_registers, .ref r_slotCells, .ref r_passed, .int 0]))]) [0] (by decide) rfl
    have h9 : (-1 : Int32) = fz_tell p0 := by simp [fz_tell, w_1.2]
    exact W.iret (v := (-1)) hx hb hr (fun t ht hW => ⟨⟨_, (), rfl, h9, pz_Bof hP9 hK hD9 ht hW⟩, hS.F ht⟩) hS.2.2 dX4_tell_62

def wq_X8_begin : List Cond := .code yX8_begin cX8_begin 1 none :: ([.code yX4_begin cX4_begin 1 none, .fieldLink RX4 21 "RegisterMill$Machine" "end" "I", .fieldLink RX4 25 "RegisterMill$Machine" "told" "I", .fieldLink RX4 28 "RegisterMill$Machine" "steps" "I", .fieldLink RX4 31 "RegisterMill$Machine" "calls" "I", .fieldLink RX4 34 "RegisterMill$Machine" "nested" "I", .methodLink RX8 25 yX4_begin, .sameMethod "RegisterMill$Machine" "RegisterMill$Machine" "begin" "()V", .superclass RX8 RX4, .instanceMethod yX4_begin, .initialized RX4, .fieldLink RX8 28 "RegisterMill$StackMachine" "top" "I"] ++ wsX80)
set_option maxRecDepth 20000 in
theorem gq_X8_begin_X4_begin_X8_25 : GoodIn wq_X8_begin (va_wsSU RX8 25 yX4_begin wq_X4_begin_X8) := goodIn_r _ [7, 8, 9, 10, 11, 1, 2, 3, 4, 5, 6, 13, 14, 15, 16, 17, 18, 19, 20, 21, 22, 23, 24, 25] (by decide +kernel) (by decide +kernel)
set_option maxHeartbeats 4000000 in
set_option maxRecDepth 100000 in
/-- StackMachine.begin -/
theorem c_X8_begin (l : Launch) (dC : Nat → ClassId) (dI : Nat → Nat → Nat) (cyI : ClassId) (sz : Nat) (sm : Nat) (s_memory : Nat) (s_funcs : Nat) (s_nexts : Nat) (pr : Nat) (s_locals : Nat) (s_stack : Nat) (s_bottoms : Nat) : Met l yX8_begin wq_X8_begin ({ frames := 1, cells := 0, slots := 0, locals := 20 }) (va_Pc [.ref sm] (pz_pre dC dI [(cyI, .int)] [(sm, .inr (7, [.ref s_memory, .ref s_funcs, .ref s_nexts, .int 0, .int 0, .int 0, .int 0, .int 0, .ref pr, .ref s_locals, .ref s_stack, .ref s_bottoms, .int 0]))] sz)) (va_Qv (S := Unit) (fun _ => True) (fun _ t => pz_B dC dI [(cyI, .int)] (va_A [(sm, .inr (7, [.ref s_memory, .ref s_funcs, .ref s_nexts, .int 0, .int 0, .int 0, .int 0, .int 0, .ref pr, .ref s_locals, .ref s_stack, .ref s_bottoms, .int 0]))] sz) [(sm, .inr (7, [.ref s_memory, .ref s_funcs, .ref s_nexts, .int 0, .int 0, .int 0, .int 0, .int 0, .ref pr, .ref s_locals, .ref s_stack, .ref s_bottoms, .int 0]))] t) (va_A [(sm, .inr (7, [.ref s_memory, .ref s_funcs, .ref s_nexts, .int 0, .int 0, .int 0, .int 0, .int 0, .ref pr, .ref s_locals, .ref s_stack, .ref s_bottoms, .int 0]))] sz)) 0 0 (va_A [(sm, .inr (7, [.ref s_memory, .ref s_funcs, .ref s_nexts, .int 0, .int 0, .int 0, .int 0, .int 0, .ref pr, .ref s_locals, .ref s_stack, .ref s_bottoms, .int 0]))] sz) := by
  refine Met.ofW (cc := cX8_begin) (maxL := 1) (ret := none) (by decide) rfl ?_
  intro p e s m args below meth c s₁ B hml hv
  obtain ⟨rfl, hsz, hP, hK, hD0, hNW⟩ := hv
  have hx := B.exec
  have hb := B.bytes
  have hr := B.returns
  have hts := atoms_spec (ws := wq_X8_begin) B.pre
  have hown : s.vm.findClass RX8 = some m.cls := findClass_of_methodNamed B.named
  have hlocks := B.notSynchronized
  have hiX8 : ∀ w ∈ wsX80, w ∈ wq_X8_begin := by decide +kernel
  subst hsz
  have hD := hD0.self (sz := s.heap.size)
  generalize hAe : va_A [(sm, .inr (7, [.ref s_memory, .ref s_funcs, .ref s_nexts, .int 0, .int 0, .int 0, .int 0, .int 0, .ref pr, .ref s_locals, .ref s_stack, .ref s_bottoms, .int 0]))] s.heap.size = A at hD ⊢
  have hA : ∀ q : Nat, s.heap.size ≤ q → A q := fun q h => by rw [← hAe]; exact Or.inr h
  have hS : va_S A s.heap s.heap [] := va_S.rf
  have hl := lv_entry ([.ref sm]) (n := 1) (Nat.le_of_ble_eq_true rfl)
  rw [lg_entry_eq]
  generalize (lg_sl ([.ref sm]) ++ List.replicate (1 - (lg_sl ([.ref sm])).length) Slot.unset).toArray = ls at hl ⊢
  have hl : lv_has ls 1 [(0, .ref sm)] := hl
  refine lv_aload_n hx hb dX8_begin_0 rfl (lv_at hl 0 rfl) ?_
  have hPc := hP.sub (ws' := [(sm, .inr (7, [.ref s_memory, .ref s_funcs, .ref s_nexts, .int 0, .int 0, .int 0, .int 0, .int 0, .ref pr, .ref s_locals, .ref s_stack, .ref s_bottoms, .int 0]))]) [0] rfl
  have hDc := hD.sub (ws' := [(sm, .inr (7, [.ref s_memory, .ref s_funcs, .ref s_nexts, .int 0, .int 0, .int 0, .int 0, .int 0, .ref pr, .ref s_locals, .ref s_stack, .ref s_bottoms, .int 0]))]) [0] (by decide) rfl
  have hKc := hK.sub (tys' := [(cyI, .int)]) [0] rfl
  have hFc := va_free (wc := [(sm, .inr (7, [.ref s_memory, .ref s_funcs, .ref s_nexts, .int 0, .int 0, .int 0, .int 0, .int 0, .ref pr, .ref s_locals, .ref s_stack, .ref s_bottoms, .int 0]))]) hD hS hA [0] rfl
  refine va_callv (va_runSU (C := RX8) (hK.1 7 _ rfl).2 (As := []) (rest := []) ⟨hx, hb, hml, hown, hts⟩ (c_X4_begin_X8 l dC dI cyI s.heap.size sm s_memory s_funcs s_nexts pr s_locals s_stack s_bottoms) (va_cwSU 0 hts gq_X8_begin_X4_begin_X8_25 rfl rfl rfl (by decide +kernel) ⟨Nat.le_of_ble_eq_true rfl, Nat.le_of_ble_eq_true rfl⟩) ⟨pz_blind, va_recv hKc hPc (ci := 7) (q0 := 0) rfl rfl, pz_to hPc hKc hDc hNW⟩ rfl rfl hl.1 rfl (lv_room (Nat.le_of_ble_eq_true rfl)) dX8_begin_1 (by decide)) hS (fun q _ h => hFc q h) hFc (fun u t H1 locs ht hvm hw hB hz1 hk1 hS => ?_)
  obtain ⟨hP1, hK1, hD1⟩ := hB
  rw [ht] at hP1
  obtain ⟨hP, hD⟩ := va_join (wr := []) (w1 := [(sm, .inr (7, [.ref s_memory, .ref s_funcs, .ref s_nexts, .int 0, .int 0, .int 0, .int 0, .int 0, .ref pr, .ref s_locals, .ref s_stack, .ref s_bottoms, .int 0]))]) hP hD [0] [] rfl rfl (by decide) (by decide) hk1 hFc hP1 hD1
  generalize H1 = H at hP hS ⊢
  have hP : va_P (dC, dI) vwCl [(sm, .inr (7, [.ref s_memory, .ref s_funcs, .ref s_nexts, .int 0, .int 0, .int 0, .int 0, .int 0, .ref pr, .ref s_locals, .ref s_stack, .ref s_bottoms, .int 0]))] H := hP
  have hD : va_D A [(sm, .inr (7, [.ref s_memory, .ref s_funcs, .ref s_nexts, .int 0, .int 0, .int 0, .int 0, .int 0, .ref pr, .ref s_locals, .ref s_stack, .ref s_bottoms, .int 0]))] := hD
  refine lv_aload_n hx hb dX8_begin_4 rfl (lv_at hl 0 rfl) ?_
  refine lv_iconst (v := 0) hx hb dX8_begin_5 (by decide) ?_
  refine va_put (D := (dC, dI)) (ci := 7) (v := .int 0) (ty := .int) (C := RX8) (T := TX8) (N := 13) hx hb hts hiX8 tyX8 tyX8_ok nmX8 hown hK hP hD hS 0 rfl rfl 12 (by decide) (hts (.fieldLink RX8 28 "RegisterMill$StackMachine" "top" "I") (by decide +kernel)) (fun _ h9 => h9) rfl (by decide +kernel) rfl rfl (Nat.le_of_ble_eq_true rfl) dX8_begin_6 (fun H locs hP hD hS => ?_)
  have hP : va_P (dC, dI) vwCl [(sm, .inr (7, [.ref s_memory, .ref s_funcs, .ref s_nexts, .int 0, .int 0, .int 0, .int 0, .int 0, .ref pr, .ref s_locals, .ref s_stack, .ref s_bottoms, .int 0]))] H := hP
  have hD : va_D A [(sm, .inr (7, [.ref s_memory, .ref s_funcs, .ref s_nexts, .int 0, .int 0, .int 0, .int 0, .int 0, .ref pr, .ref s_locals, .ref s_stack, .ref s_bottoms, .int 0]))] := hD
  have hP9 := hP.sub (ws' := [(sm, .inr (7, [.ref s_memory, .ref s_funcs, .ref s_nexts, .int 0, .int 0, .int 0, .int 0, .int 0, .ref pr, .ref s_locals, .ref s_stack, .ref s_bottoms, .int 0]))]) [0] rfl
  have hD9 := hD.sub (ws' := [(sm, .inr (7, [.ref s_memory, .ref s_funcs, .ref s_nexts, .int 0, .int 0, .int 0, .int 0, .int 0, .ref pr, .ref s_locals, .ref s_stack, .ref s_bottoms, .int 0]))]) [0] (by decide) rfl
  exact W.vret hx hb hr (fun t ht hW => ⟨⟨(), rfl, trivial, pz_Bof hP9 hK hD9 ht hW⟩, hS.F ht⟩) hS.2.2 dX8_begin_9

def wq_X7_begin : List Cond := .code yX7_begin cX7_begin 1 none :: ([.code yX4_begin cX4_begin 1 none, .fieldLink RX4 21 "RegisterMill$Machine" "end" "I", .fieldLink RX4 25 "RegisterMill$Machine" "told" "I", .fieldLink RX4 28 "RegisterMill$Machine" "steps" "I", .fieldLink RX4 31 "RegisterMill$Machine" "calls" "I", .fieldLink RX4 34 "RegisterMill$Machine" "nested" "I", .methodLink RX7 25 yX4_begin, .sameMethod "RegisterMill$Machine" "RegisterMill$Machine" "begin" "()V", .superclass RX7 RX4, .instanceMethod yX4_begin, .initialized RX4, .fieldLink RX7 28 "RegisterMill$RegisterMachine" "answered" "I", .fieldLink RX7 18 "RegisterMill$RegisterMachine" "passed" "[I", .code yJ7_fill_53178 cJ7_fill_53178 4 none, .methodLink RX7 32 yJ7_fill_53178, .static yJ7_fill_53178, .initialized RJ7] ++ wsX70)
set_option maxRecDepth 20000 in
theorem gq_X7_begin_X4_begin_X7_25 : GoodIn wq_X7_begin (va_wsSU RX7 25 yX4_begin wq_X4_begin_X7) := goodIn_r _ [7, 8, 9, 10, 11, 1, 2, 3, 4, 5, 6, 18, 19, 20, 21, 22, 23, 24, 25, 26, 27, 28, 29, 30] (by decide +kernel) (by decide +kernel)
set_option maxRecDepth 20000 in
theorem gq_X7_begin_J7_fill_53178_6_32 : GoodIn wq_X7_begin (va_wsS RX7 32 yJ7_fill_53178 wq_J7_fill_53178_6) := goodIn_r _ [15, 16, 17, 14] (by decide +kernel) (by decide +kernel)
set_option maxHeartbeats 4000000 in
set_option maxRecDepth 100000 in
/-- RegisterMachine.begin -/
theorem c_X7_begin (l : Launch) (dC : Nat → ClassId) (dI : Nat → Nat → Nat) (cyI : ClassId) (sz : Nat) (rm : Nat) (r_memory : Nat) (r_funcs : Nat) (r_nexts : Nat) (t_code : Nat) (r_registers : Nat) (r_slotCells : Nat) (r_passed : Nat) : Met l yX7_begin wq_X7_begin ({ frames := 1, cells := 0, slots := 0, locals := 23 }) (va_Pc [.ref rm] (pz_pre dC dI [(cyI, .int)] [(rm, .inr (6, [.ref r_memory, .ref r_funcs, .ref r_nexts, .int 0, .int 0, .int 0, .int 0, .int 0, .ref t_code, .ref r_registers, .ref r_slotCells, .ref r_passed, .int 0])), (r_passed, .inl (cyI, 6, .inl (fun _ => 0)))] sz)) (va_Qv (S := Unit) (fun _ => True) (fun _ t => pz_B dC dI [(cyI, .int)] (va_A [(rm, .inr (6, [.ref r_memory, .ref r_funcs, .ref r_nexts, .int 0, .int 0, .int 0, .int 0, .int 0, .ref t_code, .ref r_registers, .ref r_slotCells, .ref r_passed, .int 0])), (r_passed, .inl (cyI, 6, .inl (fun _ => 0)))] sz) [(rm, .inr (6, [.ref r_memory, .ref r_funcs, .ref r_nexts, .int 0, .int 0, .int 0, .int 0, .int 0, .ref t_code, .ref r_registers, .ref r_slotCells, .ref r_passed, .int 0])), (r_passed, .inl (cyI, 6, .inl (fun _ => 0)))] t) (va_A [(rm, .inr (6, [.ref r_memory, .ref r_funcs, .ref r_nexts, .int 0, .int 0, .int 0, .int 0, .int 0, .ref t_code, .ref r_registers, .ref r_slotCells, .ref r_passed, .int 0])), (r_passed, .inl (cyI, 6, .inl (fun _ => 0)))] sz)) 0 0 (va_A [(rm, .inr (6, [.ref r_memory, .ref r_funcs, .ref r_nexts, .int 0, .int 0, .int 0, .int 0, .int 0, .ref t_code, .ref r_registers, .ref r_slotCells, .ref r_passed, .int 0])), (r_passed, .inl (cyI, 6, .inl (fun _ => 0)))] sz) := by
  refine Met.ofW (cc := cX7_begin) (maxL := 1) (ret := none) (by decide) rfl ?_
  intro p e s m args below meth c s₁ B hml hv
  obtain ⟨rfl, hsz, hP, hK, hD0, hNW⟩ := hv
  have hx := B.exec
  have hb := B.bytes
  have hr := B.returns
  have hts := atoms_spec (ws := wq_X7_begin) B.pre
  have hown : s.vm.findClass RX7 = some m.cls := findClass_of_methodNamed B.named
  have hlocks := B.notSynchronized
  have hiX7 : ∀ w ∈ wsX70, w ∈ wq_X7_begin := by decide +kernel
  subst hsz
  have hD := hD0.self (sz := s.heap.size)
  generalize hAe : va_A [(rm, .inr (6, [.ref r_memory, .ref r_funcs, .ref r_nexts, .int 0, .int 0, .int 0, .int 0, .int 0, .ref t_code, .ref r_registers, .ref r_slotCells, .ref r_passed, .int 0])), (r_passed, .inl (cyI, 6, .inl (fun _ => 0)))] s.heap.size = A at hD ⊢
  have hA : ∀ q : Nat, s.heap.size ≤ q → A q := fun q h => by rw [← hAe]; exact Or.inr h
  have hS : va_S A s.heap s.heap [] := va_S.rf
  have hl := lv_entry ([.ref rm]) (n := 1) (Nat.le_of_ble_eq_true rfl)
  rw [lg_entry_eq]
  generalize (lg_sl ([.ref rm]) ++ List.replicate (1 - (lg_sl ([.ref rm])).length) Slot.unset).toArray = ls at hl ⊢
  have hl : lv_has ls 1 [(0, .ref rm)] := hl
  refine lv_aload_n hx hb dX7_begin_0 rfl (lv_at hl 0 rfl) ?_
  have hPc := hP.sub (ws' := [(rm, .inr (6, [.ref r_memory, .ref r_funcs, .ref r_nexts, .int 0, .int 0, .int 0, .int 0, .int 0, .ref t_code, .ref r_registers, .ref r_slotCells, .ref r_passed, .int 0]))]) [0] rfl
  have hDc := hD.sub (ws' := [(rm, .inr (6, [.ref r_memory, .ref r_funcs, .ref r_nexts, .int 0, .int 0, .int 0, .int 0, .int 0, .ref t_code, .ref r_registers, .ref r_slotCells, .ref r_passed, .int 0]))]) [0] (by decide) rfl
  have hKc := hK.sub (tys' := [(cyI, .int)]) [0] rfl
  have hFc := va_free (wc := [(rm, .inr (6, [.ref r_memory, .ref r_funcs, .ref r_nexts, .int 0, .int 0, .int 0, .int 0, .int 0, .ref t_code, .ref r_registers, .ref r_slotCells, .ref r_passed, .int 0]))]) hD hS hA [0] rfl
  refine va_callv (va_runSU (C := RX7) (hK.1 6 _ rfl).2 (As := []) (rest := []) ⟨hx, hb, hml, hown, hts⟩ (c_X4_begin_X7 l dC dI cyI s.heap.size rm r_memory r_funcs r_nexts t_code r_registers r_slotCells r_passed) (va_cwSU 0 hts gq_X7_begin_X4_begin_X7_25 rfl rfl rfl (by decide +kernel) ⟨Nat.le_of_ble_eq_true rfl, Nat.le_of_ble_eq_true rfl⟩) ⟨pz_blind, va_recv hKc hPc (ci := 6) (q0 := 0) rfl rfl, pz_to hPc hKc hDc hNW⟩ rfl rfl hl.1 rfl (lv_room (Nat.le_of_ble_eq_true rfl)) dX7_begin_1 (by decide)) hS (fun q _ h => hFc q h) hFc (fun u t H1 locs ht hvm hw hB hz1 hk1 hS => ?_)
  obtain ⟨hP1, hK1, hD1⟩ := hB
  rw [ht] at hP1
  obtain ⟨hP, hD⟩ := va_join (wr := [(r_passed, .inl (cyI, 6, .inl (fun _ => 0)))]) (w1 := [(rm, .inr (6, [.ref r_memory, .ref r_funcs, .ref r_nexts, .int 0, .int 0, .int 0, .int 0, .int 0, .ref t_code, .ref r_registers, .ref r_slotCells, .ref r_passed, .int 0]))]) hP hD [0] [1] rfl rfl (by decide) (by decide) hk1 hFc hP1 hD1
  generalize H1 = H at hP hS ⊢
  have hP : va_P (dC, dI) vwCl [(r_passed, .inl (cyI, 6, .inl (fun _ => 0))), (rm, .inr (6, [.ref r_memory, .ref r_funcs, .ref r_nexts, .int 0, .int 0, .int 0, .int 0, .int 0, .ref t_code, .ref r_registers, .ref r_slotCells, .ref r_passed, .int 0]))] H := hP
  have hD : va_D A [(r_passed, .inl (cyI, 6, .inl (fun _ => 0))), (rm, .inr (6, [.ref r_memory, .ref r_funcs, .ref r_nexts, .int 0, .int 0, .int 0, .int 0, .int 0, .ref t_code, .ref r_registers, .ref r_slotCells, .ref r_passed, .int 0]))] := hD
  refine lv_aload_n hx hb dX7_begin_4 rfl (lv_at hl 0 rfl) ?_
  refine lv_iconst (v := 0) hx hb dX7_begin_5 (by decide) ?_
  refine va_put (D := (dC, dI)) (ci := 6) (v := .int 0) (ty := .int) (C := RX7) (T := TX7) (N := 13) hx hb hts hiX7 tyX7 tyX7_ok nmX7 hown hK hP hD hS 1 rfl rfl 12 (by decide) (hts (.fieldLink RX7 28 "RegisterMill$RegisterMachine" "answered" "I") (by decide +kernel)) (fun _ h9 => h9) rfl (by decide +kernel) rfl rfl (Nat.le_of_ble_eq_true rfl) dX7_begin_6 (fun H locs hP hD hS => ?_)
  have hP : va_P (dC, dI) vwCl [(r_passed, .inl (cyI, 6, .inl (fun _ => 0))), (rm, .inr (6, [.ref r_memory, .ref r_funcs, .ref r_nexts, .int 0, .int 0, .int 0, .int 0, .int 0, .ref t_code, .ref r_registers, .ref r_slotCells, .ref r_passed, .int 0]))] H := hP
  have hD : va_D A [(r_passed, .inl (cyI, 6, .inl (fun _ => 0))), (rm, .inr (6, [.ref r_memory, .ref r_funcs, .ref r_nexts, .int 0, .int 0, .int 0, .int 0, .int 0, .ref t_code, .ref r_registers, .ref r_slotCells, .ref r_passed, .int 0]))] := hD
  refine lv_aload_n hx hb dX7_begin_9 rfl (lv_at hl 0 rfl) ?_
  refine va_get (D := (dC, dI)) (ci := 6) (v := .ref r_passed) (C := RX7) (T := TX7) (N := 13) hx hb hts hiX7 hown hK hP 1 rfl rfl 11 (by decide) (hts (.fieldLink RX7 18 "RegisterMill$RegisterMachine" "passed" "[I") (by decide +kernel)) (fun _ h9 => h9) rfl dX7_begin_10 ?_
  refine lv_iconst (v := 0) hx hb dX7_begin_13 (by decide) ?_
  have hPc := hP.sub (ws' := [(r_passed, .inl (cyI, 6, .inl (fun _ => 0)))]) [0] rfl
  have hDc := hD.sub (ws' := [(r_passed, .inl (cyI, 6, .inl (fun _ => 0)))]) [0] (by decide) rfl
  have hKc := hK.sub (tys' := [(cyI, .int)]) [0] rfl
  have hFc := va_free (wc := [(r_passed, .inl (cyI, 6, .inl (fun _ => 0)))]) hD hS hA [0] rfl
  refine va_callv (va_runS (As := [.ref r_passed, .int 0]) (rest := []) ⟨hx, hb, hml, hown, hts⟩ (c_J7_fill_53178_6 l dC dI cyI H.size r_passed) (va_cwS 2 hts gq_X7_begin_J7_fill_53178_6_32 rfl rfl rfl (by decide +kernel) ⟨Nat.le_of_ble_eq_true rfl, Nat.le_of_ble_eq_true rfl⟩) ⟨pz_blind, pz_to hPc hKc hDc hNW⟩ rfl rfl hl.1 rfl (lv_room (Nat.le_of_ble_eq_true rfl)) dX7_begin_14 (by decide)) hS (fun q _ h => hFc q h) hFc (fun u t H1 locs ht hvm hw hB hz1 hk1 hS => ?_)
  obtain ⟨hP1, hK1, hD1⟩ := hB
  rw [ht] at hP1
  obtain ⟨hP, hD⟩ := va_join (wr := [(rm, .inr (6, [.ref r_memory, .ref r_funcs, .ref r_nexts, .int 0, .int 0, .int 0, .int 0, .int 0, .ref t_code, .ref r_registers, .ref r_slotCells, .ref r_passed, .int 0]))]) (w1 := [(r_passed, .inl (cyI, 6, .inl (fun _ => 0)))]) hP hD [0] [1] rfl rfl (by decide) (by decide) hk1 hFc hP1 hD1
  generalize H1 = H at hP hS ⊢
  have hP : va_P (dC, dI) vwCl [(rm, .inr (6, [.ref r_memory, .ref r_funcs, .ref r_nexts, .int 0, .int 0, .int 0, .int 0, .int 0, .ref t_code, .ref r_registers, .ref r_slotCells, .ref r_passed, .int 0])), (r_passed, .inl (cyI, 6, .inl (fun _ => 0)))] H := hP
  have hD : va_D A [(rm, .inr (6, [.ref r_memory, .ref r_funcs, .ref r_nexts, .int 0, .int 0, .int 0, .int 0, .int 0, .ref t_code, .ref r_registers, .ref r_slotCells, .ref r_passed, .int 0])), (r_passed, .inl (cyI, 6, .inl (fun _ => 0)))] := hD
  have hP9 := hP.sub (ws' := [(rm, .inr (6, [.ref r_memory, .ref r_funcs, .ref r_nexts, .int 0, .int 0, .int 0, .int 0, .int 0, .ref t_code, .ref r_registers, .ref r_slotCells, .ref r_passed, .int 0])), (r_passed, .inl (cyI, 6, .inl (fun _ => 0)))]) [0, 1] rfl
  have hD9 := hD.sub (ws' := [(rm, .inr (6, [.ref r_memory, .ref r_funcs, .ref r_nexts, .int 0, .int 0, .int 0, .int 0, .int 0, .ref t_code, .ref r_registers, .ref r_slotCells, .ref r_passed, .int 0])), (r_passed, .inl (cyI, 6, .inl (fun _ => 0)))]) [0, 1] (by decide) rfl
  exact W.vret hx hb hr (fun t ht hW => ⟨⟨(), rfl, trivial, pz_Bof hP9 hK hD9 ht hW⟩, hS.F ht⟩) hS.2.2 dX7_begin_17

def wq_X11_isTurned : List Cond := .code yX11_isTurned cX11_isTurned 2 (some .boolean) :: ([.fieldLink RX11 28 "RegisterMill" "turner" "LRegisterMill$Turner;", .fieldLink RX11 90 "RegisterMill$Turner" "registers" "I"] ++ wsX110 ++ wsX90)
set_option maxHeartbeats 4000000 in
set_option maxRecDepth 100000 in
/-- a fresh object is not turned -/
theorem c_X11_isTurned (l : Launch) (dC : Nat → ClassId) (dI : Nat → Nat → Nat) (cyI : ClassId) (sz : Nat) (h0 : Nat) (pr : Nat) (ck : Nat) (tu : Nat) (sm : Nat) (rm : Nat) (t_places : Nat) (t_live : Nat) (t_homes : Nat) (t_code : Nat) (t_writer : Nat) (t_placeCounts : Nat) (p0 : Int32) : Met l yX11_isTurned wq_X11_isTurned ({ frames := 0, cells := 0, slots := 0, locals := 0 }) (va_Pc [.ref h0, .int p0] (pz_pre dC dI [(cyI, .int)] [(h0, .inr (10, [.ref pr, .ref ck, .ref tu, .ref sm, .ref rm])), (tu, .inr (8, [.ref pr, .ref t_places, .ref t_live, .ref t_homes, .ref t_code, .ref t_writer, .ref t_placeCounts, .int 0]))] sz)) (va_Qi (S := Unit) (fun (r : Int32) _ => r = 0) (fun _ t => pz_B dC dI [(cyI, .int)] (va_A [(h0, .inr (10, [.ref pr, .ref ck, .ref tu, .ref sm, .ref rm])), (tu, .inr (8, [.ref pr, .ref t_places, .ref t_live, .ref t_homes, .ref t_code, .ref t_writer, .ref t_placeCounts, .int 0]))] sz) [(h0, .inr (10, [.ref pr, .ref ck, .ref tu, .ref sm, .ref rm])), (tu, .inr (8, [.ref pr, .ref t_places, .ref t_live, .ref t_homes, .ref t_code, .ref t_writer, .ref t_placeCounts, .int 0]))] t) (va_A [(h0, .inr (10, [.ref pr, .ref ck, .ref tu, .ref sm, .ref rm])), (tu, .inr (8, [.ref pr, .ref t_places, .ref t_live, .ref t_homes, .ref t_code, .ref t_writer, .ref t_placeCounts, .int 0]))] sz)) 0 0 (va_A [(h0, .inr (10, [.ref pr, .ref ck, .ref tu, .ref sm, .ref rm])), (tu, .inr (8, [.ref pr, .ref t_places, .ref t_live, .ref t_homes, .ref t_code, .ref t_writer, .ref t_placeCounts, .int 0]))] sz) := by
  refine Met.ofW (cc := cX11_isTurned) (maxL := 2) (ret := (some .boolean)) (by decide) rfl ?_
  intro p e s m args below meth c s₁ B hml hv
  obtain ⟨rfl, hsz, hP, hK, hD0, hNW⟩ := hv
  have hx := B.exec
  have hb := B.bytes
  have hr := B.returns
  have hts := atoms_spec (ws := wq_X11_isTurned) B.pre
  have hown : s.vm.findClass RX11 = some m.cls := findClass_of_methodNamed B.named
  have hlocks := B.notSynchronized
  have hiX11 : ∀ w ∈ wsX110, w ∈ wq_X11_isTurned := by decide +kernel
  have hiX9 : ∀ w ∈ wsX90, w ∈ wq_X11_isTurned := by decide +kernel
  subst hsz
  have hD := hD0.self (sz := s.heap.size)
  generalize hAe : va_A [(h0, .inr (10, [.ref pr, .ref ck, .ref tu, .ref sm, .ref rm])), (tu, .inr (8, [.ref pr, .ref t_places, .ref t_live, .ref t_homes, .ref t_code, .ref t_writer, .ref t_placeCounts, .int 0]))] s.heap.size = A at hD ⊢
  have hA : ∀ q : Nat, s.heap.size ≤ q → A q := fun q h => by rw [← hAe]; exact Or.inr h
  have hS : va_S A s.heap s.heap [] := va_S.rf
  have hl := lv_entry ([.ref h0, .int p0]) (n := 2) (Nat.le_of_ble_eq_true rfl)
  rw [lg_entry_eq]
  generalize (lg_sl ([.ref h0, .int p0]) ++ List.replicate (2 - (lg_sl ([.ref h0, .int p0])).length) Slot.unset).toArray = ls at hl ⊢
  have hl : lv_has ls 2 [(0, .ref h0), (1, .int p0)] := hl
  refine lv_aload_n hx hb dX11_isTurned_0 rfl (lv_at hl 0 rfl) ?_
  refine va_get (D := (dC, dI)) (ci := 10) (v := .ref tu) (C := RX11) (T := TX11) (N := 5) hx hb hts hiX11 hown hK hP 0 rfl rfl 2 (by decide) (hts (.fieldLink RX11 28 "RegisterMill" "turner" "LRegisterMill$Turner;") (by decide +kernel)) (fun _ h9 => h9) rfl dX11_isTurned_1 ?_
  refine va_get (D := (dC, dI)) (ci := 8) (v := .int 0) (C := RX9) (T := TX9) (N := 8) hx hb hts hiX9 hown hK hP 1 rfl rfl 7 (by decide) (hts (.fieldLink RX11 90 "RegisterMill$Turner" "registers" "I") (by decide +kernel)) (fun _ h9 => h9) rfl dX11_isTurned_4 ?_
  refine lv_if_eq (tgt := 25) hx hb dX11_isTurned_7 (by decide) (fun _ => ?_) (fun h => absurd h (by decide))
  refine lv_iconst (v := 0) hx hb dX11_isTurned_25 (by decide) ?_
  have hP9 := hP.sub (ws' := [(h0, .inr (10, [.ref pr, .ref ck, .ref tu, .ref sm, .ref rm])), (tu, .inr (8, [.ref pr, .ref t_places, .ref t_live, .ref t_homes, .ref t_code, .ref t_writer, .ref t_placeCounts, .int 0]))]) [0, 1] rfl
  have hD9 := hD.sub (ws' := [(h0, .inr (10, [.ref pr, .ref ck, .ref tu, .ref sm, .ref rm])), (tu, .inr (8, [.ref pr, .ref t_places, .ref t_live, .ref t_homes, .ref t_code, .ref t_writer, .ref t_placeCounts, .int 0]))]) [0, 1] (by decide) rfl
  have h9 : (0 : Int32) = 0 := rfl
  exact W.zret (v := (0)) hx hb hr (by decide) (fun t ht hW => ⟨⟨_, (), rfl, h9, pz_Bof hP9 hK hD9 ht hW⟩, hS.F ht⟩) hS.2.2 dX11_isTurned_26

def wq_X11_machineOf_0 : List Cond := .code yX11_machineOf cX11_machineOf 2 (some (.object "RegisterMill$Machine")) :: ([.fieldLink RX11 35 "RegisterMill" "stackMachine" "LRegisterMill$Machine;"] ++ wsX110)
set_option maxHeartbeats 4000000 in
set_option maxRecDepth 100000 in
/-- machineOf(0) -/
theorem c_X11_machineOf_0 (l : Launch) (dC : Nat → ClassId) (dI : Nat → Nat → Nat) (cyI : ClassId) (sz : Nat) (h0 : Nat) (pr : Nat) (ck : Nat) (tu : Nat) (sm : Nat) (rm : Nat) : Met l yX11_machineOf wq_X11_machineOf_0 ({ frames := 0, cells := 0, slots := 0, locals := 0 }) (va_Pc [.ref h0, .int 0] (pz_pre dC dI [(cyI, .int)] [(h0, .inr (10, [.ref pr, .ref ck, .ref tu, .ref sm, .ref rm]))] sz)) (va_Qr (S := Unit) (fun _ => True) (fun _ r t => r = sm ∧ pz_B dC dI [(cyI, .int)] (va_A [(h0, .inr (10, [.ref pr, .ref ck, .ref tu, .ref sm, .ref rm]))] sz) [(h0, .inr (10, [.ref pr, .ref ck, .ref tu, .ref sm, .ref rm]))] t) (va_A [(h0, .inr (10, [.ref pr, .ref ck, .ref tu, .ref sm, .ref rm]))] sz)) 0 0 (va_A [(h0, .inr (10, [.ref pr, .ref ck, .ref tu, .ref sm, .ref rm]))] sz) := by
  refine Met.ofW (cc := cX11_machineOf) (maxL := 2) (ret := (some (.object "RegisterMill$Machine"))) (by decide) rfl ?_
  intro p e s m args below meth c s₁ B hml hv
  obtain ⟨rfl, hsz, hP, hK, hD0, hNW⟩ := hv
  have hx := B.exec
  have hb := B.bytes
  have hr := B.returns
  have hts := atoms_spec (ws := wq_X11_machineOf_0) B.pre
  have hown : s.vm.findClass RX11 = some m.cls := findClass_of_methodNamed B.named
  have hlocks := B.notSynchronized
  have hiX11 : ∀ w ∈ wsX110, w ∈ wq_X11_machineOf_0 := by decide +kernel
  subst hsz
  have hD := hD0.self (sz := s.heap.size)
  generalize hAe : va_A [(h0, .inr (10, [.ref pr, .ref ck, .ref tu, .ref sm, .ref rm]))] s.heap.size = A at hD ⊢
  have hA : ∀ q : Nat, s.heap.size ≤ q → A q := fun q h => by rw [← hAe]; exact Or.inr h
  have hS : va_S A s.heap s.heap [] := va_S.rf
  have hl := lv_entry ([.ref h0, .int 0]) (n := 2) (Nat.le_of_ble_eq_true rfl)
  rw [lg_entry_eq]
  generalize (lg_sl ([.ref h0, .int 0]) ++ List.replicate (2 - (lg_sl ([.ref h0, .int 0])).length) Slot.unset).toArray = ls at hl ⊢
  have hl : lv_has ls 2 [(0, .ref h0), (1, .int 0)] := hl
  refine lv_iload_n hx hb dX11_machineOf_0 rfl (lv_at hl 1 rfl) ?_
  refine lv_if_ne (tgt := 11) hx hb dX11_machineOf_1 (by decide) (fun h => absurd h (by decide)) (fun _ => ?_)
  refine lv_aload_n hx hb dX11_machineOf_4 rfl (lv_at hl 0 rfl) ?_
  refine va_get (D := (dC, dI)) (ci := 10) (v := .ref sm) (C := RX11) (T := TX11) (N := 5) hx hb hts hiX11 hown hK hP 0 rfl rfl 3 (by decide) (hts (.fieldLink RX11 35 "RegisterMill" "stackMachine" "LRegisterMill$Machine;") (by decide +kernel)) (fun _ h9 => h9) rfl dX11_machineOf_5 ?_
  refine lv_goto (tgt := 15) hx hb dX11_machineOf_8 (by decide) ?_
  have hP9 := hP.sub (ws' := [(h0, .inr (10, [.ref pr, .ref ck, .ref tu, .ref sm, .ref rm]))]) [0] rfl
  have hD9 := hD.sub (ws' := [(h0, .inr (10, [.ref pr, .ref ck, .ref tu, .ref sm, .ref rm]))]) [0] (by decide) rfl
  exact W.aret (v := .ref sm) hx hb hr (Or.inl ⟨_, rfl⟩) (Or.inr ⟨_, rfl⟩) (fun t ht hW => ⟨⟨(), sm, rfl, trivial, rfl, pz_Bof hP9 hK hD9 ht hW⟩, hS.F ht⟩) hS.2.2 dX11_machineOf_15

def wq_X11_machineOf_1 : List Cond := .code yX11_machineOf cX11_machineOf 2 (some (.object "RegisterMill$Machine")) :: ([.fieldLink RX11 48 "RegisterMill" "registerMachine" "LRegisterMill$Machine;"] ++ wsX110)
set_option maxHeartbeats 4000000 in
set_option maxRecDepth 100000 in
/-- machineOf(1) -/
theorem c_X11_machineOf_1 (l : Launch) (dC : Nat → ClassId) (dI : Nat → Nat → Nat) (cyI : ClassId) (sz : Nat) (h0 : Nat) (pr : Nat) (ck : Nat) (tu : Nat) (sm : Nat) (rm : Nat) : Met l yX11_machineOf wq_X11_machineOf_1 ({ frames := 0, cells := 0, slots := 0, locals := 0 }) (va_Pc [.ref h0, .int 1] (pz_pre dC dI [(cyI, .int)] [(h0, .inr (10, [.ref pr, .ref ck, .ref tu, .ref sm, .ref rm]))] sz)) (va_Qr (S := Unit) (fun _ => True) (fun _ r t => r = rm ∧ pz_B dC dI [(cyI, .int)] (va_A [(h0, .inr (10, [.ref pr, .ref ck, .ref tu, .ref sm, .ref rm]))] sz) [(h0, .inr (10, [.ref pr, .ref ck, .ref tu, .ref sm, .ref rm]))] t) (va_A [(h0, .inr (10, [.ref pr, .ref ck, .ref tu, .ref sm, .ref rm]))] sz)) 0 0 (va_A [(h0, .inr (10, [.ref pr, .ref ck, .ref tu, .ref sm, .ref rm]))] sz) := by
  refine Met.ofW (cc := cX11_machineOf) (maxL := 2) (ret := (some (.object "RegisterMill$Machine"))) (by decide) rfl ?_
  intro p e s m args below meth c s₁ B hml hv
  obtain ⟨rfl, hsz, hP, hK, hD0, hNW⟩ := hv
  have hx := B.exec
  have hb := B.bytes
  have hr := B.returns
  have hts := atoms_spec (ws := wq_X11_machineOf_1) B.pre
  have hown : s.vm.findClass RX11 = some m.cls := findClass_of_methodNamed B.named
  have hlocks := B.notSynchronized
  have hiX11 : ∀ w ∈ wsX110, w ∈ wq_X11_machineOf_1 := by decide +kernel
  subst hsz
  have hD := hD0.self (sz := s.heap.size)
  generalize hAe : va_A [(h0, .inr (10, [.ref pr, .ref ck, .ref tu, .ref sm, .ref rm]))] s.heap.size = A at hD ⊢
  have hA : ∀ q : Nat, s.heap.size ≤ q → A q := fun q h => by rw [← hAe]; exact Or.inr h
  have hS : va_S A s.heap s.heap [] := va_S.rf
  have hl := lv_entry ([.ref h0, .int 1]) (n := 2) (Nat.le_of_ble_eq_true rfl)
  rw [lg_entry_eq]
  generalize (lg_sl ([.ref h0, .int 1]) ++ List.replicate (2 - (lg_sl ([.ref h0, .int 1])).length) Slot.unset).toArray = ls at hl ⊢
  have hl : lv_has ls 2 [(0, .ref h0), (1, .int 1)] := hl
  refine lv_iload_n hx hb dX11_machineOf_0 rfl (lv_at hl 1 rfl) ?_
  refine lv_if_ne (tgt := 11) hx hb dX11_machineOf_1 (by decide) (fun _ => ?_) (fun h => absurd h (by decide))
  refine lv_aload_n hx hb dX11_machineOf_11 rfl (lv_at hl 0 rfl) ?_
  refine va_get (D := (dC, dI)) (ci := 10) (v := .ref rm) (C := RX11) (T := TX11) (N := 5) hx hb hts hiX11 hown hK hP 0 rfl rfl 4 (by decide) (hts (.fieldLink RX11 48 "RegisterMill" "registerMachine" "LRegisterMill$Machine;") (by decide +kernel)) (fun _ h9 => h9) rfl dX11_machineOf_12 ?_
  have hP9 := hP.sub (ws' := [(h0, .inr (10, [.ref pr, .ref ck, .ref tu, .ref sm, .ref rm]))]) [0] rfl
  have hD9 := hD.sub (ws' := [(h0, .inr (10, [.ref pr, .ref ck, .ref tu, .ref sm, .ref rm]))]) [0] (by decide) rfl
  exact W.aret (v := .ref rm) hx hb hr (Or.inl ⟨_, rfl⟩) (Or.inr ⟨_, rfl⟩) (fun t ht hW => ⟨⟨(), rm, rfl, trivial, rfl, pz_Bof hP9 hK hD9 ht hW⟩, hS.F ht⟩) hS.2.2 dX11_machineOf_15

def wq_X11_beginMachines : List Cond := .code yX11_beginMachines cX11_beginMachines 1 none :: ([.fieldLink RX11 35 "RegisterMill" "stackMachine" "LRegisterMill$Machine;", .code yX8_begin cX8_begin 1 none, .code yX4_begin cX4_begin 1 none, .fieldLink RX4 21 "RegisterMill$Machine" "end" "I", .fieldLink RX4 25 "RegisterMill$Machine" "told" "I", .fieldLink RX4 28 "RegisterMill$Machine" "steps" "I", .fieldLink RX4 31 "RegisterMill$Machine" "calls" "I", .fieldLink RX4 34 "RegisterMill$Machine" "nested" "I", .methodLink RX8 25 yX4_begin, .sameMethod "RegisterMill$Machine" "RegisterMill$Machine" "begin" "()V", .superclass RX8 RX4, .instanceMethod yX4_begin, .initialized RX4, .fieldLink RX8 28 "RegisterMill$StackMachine" "top" "I", .methodLink RX11 168 ⟨"RegisterMill$Machine", "begin", "()V"⟩, .selects RX8 ⟨"RegisterMill$Machine", "begin", "()V"⟩ yX8_begin, .instanceMethod yX8_begin, .initialized RX8, .fieldLink RX11 48 "RegisterMill" "registerMachine" "LRegisterMill$Machine;", .code yX7_begin cX7_begin 1 none, .methodLink RX7 25 yX4_begin, .superclass RX7 RX4, .fieldLink RX7 28 "RegisterMill$RegisterMachine" "answered" "I", .fieldLink RX7 18 "RegisterMill$RegisterMachine" "passed" "[I", .code yJ7_fill_53178 cJ7_fill_53178 4 none, .methodLink RX7 32 yJ7_fill_53178, .static yJ7_fill_53178, .initialized RJ7, .selects RX7 ⟨"RegisterMill$Machine", "begin", "()V"⟩ yX7_begin, .instanceMethod yX7_begin, .initialized RX7] ++ wsX110 ++ wsX80 ++ wsX70)
set_option maxRecDepth 20000 in
theorem gq_X11_beginMachines_X8_begin_168X8 : GoodIn wq_X11_beginMachines (va_wsO RX11 168 RX8 "RegisterMill$Machine" ⟨"RegisterMill$Machine", "begin", "()V"⟩ yX8_begin wq_X8_begin) := goodIn_r _ [15, 10, 12, 16, 17, 18, 2, 3, 4, 5, 6, 7, 8, 9, 10, 11, 12, 13, 14, 37, 38, 39, 40, 41, 42, 43, 44, 45, 46, 47, 48, 49] (by decide +kernel) (by decide +kernel)
set_option maxRecDepth 20000 in
theorem gq_X11_beginMachines_X7_begin_168X7 : GoodIn wq_X11_beginMachines (va_wsO RX11 168 RX7 "RegisterMill$Machine" ⟨"RegisterMill$Machine", "begin", "()V"⟩ yX7_begin wq_X7_begin) := goodIn_r _ [15, 10, 12, 29, 30, 31, 20, 3, 4, 5, 6, 7, 8, 21, 10, 22, 12, 13, 23, 24, 25, 26, 27, 28, 50, 51, 52, 53, 54, 55, 56, 57, 58, 59, 60, 61, 62] (by decide +kernel) (by decide +kernel)
set_option maxHeartbeats 4000000 in
set_option maxRecDepth 100000 in
/-- beginMachines -/
theorem c_X11_beginMachines (l : Launch) (dC : Nat → ClassId) (dI : Nat → Nat → Nat) (cyI : ClassId) (sz : Nat) (h0 : Nat) (pr : Nat) (ck : Nat) (tu : Nat) (sm : Nat) (rm : Nat) (s_memory : Nat) (s_funcs : Nat) (s_nexts : Nat) (s_locals : Nat) (s_stack : Nat) (s_bottoms : Nat) (r_memory : Nat) (r_funcs : Nat) (r_nexts : Nat) (t_code : Nat) (r_registers : Nat) (r_slotCells : Nat) (r_passed : Nat) : Met l yX11_beginMachines wq_X11_beginMachines ({ frames := 2, cells := 0, slots := 0, locals := 43 }) (va_Pc [.ref h0] (pz_pre dC dI [(cyI, .int)] [(h0, .inr (10, [.ref pr, .ref ck, .ref tu, .ref sm, .ref rm])), (sm, .inr (7, [.ref s_memory, .ref s_funcs, .ref s_nexts, .int 0, .int 0, .int 0, .int 0, .int 0, .ref pr, .ref s_locals, .ref s_stack, .ref s_bottoms, .int 0])), (rm, .inr (6, [.ref r_memory, .ref r_funcs, .ref r_nexts, .int 0, .int 0, .int 0, .int 0, .int 0, .ref t_code, .ref r_registers, .ref r_slotCells, .ref r_passed, .int 0])), (r_passed, .inl (cyI, 6, .inl (fun _ => 0)))] sz)) (va_Qv (S := Unit) (fun _ => True) (fun _ t => pz_B dC dI [(cyI, .int)] (va_A [(h0, .inr (10, [.ref pr, .ref ck, .ref tu, .ref sm, .ref rm])), (sm, .inr (7, [.ref s_memory, .ref s_funcs, .ref s_nexts, .int 0, .int 0, .int 0, .int 0, .int 0, .ref pr, .ref s_locals, .ref s_stack, .ref s_bottoms, .int 0])), (rm, .inr (6, [.ref r_memory, .ref r_funcs, .ref r_nexts, .int 0, .int 0, .int 0, .int 0, .int 0, .ref t_code, .ref r_registers, .ref r_slotCells, .ref r_passed, .int 0])), (r_passed, .inl (cyI, 6, .inl (fun _ => 0)))] sz) [(h0, .inr (10, [.ref pr, .ref ck, .ref tu, .ref sm, .ref rm])), (sm, .inr (7, [.ref s_memory, .ref s_funcs, .ref s_nexts, .int 0, .int 0, .int 0, .int 0, .int 0, .ref pr, .ref s_locals, .ref s_stack, .ref s_bottoms, .int 0])), (rm, .inr (6, [.ref r_memory, .ref r_funcs, .ref r_nexts, .int 0, .int 0, .int 0, .int 0, .int 0, .ref t_code, .ref r_registers, .ref r_slotCells, .ref r_passed, .int 0])), (r_passed, .inl (cyI, 6, .inl (fun _ => 0)))] t) (va_A [(h0, .inr (10, [.ref pr, .ref ck, .ref tu, .ref sm, .ref rm])), (sm, .inr (7, [.ref s_memory, .ref s_funcs, .ref s_nexts, .int 0, .int 0, .int 0, .int 0, .int 0, .ref pr, .ref s_locals, .ref s_stack, .ref s_bottoms, .int 0])), (rm, .inr (6, [.ref r_memory, .ref r_funcs, .ref r_nexts, .int 0, .int 0, .int 0, .int 0, .int 0, .ref t_code, .ref r_registers, .ref r_slotCells, .ref r_passed, .int 0])), (r_passed, .inl (cyI, 6, .inl (fun _ => 0)))] sz)) 0 0 (va_A [(h0, .inr (10, [.ref pr, .ref ck, .ref tu, .ref sm, .ref rm])), (sm, .inr (7, [.ref s_memory, .ref s_funcs, .ref s_nexts, .int 0, .int 0, .int 0, .int 0, .int 0, .ref pr, .ref s_locals, .ref s_stack, .ref s_bottoms, .int 0])), (rm, .inr (6, [.ref r_memory, .ref r_funcs, .ref r_nexts, .int 0, .int 0, .int 0, .int 0, .int 0, .ref t_code, .ref r_registers, .ref r_slotCells, .ref r_passed, .int 0])), (r_passed, .inl (cyI, 6, .inl (fun _ => 0)))] sz) := by
  refine Met.ofW (cc := cX11_beginMachines) (maxL := 1) (ret := none) (by decide) rfl ?_
  intro p e s m args below meth c s₁ B hml hv
  obtain ⟨rfl, hsz, hP, hK, hD0, hNW⟩ := hv
  have hx := B.exec
  have hb := B.bytes
  have hr := B.returns
  have hts := atoms_spec (ws := wq_X11_beginMachines) B.pre
  have hown : s.vm.findClass RX11 = some m.cls := findClass_of_methodNamed B.named
  have hlocks := B.notSynchronized
  have hiX11 : ∀ w ∈ wsX110, w ∈ wq_X11_beginMachines := by decide +kernel
  have hiX8 : ∀ w ∈ wsX80, w ∈ wq_X11_beginMachines := by decide +kernel
  have hiX7 : ∀ w ∈ wsX70, w ∈ wq_X11_beginMachines := by decide +kernel
  subst hsz
  have hD := hD0.self (sz := s.heap.size)
  generalize hAe : va_A [(h0, .inr (10, [.ref pr, .ref ck, .ref tu, .ref sm, .ref rm])), (sm, .inr (7, [.ref s_memory, .ref s_funcs, .ref s_nexts, .int 0, .int 0, .int 0, .int 0, .int 0, .ref pr, .ref s_locals, .ref s_stack, .ref s_bottoms, .int 0])), (rm, .inr (6, [.ref r_memory, .ref r_funcs, .ref r_nexts, .int 0, .int 0, .int 0, .int 0, .int 0, .ref t_code, .ref r_registers, .ref r_slotCells, .ref r_passed, .int 0])), (r_passed, .inl (cyI, 6, .inl (fun _ => 0)))] s.heap.size = A at hD ⊢
  have hA : ∀ q : Nat, s.heap.size ≤ q → A q := fun q h => by rw [← hAe]; exact Or.inr h
  have hS : va_S A s.heap s.heap [] := va_S.rf
  have hl := lv_entry ([.ref h0]) (n := 1) (Nat.le_of_ble_eq_true rfl)
  rw [lg_entry_eq]
  generalize (lg_sl ([.ref h0]) ++ List.replicate (1 - (lg_sl ([.ref h0])).length) Slot.unset).toArray = ls at hl ⊢
  have hl : lv_has ls 1 [(0, .ref h0)] := hl
  refine lv_aload_n hx hb dX11_beginMachines_0 rfl (lv_at hl 0 rfl) ?_
  refine va_get (D := (dC, dI)) (ci := 10) (v := .ref sm) (C := RX11) (T := TX11) (N := 5) hx hb hts hiX11 hown hK hP 0 rfl rfl 3 (by decide) (hts (.fieldLink RX11 35 "RegisterMill" "stackMachine" "LRegisterMill$Machine;") (by decide +kernel)) (fun _ h9 => h9) rfl dX11_beginMachines_1 ?_
  have hPc := hP.sub (ws' := [(sm, .inr (7, [.ref s_memory, .ref s_funcs, .ref s_nexts, .int 0, .int 0, .int 0, .int 0, .int 0, .ref pr, .ref s_locals, .ref s_stack, .ref s_bottoms, .int 0]))]) [1] rfl
  have hDc := hD.sub (ws' := [(sm, .inr (7, [.ref s_memory, .ref s_funcs, .ref s_nexts, .int 0, .int 0, .int 0, .int 0, .int 0, .ref pr, .ref s_locals, .ref s_stack, .ref s_bottoms, .int 0]))]) [1] (by decide) rfl
  have hKc := hK.sub (tys' := [(cyI, .int)]) [0] rfl
  have hFc := va_free (wc := [(sm, .inr (7, [.ref s_memory, .ref s_funcs, .ref s_nexts, .int 0, .int 0, .int 0, .int 0, .int 0, .ref pr, .ref s_locals, .ref s_stack, .ref s_bottoms, .int 0]))]) hD hS hA [1] rfl
  refine va_callv (va_runU (As := []) (rest := []) ⟨hx, hb, hml, hown, hts⟩ (c_X8_begin l dC dI cyI s.heap.size sm s_memory s_funcs s_nexts pr s_locals s_stack s_bottoms) (va_cwO 0 hts gq_X11_beginMachines_X8_begin_168X8 rfl rfl rfl (b0 := cX4_begin) (m0 := 1) (r0 := none) (by decide +kernel) (by decide +kernel) ⟨Nat.le_of_ble_eq_true rfl, Nat.le_of_ble_eq_true rfl⟩) ⟨pz_blind, va_recv hKc hPc (ci := 7) (q0 := 0) rfl rfl, pz_to hPc hKc hDc hNW⟩ rfl rfl hl.1 rfl (lv_room (Nat.le_of_ble_eq_true rfl)) dX11_beginMachines_4 (by decide)) hS (fun q _ h => hFc q h) hFc (fun u t H1 locs ht hvm hw hB hz1 hk1 hS => ?_)
  obtain ⟨hP1, hK1, hD1⟩ := hB
  rw [ht] at hP1
  obtain ⟨hP, hD⟩ := va_join (wr := [(h0, .inr (10, [.ref pr, .ref ck, .ref tu, .ref sm, .ref rm])), (rm, .inr (6, [.ref r_memory, .ref r_funcs, .ref r_nexts, .int 0, .int 0, .int 0, .int 0, .int 0, .ref t_code, .ref r_registers, .ref r_slotCells, .ref r_passed, .int 0])), (r_passed, .inl (cyI, 6, .inl (fun _ => 0)))]) (w1 := [(sm, .inr (7, [.ref s_memory, .ref s_funcs, .ref s_nexts, .int 0, .int 0, .int 0, .int 0, .int 0, .ref pr, .ref s_locals, .ref s_stack, .ref s_bottoms, .int 0]))]) hP hD [1] [0, 2, 3] rfl rfl (by decide) (by decide) hk1 hFc hP1 hD1
  generalize H1 = H at hP hS ⊢
  have hP : va_P (dC, dI) vwCl [(h0, .inr (10, [.ref pr, .ref ck, .ref tu, .ref sm, .ref rm])), (rm, .inr (6, [.ref r_memory, .ref r_funcs, .ref r_nexts, .int 0, .int 0, .int 0, .int 0, .int 0, .ref t_code, .ref r_registers, .ref r_slotCells, .ref r_passed, .int 0])), (r_passed, .inl (cyI, 6, .inl (fun _ => 0))), (sm, .inr (7, [.ref s_memory, .ref s_funcs, .ref s_nexts, .int 0, .int 0, .int 0, .int 0, .int 0, .ref pr, .ref s_locals, .ref s_stack, .ref s_bottoms, .int 0]))] H := hP
  have hD : va_D A [(h0, .inr (10, [.ref pr, .ref ck, .ref tu, .ref sm, .ref rm])), (rm, .inr (6, [.ref r_memory, .ref r_funcs, .ref r_nexts, .int 0, .int 0, .int 0, .int 0, .int 0, .ref t_code, .ref r_registers, .ref r_slotCells, .ref r_passed, .int 0])), (r_passed, .inl (cyI, 6, .inl (fun _ => 0))), (sm, .inr (7, [.ref s_memory, .ref s_funcs, .ref s_nexts, .int 0, .int 0, .int 0, .int 0, .int 0, .ref pr, .ref s_locals, .ref s_stack, .ref s_bottoms, .int 0]))] := hD
  refine lv_aload_n hx hb dX11_beginMachines_7 rfl (lv_at hl 0 rfl) ?_
  refine va_get (D := (dC, dI)) (ci := 10) (v := .ref rm) (C := RX11) (T := TX11) (N := 5) hx hb hts hiX11 hown hK hP 0 rfl rfl 4 (by decide) (hts (.fieldLink RX11 48 "RegisterMill" "registerMachine" "LRegisterMill$Machine;") (by decide +kernel)) (fun _ h9 => h9) rfl dX11_beginMachines_8 ?_
  have hPc := hP.sub (ws' := [(rm, .inr (6, [.ref r_memory, .ref r_funcs, .ref r_nexts, .int 0, .int 0, .int 0, .int 0, .int 0, .ref t_code, .ref r_registers, .ref r_slotCells, .ref r_passed, .int 0])), (r_passed, .inl (cyI, 6, .inl (fun _ => 0)))]) [1, 2] rfl
  have hDc := hD.sub (ws' := [(rm, .inr (6, [.ref r_memory, .ref r_funcs, .ref r_nexts, .int 0, .int 0, .int 0, .int 0, .int 0, .ref t_code, .ref r_registers, .ref r_slotCells, .ref r_passed, .int 0])), (r_passed, .inl (cyI, 6, .inl (fun _ => 0)))]) [1, 2] (by decide) rfl
  have hKc := hK.sub (tys' := [(cyI, .int)]) [0] rfl
  have hFc := va_free (wc := [(rm, .inr (6, [.ref r_memory, .ref r_funcs, .ref r_nexts, .int 0, .int 0, .int 0, .int 0, .int 0, .ref t_code, .ref r_registers, .ref r_slotCells, .ref r_passed, .int 0])), (r_passed, .inl (cyI, 6, .inl (fun _ => 0)))]) hD hS hA [1, 2] rfl
  refine va_callv (va_runU (As := []) (rest := []) ⟨hx, hb, hml, hown, hts⟩ (c_X7_begin l dC dI cyI H.size rm r_memory r_funcs r_nexts t_code r_registers r_slotCells r_passed) (va_cwO 0 hts gq_X11_beginMachines_X7_begin_168X7 rfl rfl rfl (b0 := cX4_begin) (m0 := 1) (r0 := none) (by decide +kernel) (by decide +kernel) ⟨Nat.le_of_ble_eq_true rfl, Nat.le_of_ble_eq_true rfl⟩) ⟨pz_blind, va_recv hKc hPc (ci := 6) (q0 := 0) rfl rfl, pz_to hPc hKc hDc hNW⟩ rfl rfl hl.1 rfl (lv_room (Nat.le_of_ble_eq_true rfl)) dX11_beginMachines_11 (by decide)) hS (fun q _ h => hFc q h) hFc (fun u t H1 locs ht hvm hw hB hz1 hk1 hS => ?_)
  obtain ⟨hP1, hK1, hD1⟩ := hB
  rw [ht] at hP1
  obtain ⟨hP, hD⟩ := va_join (wr := [(h0, .inr (10, [.ref pr, .ref ck, .ref tu, .ref sm, .ref rm])), (sm, .inr (7, [.ref s_memory, .ref s_funcs, .ref s_nexts, .int 0, .int 0, .int 0, .int 0, .int 0, .ref pr, .ref s_locals, .ref s_stack, .ref s_bottoms, .int 0]))]) (w1 := [(rm, .inr (6, [.ref r_memory, .ref r_funcs, .ref r_nexts, .int 0, .int 0, .int 0, .int 0, .int 0, .ref t_code, .ref r_registers, .ref r_slotCells, .ref r_passed, .int 0])), (r_passed, .inl (cyI, 6, .inl (fun _ => 0)))]) hP hD [1, 2] [0, 3] rfl rfl (by decide) (by decide) hk1 hFc hP1 hD1
  generalize H1 = H at hP hS ⊢
  have hP : va_P (dC, dI) vwCl [(h0, .inr (10, [.ref pr, .ref ck, .ref tu, .ref sm, .ref rm])), (sm, .inr (7, [.ref s_memory, .ref s_funcs, .ref s_nexts, .int 0, .int 0, .int 0, .int 0, .int 0, .ref pr, .ref s_locals, .ref s_stack, .ref s_bottoms, .int 0])), (rm, .inr (6, [.ref r_memory, .ref r_funcs, .ref r_nexts, .int 0, .int 0, .int 0, .int 0, .int 0, .ref t_code, .ref r_registers, .ref r_slotCells, .ref r_passed, .int 0])), (r_passed, .inl (cyI, 6, .inl (fun _ => 0)))] H := hP
  have hD : va_D A [(h0, .inr (10, [.ref pr, .ref ck, .ref tu, .ref sm, .ref rm])), (sm, .inr (7, [.ref s_memory, .ref s_funcs, .ref s_nexts, .int 0, .int 0, .int 0, .int 0, .int 0, .ref pr, .ref s_locals, .ref s_stack, .ref s_bottoms, .int 0])), (rm, .inr (6, [.ref r_memory, .ref r_funcs, .ref r_nexts, .int 0, .int 0, .int 0, .int 0, .int 0, .ref t_code, .ref r_registers, .ref r_slotCells, .ref r_passed, .int 0])), (r_passed, .inl (cyI, 6, .inl (fun _ => 0)))] := hD
  have hP9 := hP.sub (ws' := [(h0, .inr (10, [.ref pr, .ref ck, .ref tu, .ref sm, .ref rm])), (sm, .inr (7, [.ref s_memory, .ref s_funcs, .ref s_nexts, .int 0, .int 0, .int 0, .int 0, .int 0, .ref pr, .ref s_locals, .ref s_stack, .ref s_bottoms, .int 0])), (rm, .inr (6, [.ref r_memory, .ref r_funcs, .ref r_nexts, .int 0, .int 0, .int 0, .int 0, .int 0, .ref t_code, .ref r_registers, .ref r_slotCells, .ref r_passed, .int 0])), (r_passed, .inl (cyI, 6, .inl (fun _ => 0)))]) [0, 1, 2, 3] rfl
  have hD9 := hD.sub (ws' := [(h0, .inr (10, [.ref pr, .ref ck, .ref tu, .ref sm, .ref rm])), (sm, .inr (7, [.ref s_memory, .ref s_funcs, .ref s_nexts, .int 0, .int 0, .int 0, .int 0, .int 0, .ref pr, .ref s_locals, .ref s_stack, .ref s_bottoms, .int 0])), (rm, .inr (6, [.ref r_memory, .ref r_funcs, .ref r_nexts, .int 0, .int 0, .int 0, .int 0, .int 0, .ref t_code, .ref r_registers, .ref r_slotCells, .ref r_passed, .int 0])), (r_passed, .inl (cyI, 6, .inl (fun _ => 0)))]) [0, 1, 2, 3] (by decide) rfl
  exact W.vret hx hb hr (fun t ht hW => ⟨⟨(), rfl, trivial, pz_Bof hP9 hK hD9 ht hW⟩, hS.F ht⟩) hS.2.2 dX11_beginMachines_14
