/-- whether x names one of F things -/
def gz_has (F : Nat) (x : Int32) : Int32 := if x < 0 then 0 else if x < nI F then 1 else 0

def wq_X6_addFunc_g : List Cond := .code yX6_addFunc cX6_addFunc 3 (some .int) :: ([.fieldLink RX6 9 "RegisterMill$Program" "args" "[I", .fieldLink RX6 33 "RegisterMill$Program" "funcs" "I", .fieldLink RX6 15 "RegisterMill$Program" "locals" "[I", .fieldLink RX6 18 "RegisterMill$Program" "starts" "[I", .fieldLink RX6 37 "RegisterMill$Program" "words" "I", .fieldLink RX6 21 "RegisterMill$Program" "lengths" "[I"] ++ wsX60)
set_option maxHeartbeats 4000000 in
set_option maxRecDepth 100000 in
/-- addFunc -/
theorem c_X6_addFunc_g (l : Launch) (dC : Nat → ClassId) (dI : Nat → Nat → Nat) (cyI : ClassId) (sz : Nat) (pr : Nat) (p_args : Nat) (p_locals : Nat) (p_starts : Nat) (p_lengths : Nat) (p_ops : Nat) (p_numbers : Nat) (p_depths : Nat) (F : Nat) (Wd : Nat) (ck : Int32) (p0 : Int32) (p1 : Int32) (fa : Nat → Int32) (fl : Nat → Int32) (fs : Nat → Int32) (fn : Nat → Int32) (hF : F < 12) : Met l yX6_addFunc wq_X6_addFunc_g ({ frames := 0, cells := 0, slots := 0, locals := 0 }) (va_Pc [.ref pr, .int p0, .int p1] (pz_pre dC dI [(cyI, .int)] [(pr, .inr (5, [.ref p_args, .ref p_locals, .ref p_starts, .ref p_lengths, .ref p_ops, .ref p_numbers, .ref p_depths, .int (nI F), .int (nI Wd), .int ck])), (p_args, .inl (cyI, 12, .inl fa)), (p_locals, .inl (cyI, 12, .inl fl)), (p_starts, .inl (cyI, 12, .inl fs)), (p_lengths, .inl (cyI, 12, .inl fn))] sz)) (va_Qi (S := Unit) (fun (r : Int32) _ => r = nI F) (fun _ t => pz_B dC dI [(cyI, .int)] (va_A [(pr, .inr (5, [.ref p_args, .ref p_locals, .ref p_starts, .ref p_lengths, .ref p_ops, .ref p_numbers, .ref p_depths, .int (nI F), .int (nI Wd), .int ck])), (p_args, .inl (cyI, 12, .inl fa)), (p_locals, .inl (cyI, 12, .inl fl)), (p_starts, .inl (cyI, 12, .inl fs)), (p_lengths, .inl (cyI, 12, .inl fn))] sz) [(pr, .inr (5, [.ref p_args, .ref p_locals, .ref p_starts, .ref p_lengths, .ref p_ops, .ref p_numbers, .ref p_depths, .int (nI (F + 1)), .int (nI Wd), .int ck])), (p_args, .inl (cyI, 12, .inl (upd fa F p0))), (p_locals, .inl (cyI, 12, .inl (upd fl F p1))), (p_starts, .inl (cyI, 12, .inl (upd fs F (nI Wd)))), (p_lengths, .inl (cyI, 12, .inl (upd fn F 0)))] t) (va_A [(pr, .inr (5, [.ref p_args, .ref p_locals, .ref p_starts, .ref p_lengths, .ref p_ops, .ref p_numbers, .ref p_depths, .int (nI F), .int (nI Wd), .int ck])), (p_args, .inl (cyI, 12, .inl fa)), (p_locals, .inl (cyI, 12, .inl fl)), (p_starts, .inl (cyI, 12, .inl fs)), (p_lengths, .inl (cyI, 12, .inl fn))] sz)) 0 0 (va_A [(pr, .inr (5, [.ref p_args, .ref p_locals, .ref p_starts, .ref p_lengths, .ref p_ops, .ref p_numbers, .ref p_depths, .int (nI F), .int (nI Wd), .int ck])), (p_args, .inl (cyI, 12, .inl fa)), (p_locals, .inl (cyI, 12, .inl fl)), (p_starts, .inl (cyI, 12, .inl fs)), (p_lengths, .inl (cyI, 12, .inl fn))] sz) := by
  refine Met.ofW (cc := cX6_addFunc) (maxL := 3) (ret := (some .int)) (by decide) rfl ?_
  intro p e s m args below meth c s₁ B hml hv
  obtain ⟨rfl, hsz, hP, hK, hD0, hNW⟩ := hv
  have hx := B.exec
  have hb := B.bytes
  have hr := B.returns
  have hts := atoms_spec (ws := wq_X6_addFunc_g) B.pre
  have hown : s.vm.findClass RX6 = some m.cls := findClass_of_methodNamed B.named
  have hlocks := B.notSynchronized
  have hiX6 : ∀ w ∈ wsX60, w ∈ wq_X6_addFunc_g := by decide +kernel
  subst hsz
  have hD := hD0.self (sz := s.heap.size)
  generalize hAe : va_A [(pr, .inr (5, [.ref p_args, .ref p_locals, .ref p_starts, .ref p_lengths, .ref p_ops, .ref p_numbers, .ref p_depths, .int (nI F), .int (nI Wd), .int ck])), (p_args, .inl (cyI, 12, .inl fa)), (p_locals, .inl (cyI, 12, .inl fl)), (p_starts, .inl (cyI, 12, .inl fs)), (p_lengths, .inl (cyI, 12, .inl fn))] s.heap.size = A at hD ⊢
  have hA : ∀ q : Nat, s.heap.size ≤ q → A q := fun q h => by rw [← hAe]; exact Or.inr h
  have hS : va_S A s.heap s.heap [] := va_S.rf
  have hl := lv_entry ([.ref pr, .int p0, .int p1]) (n := 3) (Nat.le_of_ble_eq_true rfl)
  rw [lg_entry_eq]
  generalize (lg_sl ([.ref pr, .int p0, .int p1]) ++ List.replicate (3 - (lg_sl ([.ref pr, .int p0, .int p1])).length) Slot.unset).toArray = ls at hl ⊢
  have hl : lv_has ls 3 [(0, .ref pr), (1, .int p0), (2, .int p1)] := hl
  refine lv_aload_n hx hb dX6_addFunc_0 rfl (lv_at hl 0 rfl) ?_
  refine va_get (D := (dC, dI)) (ci := 5) (v := .ref p_args) (C := RX6) (T := TX6) (N := 10) hx hb hts hiX6 hown hK hP 0 rfl rfl 0 (by decide) (hts (.fieldLink RX6 9 "RegisterMill$Program" "args" "[I") (by decide +kernel)) (fun _ h9 => h9) rfl dX6_addFunc_1 ?_
  refine lv_aload_n hx hb dX6_addFunc_4 rfl (lv_at hl 0 rfl) ?_
  refine va_get (D := (dC, dI)) (ci := 5) (v := .int (nI F)) (C := RX6) (T := TX6) (N := 10) hx hb hts hiX6 hown hK hP 0 rfl rfl 7 (by decide) (hts (.fieldLink RX6 33 "RegisterMill$Program" "funcs" "I") (by decide +kernel)) (fun _ h9 => h9) rfl dX6_addFunc_5 ?_
  refine lv_iload_n hx hb dX6_addFunc_8 rfl (lv_at hl 1 rfl) ?_
  refine va_iast hx hb hK hP hD hS 1 0 rfl rfl (vp_in_nI (show F < 12 by omega) (by decide)) dX6_addFunc_9 (fun H locs hP hD hS => ?_)
  rw [nI_clamp (show F < 2 ^ 31 by omega)] at hP hD
  have hP : va_P (dC, dI) vwCl [(pr, .inr (5, [.ref p_args, .ref p_locals, .ref p_starts, .ref p_lengths, .ref p_ops, .ref p_numbers, .ref p_depths, .int (nI F), .int (nI Wd), .int ck])), (p_args, .inl (cyI, 12, .inl (upd fa F p0))), (p_locals, .inl (cyI, 12, .inl fl)), (p_starts, .inl (cyI, 12, .inl fs)), (p_lengths, .inl (cyI, 12, .inl fn))] H := hP
  have hD : va_D A [(pr, .inr (5, [.ref p_args, .ref p_locals, .ref p_starts, .ref p_lengths, .ref p_ops, .ref p_numbers, .ref p_depths, .int (nI F), .int (nI Wd), .int ck])), (p_args, .inl (cyI, 12, .inl (upd fa F p0))), (p_locals, .inl (cyI, 12, .inl fl)), (p_starts, .inl (cyI, 12, .inl fs)), (p_lengths, .inl (cyI, 12, .inl fn))] := hD
  refine lv_aload_n hx hb dX6_addFunc_10 rfl (lv_at hl 0 rfl) ?_
  refine va_get (D := (dC, dI)) (ci := 5) (v := .ref p_locals) (C := RX6) (T := TX6) (N := 10) hx hb hts hiX6 hown hK hP 0 rfl rfl 1 (by decide) (hts (.fieldLink RX6 15 "RegisterMill$Program" "locals" "[I") (by decide +kernel)) (fun _ h9 => h9) rfl dX6_addFunc_11 ?_
  refine lv_aload_n hx hb dX6_addFunc_14 rfl (lv_at hl 0 rfl) ?_
  refine va_get (D := (dC, dI)) (ci := 5) (v := .int (nI F)) (C := RX6) (T := TX6) (N := 10) hx hb hts hiX6 hown hK hP 0 rfl rfl 7 (by decide) (hts (.fieldLink RX6 33 "RegisterMill$Program" "funcs" "I") (by decide +kernel)) (fun _ h9 => h9) rfl dX6_addFunc_15 ?_
  refine lv_iload_n hx hb dX6_addFunc_18 rfl (lv_at hl 2 rfl) ?_
  refine va_iast hx hb hK hP hD hS 2 0 rfl rfl (vp_in_nI (show F < 12 by omega) (by decide)) dX6_addFunc_19 (fun H locs hP hD hS => ?_)
  rw [nI_clamp (show F < 2 ^ 31 by omega)] at hP hD
  have hP : va_P (dC, dI) vwCl [(pr, .inr (5, [.ref p_args, .ref p_locals, .ref p_starts, .ref p_lengths, .ref p_ops, .ref p_numbers, .ref p_depths, .int (nI F), .int (nI Wd), .int ck])), (p_args, .inl (cyI, 12, .inl (upd fa F p0))), (p_locals, .inl (cyI, 12, .inl (upd fl F p1))), (p_starts, .inl (cyI, 12, .inl fs)), (p_lengths, .inl (cyI, 12, .inl fn))] H := hP
  have hD : va_D A [(pr, .inr (5, [.ref p_args, .ref p_locals, .ref p_starts, .ref p_lengths, .ref p_ops, .ref p_numbers, .ref p_depths, .int (nI F), .int (nI Wd), .int ck])), (p_args, .inl (cyI, 12, .inl (upd fa F p0))), (p_locals, .inl (cyI, 12, .inl (upd fl F p1))), (p_starts, .inl (cyI, 12, .inl fs)), (p_lengths, .inl (cyI, 12, .inl fn))] := hD
  refine lv_aload_n hx hb dX6_addFunc_20 rfl (lv_at hl 0 rfl) ?_
  refine va_get (D := (dC, dI)) (ci := 5) (v := .ref p_starts) (C := RX6) (T := TX6) (N := 10) hx hb hts hiX6 hown hK hP 0 rfl rfl 2 (by decide) (hts (.fieldLink RX6 18 "RegisterMill$Program" "starts" "[I") (by decide +kernel)) (fun _ h9 => h9) rfl dX6_addFunc_21 ?_
  refine lv_aload_n hx hb dX6_addFunc_24 rfl (lv_at hl 0 rfl) ?_
  refine va_get (D := (dC, dI)) (ci := 5) (v := .int (nI F)) (C := RX6) (T := TX6) (N := 10) hx hb hts hiX6 hown hK hP 0 rfl rfl 7 (by decide) (hts (.fieldLink RX6 33 "RegisterMill$Program" "funcs" "I") (by decide +kernel)) (fun _ h9 => h9) rfl dX6_addFunc_25 ?_
  refine lv_aload_n hx hb dX6_addFunc_28 rfl (lv_at hl 0 rfl) ?_
  refine va_get (D := (dC, dI)) (ci := 5) (v := .int (nI Wd)) (C := RX6) (T := TX6) (N := 10) hx hb hts hiX6 hown hK hP 0 rfl rfl 8 (by decide) (hts (.fieldLink RX6 37 "RegisterMill$Program" "words" "I") (by decide +kernel)) (fun _ h9 => h9) rfl dX6_addFunc_29 ?_
  refine va_iast hx hb hK hP hD hS 3 0 rfl rfl (vp_in_nI (show F < 12 by omega) (by decide)) dX6_addFunc_32 (fun H locs hP hD hS => ?_)
  rw [nI_clamp (show F < 2 ^ 31 by omega)] at hP hD
  have hP : va_P (dC, dI) vwCl [(pr, .inr (5, [.ref p_args, .ref p_locals, .ref p_starts, .ref p_lengths, .ref p_ops, .ref p_numbers, .ref p_depths, .int (nI F), .int (nI Wd), .int ck])), (p_args, .inl (cyI, 12, .inl (upd fa F p0))), (p_locals, .inl (cyI, 12, .inl (upd fl F p1))), (p_starts, .inl (cyI, 12, .inl (upd fs F (nI Wd)))), (p_lengths, .inl (cyI, 12, .inl fn))] H := hP
  have hD : va_D A [(pr, .inr (5, [.ref p_args, .ref p_locals, .ref p_starts, .ref p_lengths, .ref p_ops, .ref p_numbers, .ref p_depths, .int (nI F), .int (nI Wd), .int ck])), (p_args, .inl (cyI, 12, .inl (upd fa F p0))), (p_locals, .inl (cyI, 12, .inl (upd fl F p1))), (p_starts, .inl (cyI, 12, .inl (upd fs F (nI Wd)))), (p_lengths, .inl (cyI, 12, .inl fn))] := hD
  refine lv_aload_n hx hb dX6_addFunc_33 rfl (lv_at hl 0 rfl) ?_
  refine va_get (D := (dC, dI)) (ci := 5) (v := .ref p_lengths) (C := RX6) (T := TX6) (N := 10) hx hb hts hiX6 hown hK hP 0 rfl rfl 3 (by decide) (hts (.fieldLink RX6 21 "RegisterMill$Program" "lengths" "[I") (by decide +kernel)) (fun _ h9 => h9) rfl dX6_addFunc_34 ?_
  refine lv_aload_n hx hb dX6_addFunc_37 rfl (lv_at hl 0 rfl) ?_
  refine va_get (D := (dC, dI)) (ci := 5) (v := .int (nI F)) (C := RX6) (T := TX6) (N := 10) hx hb hts hiX6 hown hK hP 0 rfl rfl 7 (by decide) (hts (.fieldLink RX6 33 "RegisterMill$Program" "funcs" "I") (by decide +kernel)) (fun _ h9 => h9) rfl dX6_addFunc_38 ?_
  refine lv_iconst (v := 0) hx hb dX6_addFunc_41 (by decide) ?_
  refine va_iast hx hb hK hP hD hS 4 0 rfl rfl (vp_in_nI (show F < 12 by omega) (by decide)) dX6_addFunc_42 (fun H locs hP hD hS => ?_)
  rw [nI_clamp (show F < 2 ^ 31 by omega)] at hP hD
  have hP : va_P (dC, dI) vwCl [(pr, .inr (5, [.ref p_args, .ref p_locals, .ref p_starts, .ref p_lengths, .ref p_ops, .ref p_numbers, .ref p_depths, .int (nI F), .int (nI Wd), .int ck])), (p_args, .inl (cyI, 12, .inl (upd fa F p0))), (p_locals, .inl (cyI, 12, .inl (upd fl F p1))), (p_starts, .inl (cyI, 12, .inl (upd fs F (nI Wd)))), (p_lengths, .inl (cyI, 12, .inl (upd fn F 0)))] H := hP
  have hD : va_D A [(pr, .inr (5, [.ref p_args, .ref p_locals, .ref p_starts, .ref p_lengths, .ref p_ops, .ref p_numbers, .ref p_depths, .int (nI F), .int (nI Wd), .int ck])), (p_args, .inl (cyI, 12, .inl (upd fa F p0))), (p_locals, .inl (cyI, 12, .inl (upd fl F p1))), (p_starts, .inl (cyI, 12, .inl (upd fs F (nI Wd)))), (p_lengths, .inl (cyI, 12, .inl (upd fn F 0)))] := hD
  refine lv_aload_n hx hb dX6_addFunc_43 rfl (lv_at hl 0 rfl) ?_
  refine lv_dup hx hb dX6_addFunc_44 rfl ?_
  refine va_get (D := (dC, dI)) (ci := 5) (v := .int (nI F)) (C := RX6) (T := TX6) (N := 10) hx hb hts hiX6 hown hK hP 0 rfl rfl 7 (by decide) (hts (.fieldLink RX6 33 "RegisterMill$Program" "funcs" "I") (by decide +kernel)) (fun _ h9 => h9) rfl dX6_addFunc_45 ?_
  refine lv_iconst (v := 1) hx hb dX6_addFunc_48 (by decide) ?_
  refine lv_iadd hx hb dX6_addFunc_49 ?_
  refine W.eq (g2 := F0 m 50 ls [.int (nI (F + 1)), .ref pr]) (congrArg (fun z => F0 m 50 ls (.int z :: [.ref pr])) (nI_add (F) (1))) ?_
  refine va_put (D := (dC, dI)) (ci := 5) (v := .int (nI (F + 1))) (ty := .int) (C := RX6) (T := TX6) (N := 10) hx hb hts hiX6 tyX6 tyX6_ok nmX6 hown hK hP hD hS 0 rfl rfl 7 (by decide) (hts (.fieldLink RX6 33 "RegisterMill$Program" "funcs" "I") (by decide +kernel)) (fun _ h9 => h9) rfl (by decide +kernel) rfl rfl (Nat.le_of_ble_eq_true rfl) dX6_addFunc_50 (fun H locs hP hD hS => ?_)
  have hP : va_P (dC, dI) vwCl [(pr, .inr (5, [.ref p_args, .ref p_locals, .ref p_starts, .ref p_lengths, .ref p_ops, .ref p_numbers, .ref p_depths, .int (nI (F + 1)), .int (nI Wd), .int ck])), (p_args, .inl (cyI, 12, .inl (upd fa F p0))), (p_locals, .inl (cyI, 12, .inl (upd fl F p1))), (p_starts, .inl (cyI, 12, .inl (upd fs F (nI Wd)))), (p_lengths, .inl (cyI, 12, .inl (upd fn F 0)))] H := hP
  have hD : va_D A [(pr, .inr (5, [.ref p_args, .ref p_locals, .ref p_starts, .ref p_lengths, .ref p_ops, .ref p_numbers, .ref p_depths, .int (nI (F + 1)), .int (nI Wd), .int ck])), (p_args, .inl (cyI, 12, .inl (upd fa F p0))), (p_locals, .inl (cyI, 12, .inl (upd fl F p1))), (p_starts, .inl (cyI, 12, .inl (upd fs F (nI Wd)))), (p_lengths, .inl (cyI, 12, .inl (upd fn F 0)))] := hD
  refine lv_aload_n hx hb dX6_addFunc_53 rfl (lv_at hl 0 rfl) ?_
  refine va_get (D := (dC, dI)) (ci := 5) (v := .int (nI (F + 1))) (C := RX6) (T := TX6) (N := 10) hx hb hts hiX6 hown hK hP 0 rfl rfl 7 (by decide) (hts (.fieldLink RX6 33 "RegisterMill$Program" "funcs" "I") (by decide +kernel)) (fun _ h9 => h9) rfl dX6_addFunc_54 ?_
  refine lv_iconst (v := 1) hx hb dX6_addFunc_57 (by decide) ?_
  refine lv_isub hx hb dX6_addFunc_58 ?_
  refine W.eq (g2 := F0 m 59 ls [.int (nI F)]) (congrArg (fun z => F0 m 59 ls (.int z :: [])) ((pk_sub (show 1 ≤ F + 1 by omega)).trans (congrArg nI (by omega)))) ?_
  have hP9 := hP.sub (ws' := [(pr, .inr (5, [.ref p_args, .ref p_locals, .ref p_starts, .ref p_lengths, .ref p_ops, .ref p_numbers, .ref p_depths, .int (nI (F + 1)), .int (nI Wd), .int ck])), (p_args, .inl (cyI, 12, .inl (upd fa F p0))), (p_locals, .inl (cyI, 12, .inl (upd fl F p1))), (p_starts, .inl (cyI, 12, .inl (upd fs F (nI Wd)))), (p_lengths, .inl (cyI, 12, .inl (upd fn F 0)))]) [0, 1, 2, 3, 4] rfl
  have hD9 := hD.sub (ws' := [(pr, .inr (5, [.ref p_args, .ref p_locals, .ref p_starts, .ref p_lengths, .ref p_ops, .ref p_numbers, .ref p_depths, .int (nI (F + 1)), .int (nI Wd), .int ck])), (p_args, .inl (cyI, 12, .inl (upd fa F p0))), (p_locals, .inl (cyI, 12, .inl (upd fl F p1))), (p_starts, .inl (cyI, 12, .inl (upd fs F (nI Wd)))), (p_lengths, .inl (cyI, 12, .inl (upd fn F 0)))]) [0, 1, 2, 3, 4] (by decide) rfl
  have h9 : (nI F : Int32) = nI F := rfl
  exact W.iret (v := nI F) hx hb hr (fun t ht hW => ⟨⟨_, (), rfl, h9, pz_Bof hP9 hK hD9 ht hW⟩, hS.F ht⟩) hS.2.2 dX6_addFunc_59

def wq_X6_addWord_g : List Cond := .code yX6_addWord cX6_addWord 4 (some .int) :: ([.fieldLink RX6 33 "RegisterMill$Program" "funcs" "I", .fieldLink RX6 24 "RegisterMill$Program" "ops" "[I", .fieldLink RX6 37 "RegisterMill$Program" "words" "I", .fieldLink RX6 27 "RegisterMill$Program" "numbers" "[I", .fieldLink RX6 21 "RegisterMill$Program" "lengths" "[I"] ++ wsX60)
set_option maxHeartbeats 4000000 in
set_option maxRecDepth 100000 in
/-- addWord -/
theorem c_X6_addWord_g (l : Launch) (dC : Nat → ClassId) (dI : Nat → Nat → Nat) (cyI : ClassId) (sz : Nat) (pr : Nat) (p_args : Nat) (p_locals : Nat) (p_starts : Nat) (p_lengths : Nat) (p_ops : Nat) (p_numbers : Nat) (p_depths : Nat) (G : Nat) (Wd : Nat) (ck : Int32) (p0 : Int32) (p1 : Int32) (fn : Nat → Int32) (fo : Nat → Int32) (fm : Nat → Int32) (hF : G < 12) (hW : Wd < 300) : Met l yX6_addWord wq_X6_addWord_g ({ frames := 0, cells := 0, slots := 0, locals := 0 }) (va_Pc [.ref pr, .int p0, .int p1] (pz_pre dC dI [(cyI, .int)] [(pr, .inr (5, [.ref p_args, .ref p_locals, .ref p_starts, .ref p_lengths, .ref p_ops, .ref p_numbers, .ref p_depths, .int (nI (G + 1)), .int (nI Wd), .int ck])), (p_lengths, .inl (cyI, 12, .inl fn)), (p_ops, .inl (cyI, 300, .inl fo)), (p_numbers, .inl (cyI, 300, .inl fm))] sz)) (va_Qi (S := Unit) (fun (r : Int32) _ => r = upd fn G (fn G + 1) G - 1) (fun _ t => pz_B dC dI [(cyI, .int)] (va_A [(pr, .inr (5, [.ref p_args, .ref p_locals, .ref p_starts, .ref p_lengths, .ref p_ops, .ref p_numbers, .ref p_depths, .int (nI (G + 1)), .int (nI Wd), .int ck])), (p_lengths, .inl (cyI, 12, .inl fn)), (p_ops, .inl (cyI, 300, .inl fo)), (p_numbers, .inl (cyI, 300, .inl fm))] sz) [(pr, .inr (5, [.ref p_args, .ref p_locals, .ref p_starts, .ref p_lengths, .ref p_ops, .ref p_numbers, .ref p_depths, .int (nI (G + 1)), .int (nI (Wd + 1)), .int ck])), (p_lengths, .inl (cyI, 12, .inl (upd fn G (fn G + 1)))), (p_ops, .inl (cyI, 300, .inl (upd fo Wd p0))), (p_numbers, .inl (cyI, 300, .inl (upd fm Wd p1)))] t) (va_A [(pr, .inr (5, [.ref p_args, .ref p_locals, .ref p_starts, .ref p_lengths, .ref p_ops, .ref p_numbers, .ref p_depths, .int (nI (G + 1)), .int (nI Wd), .int ck])), (p_lengths, .inl (cyI, 12, .inl fn)), (p_ops, .inl (cyI, 300, .inl fo)), (p_numbers, .inl (cyI, 300, .inl fm))] sz)) 0 0 (va_A [(pr, .inr (5, [.ref p_args, .ref p_locals, .ref p_starts, .ref p_lengths, .ref p_ops, .ref p_numbers, .ref p_depths, .int (nI (G + 1)), .int (nI Wd), .int ck])), (p_lengths, .inl (cyI, 12, .inl fn)), (p_ops, .inl (cyI, 300, .inl fo)), (p_numbers, .inl (cyI, 300, .inl fm))] sz) := by
  refine Met.ofW (cc := cX6_addWord) (maxL := 4) (ret := (some .int)) (by decide) rfl ?_
  intro p e s m args below meth c s₁ B hml hv
  obtain ⟨rfl, hsz, hP, hK, hD0, hNW⟩ := hv
  have hx := B.exec
  have hb := B.bytes
  have hr := B.returns
  have hts := atoms_spec (ws := wq_X6_addWord_g) B.pre
  have hown : s.vm.findClass RX6 = some m.cls := findClass_of_methodNamed B.named
  have hlocks := B.notSynchronized
  have hiX6 : ∀ w ∈ wsX60, w ∈ wq_X6_addWord_g := by decide +kernel
  subst hsz
  have hD := hD0.self (sz := s.heap.size)
  generalize hAe : va_A [(pr, .inr (5, [.ref p_args, .ref p_locals, .ref p_starts, .ref p_lengths, .ref p_ops, .ref p_numbers, .ref p_depths, .int (nI (G + 1)), .int (nI Wd), .int ck])), (p_lengths, .inl (cyI, 12, .inl fn)), (p_ops, .inl (cyI, 300, .inl fo)), (p_numbers, .inl (cyI, 300, .inl fm))] s.heap.size = A at hD ⊢
  have hA : ∀ q : Nat, s.heap.size ≤ q → A q := fun q h => by rw [← hAe]; exact Or.inr h
  have hS : va_S A s.heap s.heap [] := va_S.rf
  have hl := lv_entry ([.ref pr, .int p0, .int p1]) (n := 4) (Nat.le_of_ble_eq_true rfl)
  rw [lg_entry_eq]
  generalize (lg_sl ([.ref pr, .int p0, .int p1]) ++ List.replicate (4 - (lg_sl ([.ref pr, .int p0, .int p1])).length) Slot.unset).toArray = ls at hl ⊢
  have hl : lv_has ls 4 [(0, .ref pr), (1, .int p0), (2, .int p1)] := hl
  refine lv_aload_n hx hb dX6_addWord_0 rfl (lv_at hl 0 rfl) ?_
  refine va_get (D := (dC, dI)) (ci := 5) (v := .int (nI (G + 1))) (C := RX6) (T := TX6) (N := 10) hx hb hts hiX6 hown hK hP 0 rfl rfl 7 (by decide) (hts (.fieldLink RX6 33 "RegisterMill$Program" "funcs" "I") (by decide +kernel)) (fun _ h9 => h9) rfl dX6_addWord_1 ?_
  refine lv_iconst (v := 1) hx hb dX6_addWord_4 (by decide) ?_
  refine lv_isub hx hb dX6_addWord_5 ?_
  refine W.eq (g2 := F0 m 6 ls [.int (nI G)]) (congrArg (fun z => F0 m 6 ls (.int z :: [])) ((pk_sub (show 1 ≤ G + 1 by omega)).trans (congrArg nI (by omega)))) ?_
  refine lv_istore_n (lv' := [(3, .int (nI G)), (0, .ref pr), (1, .int p0), (2, .int p1)]) hx hb dX6_addWord_6 rfl hl (by decide) rfl (fun ls hl => ?_)
  refine lv_aload_n hx hb dX6_addWord_7 rfl (lv_at hl 1 rfl) ?_
  refine va_get (D := (dC, dI)) (ci := 5) (v := .ref p_ops) (C := RX6) (T := TX6) (N := 10) hx hb hts hiX6 hown hK hP 0 rfl rfl 4 (by decide) (hts (.fieldLink RX6 24 "RegisterMill$Program" "ops" "[I") (by decide +kernel)) (fun _ h9 => h9) rfl dX6_addWord_8 ?_
  refine lv_aload_n hx hb dX6_addWord_11 rfl (lv_at hl 1 rfl) ?_
  refine va_get (D := (dC, dI)) (ci := 5) (v := .int (nI Wd)) (C := RX6) (T := TX6) (N := 10) hx hb hts hiX6 hown hK hP 0 rfl rfl 8 (by decide) (hts (.fieldLink RX6 37 "RegisterMill$Program" "words" "I") (by decide +kernel)) (fun _ h9 => h9) rfl dX6_addWord_12 ?_
  refine lv_iload_n hx hb dX6_addWord_15 rfl (lv_at hl 2 rfl) ?_
  refine va_iast hx hb hK hP hD hS 2 0 rfl rfl (vp_in_nI (show Wd < 300 by omega) (by decide)) dX6_addWord_16 (fun H locs hP hD hS => ?_)
  rw [nI_clamp (show Wd < 2 ^ 31 by omega)] at hP hD
  have hP : va_P (dC, dI) vwCl [(pr, .inr (5, [.ref p_args, .ref p_locals, .ref p_starts, .ref p_lengths, .ref p_ops, .ref p_numbers, .ref p_depths, .int (nI (G + 1)), .int (nI Wd), .int ck])), (p_lengths, .inl (cyI, 12, .inl fn)), (p_ops, .inl (cyI, 300, .inl (upd fo Wd p0))), (p_numbers, .inl (cyI, 300, .inl fm))] H := hP
  have hD : va_D A [(pr, .inr (5, [.ref p_args, .ref p_locals, .ref p_starts, .ref p_lengths, .ref p_ops, .ref p_numbers, .ref p_depths, .int (nI (G + 1)), .int (nI Wd), .int ck])), (p_lengths, .inl (cyI, 12, .inl fn)), (p_ops, .inl (cyI, 300, .inl (upd fo Wd p0))), (p_numbers, .inl (cyI, 300, .inl fm))] := hD
  refine lv_aload_n hx hb dX6_addWord_17 rfl (lv_at hl 1 rfl) ?_
  refine va_get (D := (dC, dI)) (ci := 5) (v := .ref p_numbers) (C := RX6) (T := TX6) (N := 10) hx hb hts hiX6 hown hK hP 0 rfl rfl 5 (by decide) (hts (.fieldLink RX6 27 "RegisterMill$Program" "numbers" "[I") (by decide +kernel)) (fun _ h9 => h9) rfl dX6_addWord_18 ?_
  refine lv_aload_n hx hb dX6_addWord_21 rfl (lv_at hl 1 rfl) ?_
  refine va_get (D := (dC, dI)) (ci := 5) (v := .int (nI Wd)) (C := RX6) (T := TX6) (N := 10) hx hb hts hiX6 hown hK hP 0 rfl rfl 8 (by decide) (hts (.fieldLink RX6 37 "RegisterMill$Program" "words" "I") (by decide +kernel)) (fun _ h9 => h9) rfl dX6_addWord_22 ?_
  refine lv_iload_n hx hb dX6_addWord_25 rfl (lv_at hl 3 rfl) ?_
  refine va_iast hx hb hK hP hD hS 3 0 rfl rfl (vp_in_nI (show Wd < 300 by omega) (by decide)) dX6_addWord_26 (fun H locs hP hD hS => ?_)
  rw [nI_clamp (show Wd < 2 ^ 31 by omega)] at hP hD
  have hP : va_P (dC, dI) vwCl [(pr, .inr (5, [.ref p_args, .ref p_locals, .ref p_starts, .ref p_lengths, .ref p_ops, .ref p_numbers, .ref p_depths, .int (nI (G + 1)), .int (nI Wd), .int ck])), (p_lengths, .inl (cyI, 12, .inl fn)), (p_ops, .inl (cyI, 300, .inl (upd fo Wd p0))), (p_numbers, .inl (cyI, 300, .inl (upd fm Wd p1)))] H := hP
  have hD : va_D A [(pr, .inr (5, [.ref p_args, .ref p_locals, .ref p_starts, .ref p_lengths, .ref p_ops, .ref p_numbers, .ref p_depths, .int (nI (G + 1)), .int (nI Wd), .int ck])), (p_lengths, .inl (cyI, 12, .inl fn)), (p_ops, .inl (cyI, 300, .inl (upd fo Wd p0))), (p_numbers, .inl (cyI, 300, .inl (upd fm Wd p1)))] := hD
  refine lv_aload_n hx hb dX6_addWord_27 rfl (lv_at hl 1 rfl) ?_
  refine lv_dup hx hb dX6_addWord_28 rfl ?_
  refine va_get (D := (dC, dI)) (ci := 5) (v := .int (nI Wd)) (C := RX6) (T := TX6) (N := 10) hx hb hts hiX6 hown hK hP 0 rfl rfl 8 (by decide) (hts (.fieldLink RX6 37 "RegisterMill$Program" "words" "I") (by decide +kernel)) (fun _ h9 => h9) rfl dX6_addWord_29 ?_
  refine lv_iconst (v := 1) hx hb dX6_addWord_32 (by decide) ?_
  refine lv_iadd hx hb dX6_addWord_33 ?_
  refine W.eq (g2 := F0 m 34 ls [.int (nI (Wd + 1)), .ref pr]) (congrArg (fun z => F0 m 34 ls (.int z :: [.ref pr])) (nI_add (Wd) (1))) ?_
  refine va_put (D := (dC, dI)) (ci := 5) (v := .int (nI (Wd + 1))) (ty := .int) (C := RX6) (T := TX6) (N := 10) hx hb hts hiX6 tyX6 tyX6_ok nmX6 hown hK hP hD hS 0 rfl rfl 8 (by decide) (hts (.fieldLink RX6 37 "RegisterMill$Program" "words" "I") (by decide +kernel)) (fun _ h9 => h9) rfl (by decide +kernel) rfl rfl (Nat.le_of_ble_eq_true rfl) dX6_addWord_34 (fun H locs hP hD hS => ?_)
  have hP : va_P (dC, dI) vwCl [(pr, .inr (5, [.ref p_args, .ref p_locals, .ref p_starts, .ref p_lengths, .ref p_ops, .ref p_numbers, .ref p_depths, .int (nI (G + 1)), .int (nI (Wd + 1)), .int ck])), (p_lengths, .inl (cyI, 12, .inl fn)), (p_ops, .inl (cyI, 300, .inl (upd fo Wd p0))), (p_numbers, .inl (cyI, 300, .inl (upd fm Wd p1)))] H := hP
  have hD : va_D A [(pr, .inr (5, [.ref p_args, .ref p_locals, .ref p_starts, .ref p_lengths, .ref p_ops, .ref p_numbers, .ref p_depths, .int (nI (G + 1)), .int (nI (Wd + 1)), .int ck])), (p_lengths, .inl (cyI, 12, .inl fn)), (p_ops, .inl (cyI, 300, .inl (upd fo Wd p0))), (p_numbers, .inl (cyI, 300, .inl (upd fm Wd p1)))] := hD
  refine lv_aload_n hx hb dX6_addWord_37 rfl (lv_at hl 1 rfl) ?_
  refine va_get (D := (dC, dI)) (ci := 5) (v := .ref p_lengths) (C := RX6) (T := TX6) (N := 10) hx hb hts hiX6 hown hK hP 0 rfl rfl 3 (by decide) (hts (.fieldLink RX6 21 "RegisterMill$Program" "lengths" "[I") (by decide +kernel)) (fun _ h9 => h9) rfl dX6_addWord_38 ?_
  refine lv_iload_n hx hb dX6_addWord_41 rfl (lv_at hl 0 rfl) ?_
  refine lv_dup2_11 hx hb dX6_addWord_42 rfl rfl ?_
  refine va_iald hx hb hK hP 1 0 rfl rfl (vp_in_nI (show G < 12 by omega) (by decide)) dX6_addWord_43 ?_
  refine W.eq (g2 := F0 m 44 ls [.int (fn G), .int (nI G), .ref p_lengths]) (congrArg (fun z => F0 m 44 ls (.int z :: [.int (nI G), .ref p_lengths])) (congrArg fn (nI_clamp (show G < 2 ^ 31 by omega)))) ?_
  refine lv_iconst (v := 1) hx hb dX6_addWord_44 (by decide) ?_
  refine lv_iadd hx hb dX6_addWord_45 ?_
  refine va_iast hx hb hK hP hD hS 1 0 rfl rfl (vp_in_nI (show G < 12 by omega) (by decide)) dX6_addWord_46 (fun H locs hP hD hS => ?_)
  rw [nI_clamp (show G < 2 ^ 31 by omega)] at hP hD
  have hP : va_P (dC, dI) vwCl [(pr, .inr (5, [.ref p_args, .ref p_locals, .ref p_starts, .ref p_lengths, .ref p_ops, .ref p_numbers, .ref p_depths, .int (nI (G + 1)), .int (nI (Wd + 1)), .int ck])), (p_lengths, .inl (cyI, 12, .inl (upd fn G ((fn G) + 1)))), (p_ops, .inl (cyI, 300, .inl (upd fo Wd p0))), (p_numbers, .inl (cyI, 300, .inl (upd fm Wd p1)))] H := hP
  have hD : va_D A [(pr, .inr (5, [.ref p_args, .ref p_locals, .ref p_starts, .ref p_lengths, .ref p_ops, .ref p_numbers, .ref p_depths, .int (nI (G + 1)), .int (nI (Wd + 1)), .int ck])), (p_lengths, .inl (cyI, 12, .inl (upd fn G ((fn G) + 1)))), (p_ops, .inl (cyI, 300, .inl (upd fo Wd p0))), (p_numbers, .inl (cyI, 300, .inl (upd fm Wd p1)))] := hD
  refine lv_aload_n hx hb dX6_addWord_47 rfl (lv_at hl 1 rfl) ?_
  refine va_get (D := (dC, dI)) (ci := 5) (v := .ref p_lengths) (C := RX6) (T := TX6) (N := 10) hx hb hts hiX6 hown hK hP 0 rfl rfl 3 (by decide) (hts (.fieldLink RX6 21 "RegisterMill$Program" "lengths" "[I") (by decide +kernel)) (fun _ h9 => h9) rfl dX6_addWord_48 ?_
  refine lv_iload_n hx hb dX6_addWord_51 rfl (lv_at hl 0 rfl) ?_
  refine va_iald hx hb hK hP 1 0 rfl rfl (vp_in_nI (show G < 12 by omega) (by decide)) dX6_addWord_52 ?_
  refine W.eq (g2 := F0 m 53 ls [.int ((upd fn G ((fn G) + 1)) G)]) (congrArg (fun z => F0 m 53 ls (.int z :: [])) (congrArg (upd fn G ((fn G) + 1)) (nI_clamp (show G < 2 ^ 31 by omega)))) ?_
  refine lv_iconst (v := 1) hx hb dX6_addWord_53 (by decide) ?_
  refine lv_isub hx hb dX6_addWord_54 ?_
  have hP9 := hP.sub (ws' := [(pr, .inr (5, [.ref p_args, .ref p_locals, .ref p_starts, .ref p_lengths, .ref p_ops, .ref p_numbers, .ref p_depths, .int (nI (G + 1)), .int (nI (Wd + 1)), .int ck])), (p_lengths, .inl (cyI, 12, .inl (upd fn G (fn G + 1)))), (p_ops, .inl (cyI, 300, .inl (upd fo Wd p0))), (p_numbers, .inl (cyI, 300, .inl (upd fm Wd p1)))]) [0, 1, 2, 3] rfl
  have hD9 := hD.sub (ws' := [(pr, .inr (5, [.ref p_args, .ref p_locals, .ref p_starts, .ref p_lengths, .ref p_ops, .ref p_numbers, .ref p_depths, .int (nI (G + 1)), .int (nI (Wd + 1)), .int ck])), (p_lengths, .inl (cyI, 12, .inl (upd fn G (fn G + 1)))), (p_ops, .inl (cyI, 300, .inl (upd fo Wd p0))), (p_numbers, .inl (cyI, 300, .inl (upd fm Wd p1)))]) [0, 1, 2, 3] (by decide) rfl
  have h9 : (((upd fn G ((fn G) + 1)) G) - 1 : Int32) = upd fn G (fn G + 1) G - 1 := rfl
  exact W.iret (v := ((upd fn G ((fn G) + 1)) G) - 1) hx hb hr (fun t ht hW => ⟨⟨_, (), rfl, h9, pz_Bof hP9 hK hD9 ht hW⟩, hS.F ht⟩) hS.2.2 dX6_addWord_55

def wq_X6_hasFunc_g : List Cond := .code yX6_hasFunc cX6_hasFunc 2 (some .boolean) :: ([.fieldLink RX6 33 "RegisterMill$Program" "funcs" "I"] ++ wsX60)
set_option maxHeartbeats 4000000 in
set_option maxRecDepth 100000 in
/-- hasFunc -/
theorem c_X6_hasFunc_g (l : Launch) (dC : Nat → ClassId) (dI : Nat → Nat → Nat) (cyI : ClassId) (sz : Nat) (pr : Nat) (p_args : Nat) (p_locals : Nat) (p_starts : Nat) (p_lengths : Nat) (p_ops : Nat) (p_numbers : Nat) (p_depths : Nat) (F : Nat) (Wd : Nat) (ck : Int32) (p0 : Int32) : Met l yX6_hasFunc wq_X6_hasFunc_g ({ frames := 0, cells := 0, slots := 0, locals := 0 }) (va_Pc [.ref pr, .int p0] (pz_pre dC dI [(cyI, .int)] [(pr, .inr (5, [.ref p_args, .ref p_locals, .ref p_starts, .ref p_lengths, .ref p_ops, .ref p_numbers, .ref p_depths, .int (nI F), .int (nI Wd), .int ck]))] sz)) (va_Qi (S := Unit) (fun (r : Int32) _ => r = gz_has F p0) (fun _ t => pz_B dC dI [(cyI, .int)] (va_A [(pr, .inr (5, [.ref p_args, .ref p_locals, .ref p_starts, .ref p_lengths, .ref p_ops, .ref p_numbers, .ref p_depths, .int (nI F), .int (nI Wd), .int ck]))] sz) [(pr, .inr (5, [.ref p_args, .ref p_locals, .ref p_starts, .ref p_lengths, .ref p_ops, .ref p_numbers, .ref p_depths, .int (nI F), .int (nI Wd), .int ck]))] t) (va_A [(pr, .inr (5, [.ref p_args, .ref p_locals, .ref p_starts, .ref p_lengths, .ref p_ops, .ref p_numbers, .ref p_depths, .int (nI F), .int (nI Wd), .int ck]))] sz)) 0 0 (va_A [(pr, .inr (5, [.ref p_args, .ref p_locals, .ref p_starts, .ref p_lengths, .ref p_ops, .ref p_numbers, .ref p_depths, .int (nI F), .int (nI Wd), .int ck]))] sz) := by
  refine Met.ofW (cc := cX6_hasFunc) (maxL := 2) (ret := (some .boolean)) (by decide) rfl ?_
  intro p e s m args below meth c s₁ B hml hv
  obtain ⟨rfl, hsz, hP, hK, hD0, hNW⟩ := hv
  have hx := B.exec
  have hb := B.bytes
  have hr := B.returns
  have hts := atoms_spec (ws := wq_X6_hasFunc_g) B.pre
  have hown : s.vm.findClass RX6 = some m.cls := findClass_of_methodNamed B.named
  have hlocks := B.notSynchronized
  have hiX6 : ∀ w ∈ wsX60, w ∈ wq_X6_hasFunc_g := by decide +kernel
  subst hsz
  have hD := hD0.self (sz := s.heap.size)
  generalize hAe : va_A [(pr, .inr (5, [.ref p_args, .ref p_locals, .ref p_starts, .ref p_lengths, .ref p_ops, .ref p_numbers, .ref p_depths, .int (nI F), .int (nI Wd), .int ck]))] s.heap.size = A at hD ⊢
  have hA : ∀ q : Nat, s.heap.size ≤ q → A q := fun q h => by rw [← hAe]; exact Or.inr h
  have hS : va_S A s.heap s.heap [] := va_S.rf
  have hl := lv_entry ([.ref pr, .int p0]) (n := 2) (Nat.le_of_ble_eq_true rfl)
  rw [lg_entry_eq]
  generalize (lg_sl ([.ref pr, .int p0]) ++ List.replicate (2 - (lg_sl ([.ref pr, .int p0])).length) Slot.unset).toArray = ls at hl ⊢
  have hl : lv_has ls 2 [(0, .ref pr), (1, .int p0)] := hl
  refine lv_iload_n hx hb dX6_hasFunc_0 rfl (lv_at hl 1 rfl) ?_
  refine lv_if_lt (tgt := 16) hx hb dX6_hasFunc_1 (by decide) (fun c_1 => ?_) (fun c_1 => ?_)
  · refine lv_iconst (v := 0) hx hb dX6_hasFunc_16 (by decide) ?_
    have hP9 := hP.sub (ws' := [(pr, .inr (5, [.ref p_args, .ref p_locals, .ref p_starts, .ref p_lengths, .ref p_ops, .ref p_numbers, .ref p_depths, .int (nI F), .int (nI Wd), .int ck]))]) [0] rfl
    have hD9 := hD.sub (ws' := [(pr, .inr (5, [.ref p_args, .ref p_locals, .ref p_starts, .ref p_lengths, .ref p_ops, .ref p_numbers, .ref p_depths, .int (nI F), .int (nI Wd), .int ck]))]) [0] (by decide) rfl
    have h9 : (0 : Int32) = gz_has F p0 := by simp [gz_has, c_1]
    exact W.zret (v := (0)) hx hb hr (by decide) (fun t ht hW => ⟨⟨_, (), rfl, h9, pz_Bof hP9 hK hD9 ht hW⟩, hS.F ht⟩) hS.2.2 dX6_hasFunc_17
  · refine lv_iload_n hx hb dX6_hasFunc_4 rfl (lv_at hl 1 rfl) ?_
    refine lv_aload_n hx hb dX6_hasFunc_5 rfl (lv_at hl 0 rfl) ?_
    refine va_get (D := (dC, dI)) (ci := 5) (v := .int (nI F)) (C := RX6) (T := TX6) (N := 10) hx hb hts hiX6 hown hK hP 0 rfl rfl 7 (by decide) (hts (.fieldLink RX6 33 "RegisterMill$Program" "funcs" "I") (by decide +kernel)) (fun _ h9 => h9) rfl dX6_hasFunc_6 ?_
    refine lv_icmp_ge (tgt := 16) hx hb dX6_hasFunc_9 (by decide) (fun c_2 => ?_) (fun c_2 => ?_)
    · refine lv_iconst (v := 0) hx hb dX6_hasFunc_16 (by decide) ?_
      have hP9 := hP.sub (ws' := [(pr, .inr (5, [.ref p_args, .ref p_locals, .ref p_starts, .ref p_lengths, .ref p_ops, .ref p_numbers, .ref p_depths, .int (nI F), .int (nI Wd), .int ck]))]) [0] rfl
      have hD9 := hD.sub (ws' := [(pr, .inr (5, [.ref p_args, .ref p_locals, .ref p_starts, .ref p_lengths, .ref p_ops, .ref p_numbers, .ref p_depths, .int (nI F), .int (nI Wd), .int ck]))]) [0] (by decide) rfl
      have h9 : (0 : Int32) = gz_has F p0 := by simp [gz_has, c_1, c_2]
      exact W.zret (v := (0)) hx hb hr (by decide) (fun t ht hW => ⟨⟨_, (), rfl, h9, pz_Bof hP9 hK hD9 ht hW⟩, hS.F ht⟩) hS.2.2 dX6_hasFunc_17
    · refine lv_iconst (v := 1) hx hb dX6_hasFunc_12 (by decide) ?_
      refine lv_goto (tgt := 17) hx hb dX6_hasFunc_13 (by decide) ?_
      have hP9 := hP.sub (ws' := [(pr, .inr (5, [.ref p_args, .ref p_locals, .ref p_starts, .ref p_lengths, .ref p_ops, .ref p_numbers, .ref p_depths, .int (nI F), .int (nI Wd), .int ck]))]) [0] rfl
      have hD9 := hD.sub (ws' := [(pr, .inr (5, [.ref p_args, .ref p_locals, .ref p_starts, .ref p_lengths, .ref p_ops, .ref p_numbers, .ref p_depths, .int (nI F), .int (nI Wd), .int ck]))]) [0] (by decide) rfl
      have h9 : (1 : Int32) = gz_has F p0 := by simp [gz_has, c_1, c_2]
      exact W.zret (v := (1)) hx hb hr (by decide) (fun t ht hW => ⟨⟨_, (), rfl, h9, pz_Bof hP9 hK hD9 ht hW⟩, hS.F ht⟩) hS.2.2 dX6_hasFunc_17
