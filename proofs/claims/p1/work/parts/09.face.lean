def wq_X11_func : List Cond := .code yX11_func cX11_func 4 (some .int) :: ([.fieldLink RX11 12 "RegisterMill" "program" "LRegisterMill$Program;", .fieldLink RX11 51 "RegisterMill$Program" "checked" "Z", .fieldLink RX11 55 "RegisterMill$Program" "funcs" "I", .code yX6_addFunc cX6_addFunc 3 (some .int), .fieldLink RX6 9 "RegisterMill$Program" "args" "[I", .fieldLink RX6 33 "RegisterMill$Program" "funcs" "I", .fieldLink RX6 15 "RegisterMill$Program" "locals" "[I", .fieldLink RX6 18 "RegisterMill$Program" "starts" "[I", .fieldLink RX6 37 "RegisterMill$Program" "words" "I", .fieldLink RX6 21 "RegisterMill$Program" "lengths" "[I", .methodLink RX11 59 yX6_addFunc, .instanceMethod yX6_addFunc, .selects RX6 yX6_addFunc yX6_addFunc, .initialized RX6] ++ wsX110 ++ wsX60)
set_option maxRecDepth 20000 in
theorem gq_X11_func_X6_addFunc_59 : GoodIn wq_X11_func (wsV RX11 59 RX6 yX6_addFunc wq_X6_addFunc) := goodIn_r _ [11, 12, 13, 14, 4, 5, 6, 7, 8, 9, 10, 20, 21, 22, 23, 24, 25, 26, 27, 28, 29] (by decide +kernel) (by decide +kernel)
set_option maxHeartbeats 4000000 in
set_option maxRecDepth 100000 in
/-- func on a fresh object -/
theorem c_X11_func (l : Launch) (dC : Nat → ClassId) (dI : Nat → Nat → Nat) (cyI : ClassId) (sz : Nat) (h0 : Nat) (pr : Nat) (ck : Nat) (tu : Nat) (sm : Nat) (rm : Nat) (p_args : Nat) (p_locals : Nat) (p_starts : Nat) (p_lengths : Nat) (p_ops : Nat) (p_numbers : Nat) (p_depths : Nat) (p0 : Int32) (p1 : Int32) : Met l yX11_func wq_X11_func ({ frames := 1, cells := 0, slots := 0, locals := 22 }) (va_Pc [.ref h0, .int p0, .int p1] (pz_pre dC dI [(cyI, .int)] [(h0, .inr (10, [.ref pr, .ref ck, .ref tu, .ref sm, .ref rm])), (pr, .inr (5, [.ref p_args, .ref p_locals, .ref p_starts, .ref p_lengths, .ref p_ops, .ref p_numbers, .ref p_depths, .int 0, .int 0, .int 0])), (p_args, .inl (cyI, 12, .inl (fun _ => 0))), (p_locals, .inl (cyI, 12, .inl (fun _ => 0))), (p_starts, .inl (cyI, 12, .inl (fun _ => 0))), (p_lengths, .inl (cyI, 12, .inl (fun _ => 0)))] sz)) (va_Qi (S := Unit) (fun (r : Int32) _ => r = fz_func p0 p1) (fun _ _ => True) (va_A [(h0, .inr (10, [.ref pr, .ref ck, .ref tu, .ref sm, .ref rm])), (pr, .inr (5, [.ref p_args, .ref p_locals, .ref p_starts, .ref p_lengths, .ref p_ops, .ref p_numbers, .ref p_depths, .int 0, .int 0, .int 0])), (p_args, .inl (cyI, 12, .inl (fun _ => 0))), (p_locals, .inl (cyI, 12, .inl (fun _ => 0))), (p_starts, .inl (cyI, 12, .inl (fun _ => 0))), (p_lengths, .inl (cyI, 12, .inl (fun _ => 0)))] sz)) 0 0 (va_A [(h0, .inr (10, [.ref pr, .ref ck, .ref tu, .ref sm, .ref rm])), (pr, .inr (5, [.ref p_args, .ref p_locals, .ref p_starts, .ref p_lengths, .ref p_ops, .ref p_numbers, .ref p_depths, .int 0, .int 0, .int 0])), (p_args, .inl (cyI, 12, .inl (fun _ => 0))), (p_locals, .inl (cyI, 12, .inl (fun _ => 0))), (p_starts, .inl (cyI, 12, .inl (fun _ => 0))), (p_lengths, .inl (cyI, 12, .inl (fun _ => 0)))] sz) := by
  refine Met.ofW (cc := cX11_func) (maxL := 4) (ret := (some .int)) (by decide) rfl ?_
  intro p e s m args below meth c s₁ B hml hv
  obtain ⟨rfl, hsz, hP, hK, hD0, hNW⟩ := hv
  have hx := B.exec
  have hb := B.bytes
  have hr := B.returns
  have hts := atoms_spec (ws := wq_X11_func) B.pre
  have hown : s.vm.findClass RX11 = some m.cls := findClass_of_methodNamed B.named
  have hlocks := B.notSynchronized
  have hiX11 : ∀ w ∈ wsX110, w ∈ wq_X11_func := by decide +kernel
  have hiX6 : ∀ w ∈ wsX60, w ∈ wq_X11_func := by decide +kernel
  subst hsz
  have hD := hD0.self (sz := s.heap.size)
  generalize hAe : va_A [(h0, .inr (10, [.ref pr, .ref ck, .ref tu, .ref sm, .ref rm])), (pr, .inr (5, [.ref p_args, .ref p_locals, .ref p_starts, .ref p_lengths, .ref p_ops, .ref p_numbers, .ref p_depths, .int 0, .int 0, .int 0])), (p_args, .inl (cyI, 12, .inl (fun _ => 0))), (p_locals, .inl (cyI, 12, .inl (fun _ => 0))), (p_starts, .inl (cyI, 12, .inl (fun _ => 0))), (p_lengths, .inl (cyI, 12, .inl (fun _ => 0)))] s.heap.size = A at hD ⊢
  have hA : ∀ q : Nat, s.heap.size ≤ q → A q := fun q h => by rw [← hAe]; exact Or.inr h
  have hS : va_S A s.heap s.heap [] := va_S.rf
  have hl := lv_entry ([.ref h0, .int p0, .int p1]) (n := 4) (Nat.le_of_ble_eq_true rfl)
  rw [lg_entry_eq]
  generalize (lg_sl ([.ref h0, .int p0, .int p1]) ++ List.replicate (4 - (lg_sl ([.ref h0, .int p0, .int p1])).length) Slot.unset).toArray = ls at hl ⊢
  have hl : lv_has ls 4 [(0, .ref h0), (1, .int p0), (2, .int p1)] := hl
  refine lv_iload_n hx hb dX11_func_0 rfl (lv_at hl 1 rfl) ?_
  refine lv_if_lt (tgt := 25) hx hb dX11_func_1 (by decide) (fun c_1 => ?_) (fun c_1 => ?_)
  · refine lv_iconst (v := 0) hx hb dX11_func_25 (by decide) ?_
    refine lv_istore_n (lv' := [(3, .int 0), (0, .ref h0), (1, .int p0), (2, .int p1)]) hx hb dX11_func_26 rfl hl (by decide) rfl (fun ls hl => ?_)
    refine lv_iload_n hx hb dX11_func_27 rfl (lv_at hl 0 rfl) ?_
    refine lv_if_eq (tgt := 53) hx hb dX11_func_28 (by decide) (fun _ => ?_) (fun h => absurd h (by decide))
    refine lv_iconst (v := -1) hx hb dX11_func_53 (by decide) ?_
    have h9 : (-1 : Int32) = fz_func p0 p1 := by simp [fz_func, c_1]
    exact W.iret (v := (-1)) hx hb hr (fun t ht hW => ⟨⟨_, (), rfl, h9, trivial⟩, hS.F ht⟩) hS.2.2 dX11_func_54
  · refine lv_iload_n hx hb dX11_func_4 rfl (lv_at hl 1 rfl) ?_
    refine lv_bipush (v := 6) hx hb dX11_func_5 (by decide) ?_
    refine lv_icmp_gt (tgt := 25) hx hb dX11_func_7 (by decide) (fun c_3 => ?_) (fun c_3 => ?_)
    · refine lv_iconst (v := 0) hx hb dX11_func_25 (by decide) ?_
      refine lv_istore_n (lv' := [(3, .int 0), (0, .ref h0), (1, .int p0), (2, .int p1)]) hx hb dX11_func_26 rfl hl (by decide) rfl (fun ls hl => ?_)
      refine lv_iload_n hx hb dX11_func_27 rfl (lv_at hl 0 rfl) ?_
      refine lv_if_eq (tgt := 53) hx hb dX11_func_28 (by decide) (fun _ => ?_) (fun h => absurd h (by decide))
      refine lv_iconst (v := -1) hx hb dX11_func_53 (by decide) ?_
      have h9 : (-1 : Int32) = fz_func p0 p1 := by simp [fz_func, c_1, c_3]
      exact W.iret (v := (-1)) hx hb hr (fun t ht hW => ⟨⟨_, (), rfl, h9, trivial⟩, hS.F ht⟩) hS.2.2 dX11_func_54
    · refine lv_iload_n hx hb dX11_func_10 rfl (lv_at hl 2 rfl) ?_
      refine lv_iload_n hx hb dX11_func_11 rfl (lv_at hl 1 rfl) ?_
      refine lv_icmp_lt (tgt := 25) hx hb dX11_func_12 (by decide) (fun c_5 => ?_) (fun c_5 => ?_)
      · refine lv_iconst (v := 0) hx hb dX11_func_25 (by decide) ?_
        refine lv_istore_n (lv' := [(3, .int 0), (0, .ref h0), (1, .int p0), (2, .int p1)]) hx hb dX11_func_26 rfl hl (by decide) rfl (fun ls hl => ?_)
        refine lv_iload_n hx hb dX11_func_27 rfl (lv_at hl 0 rfl) ?_
        refine lv_if_eq (tgt := 53) hx hb dX11_func_28 (by decide) (fun _ => ?_) (fun h => absurd h (by decide))
        refine lv_iconst (v := -1) hx hb dX11_func_53 (by decide) ?_
        have h9 : (-1 : Int32) = fz_func p0 p1 := by simp [fz_func, c_1, c_3, c_5, (pz_nle c_5)]
        exact W.iret (v := (-1)) hx hb hr (fun t ht hW => ⟨⟨_, (), rfl, h9, trivial⟩, hS.F ht⟩) hS.2.2 dX11_func_54
      · refine lv_iload_n hx hb dX11_func_15 rfl (lv_at hl 2 rfl) ?_
        refine lv_bipush (v := 10) hx hb dX11_func_16 (by decide) ?_
        refine lv_icmp_gt (tgt := 25) hx hb dX11_func_18 (by decide) (fun c_7 => ?_) (fun c_7 => ?_)
        · refine lv_iconst (v := 0) hx hb dX11_func_25 (by decide) ?_
          refine lv_istore_n (lv' := [(3, .int 0), (0, .ref h0), (1, .int p0), (2, .int p1)]) hx hb dX11_func_26 rfl hl (by decide) rfl (fun ls hl => ?_)
          refine lv_iload_n hx hb dX11_func_27 rfl (lv_at hl 0 rfl) ?_
          refine lv_if_eq (tgt := 53) hx hb dX11_func_28 (by decide) (fun _ => ?_) (fun h => absurd h (by decide))
          refine lv_iconst (v := -1) hx hb dX11_func_53 (by decide) ?_
          have h9 : (-1 : Int32) = fz_func p0 p1 := by simp [fz_func, c_1, c_3, c_5, (pz_nlt c_5), c_7]
          exact W.iret (v := (-1)) hx hb hr (fun t ht hW => ⟨⟨_, (), rfl, h9, trivial⟩, hS.F ht⟩) hS.2.2 dX11_func_54
        · refine lv_iconst (v := 1) hx hb dX11_func_21 (by decide) ?_
          refine lv_goto (tgt := 26) hx hb dX11_func_22 (by decide) ?_
          refine lv_istore_n (lv' := [(3, .int 1), (0, .ref h0), (1, .int p0), (2, .int p1)]) hx hb dX11_func_26 rfl hl (by decide) rfl (fun ls hl => ?_)
          refine lv_iload_n hx hb dX11_func_27 rfl (lv_at hl 0 rfl) ?_
          refine lv_if_eq (tgt := 53) hx hb dX11_func_28 (by decide) (fun h => absurd h (by decide)) (fun _ => ?_)
          refine lv_aload_n hx hb dX11_func_31 rfl (lv_at hl 1 rfl) ?_
          refine va_get (D := (dC, dI)) (ci := 10) (v := .ref pr) (C := RX11) (T := TX11) (N := 5) hx hb hts hiX11 hown hK hP 0 rfl rfl 0 (by decide) (hts (.fieldLink RX11 12 "RegisterMill" "program" "LRegisterMill$Program;") (by decide +kernel)) (fun _ h9 => h9) rfl dX11_func_32 ?_
          refine va_get (D := (dC, dI)) (ci := 5) (v := .int 0) (C := RX6) (T := TX6) (N := 10) hx hb hts hiX6 hown hK hP 1 rfl rfl 9 (by decide) (hts (.fieldLink RX11 51 "RegisterMill$Program" "checked" "Z") (by decide +kernel)) (fun _ h9 => h9) rfl dX11_func_35 ?_
          refine lv_if_ne (tgt := 53) hx hb dX11_func_38 (by decide) (fun h => absurd h (by decide)) (fun _ => ?_)
          refine lv_aload_n hx hb dX11_func_41 rfl (lv_at hl 1 rfl) ?_
          refine va_get (D := (dC, dI)) (ci := 10) (v := .ref pr) (C := RX11) (T := TX11) (N := 5) hx hb hts hiX11 hown hK hP 0 rfl rfl 0 (by decide) (hts (.fieldLink RX11 12 "RegisterMill" "program" "LRegisterMill$Program;") (by decide +kernel)) (fun _ h9 => h9) rfl dX11_func_42 ?_
          refine va_get (D := (dC, dI)) (ci := 5) (v := .int 0) (C := RX6) (T := TX6) (N := 10) hx hb hts hiX6 hown hK hP 1 rfl rfl 7 (by decide) (hts (.fieldLink RX11 55 "RegisterMill$Program" "funcs" "I") (by decide +kernel)) (fun _ h9 => h9) rfl dX11_func_45 ?_
          refine lv_bipush (v := 12) hx hb dX11_func_48 (by decide) ?_
          refine lv_icmp_lt (tgt := 55) hx hb dX11_func_50 (by decide) (fun _ => ?_) (fun h => absurd h (by decide))
          refine lv_aload_n hx hb dX11_func_55 rfl (lv_at hl 1 rfl) ?_
          refine va_get (D := (dC, dI)) (ci := 10) (v := .ref pr) (C := RX11) (T := TX11) (N := 5) hx hb hts hiX11 hown hK hP 0 rfl rfl 0 (by decide) (hts (.fieldLink RX11 12 "RegisterMill" "program" "LRegisterMill$Program;") (by decide +kernel)) (fun _ h9 => h9) rfl dX11_func_56 ?_
          refine lv_iload_n hx hb dX11_func_59 rfl (lv_at hl 2 rfl) ?_
          refine lv_iload_n hx hb dX11_func_60 rfl (lv_at hl 3 rfl) ?_
          have hPc := hP.sub (ws' := [(pr, .inr (5, [.ref p_args, .ref p_locals, .ref p_starts, .ref p_lengths, .ref p_ops, .ref p_numbers, .ref p_depths, .int 0, .int 0, .int 0])), (p_args, .inl (cyI, 12, .inl (fun _ => 0))), (p_locals, .inl (cyI, 12, .inl (fun _ => 0))), (p_starts, .inl (cyI, 12, .inl (fun _ => 0))), (p_lengths, .inl (cyI, 12, .inl (fun _ => 0)))]) [1, 2, 3, 4, 5] rfl
          have hDc := hD.sub (ws' := [(pr, .inr (5, [.ref p_args, .ref p_locals, .ref p_starts, .ref p_lengths, .ref p_ops, .ref p_numbers, .ref p_depths, .int 0, .int 0, .int 0])), (p_args, .inl (cyI, 12, .inl (fun _ => 0))), (p_locals, .inl (cyI, 12, .inl (fun _ => 0))), (p_starts, .inl (cyI, 12, .inl (fun _ => 0))), (p_lengths, .inl (cyI, 12, .inl (fun _ => 0)))]) [1, 2, 3, 4, 5] (by decide) rfl
          have hKc := hK.sub (tys' := [(cyI, .int)]) [0] rfl
          have hFc := va_free (wc := [(pr, .inr (5, [.ref p_args, .ref p_locals, .ref p_starts, .ref p_lengths, .ref p_ops, .ref p_numbers, .ref p_depths, .int 0, .int 0, .int 0])), (p_args, .inl (cyI, 12, .inl (fun _ => 0))), (p_locals, .inl (cyI, 12, .inl (fun _ => 0))), (p_starts, .inl (cyI, 12, .inl (fun _ => 0))), (p_lengths, .inl (cyI, 12, .inl (fun _ => 0)))]) hD hS hA [1, 2, 3, 4, 5] rfl
          refine va_calli (va_runV (As := [.int p0, .int p1]) (rest := []) ⟨hx, hb, hml, hown, hts⟩ (c_X6_addFunc l dC dI cyI s.heap.size pr p_args p_locals p_starts p_lengths p_ops p_numbers p_depths p0 p1) (cwV 2 hts gq_X11_func_X6_addFunc_59 rfl rfl rfl (by decide +kernel) ⟨Nat.le_of_ble_eq_true rfl, Nat.le_of_ble_eq_true rfl⟩) ⟨pz_blind, va_recv hKc hPc (ci := 5) (q0 := 0) rfl rfl, pz_to hPc hKc hDc hNW⟩ rfl rfl hl.1 rfl (lv_room (Nat.le_of_ble_eq_true rfl)) dX11_func_61 (by decide)) hS (fun q _ h => hFc q h) hFc (fun r_12 u t H1 locs ht hvm hw hB hz1 hk1 hS => ?_)
          have hP1 : va_P (dC, dI) vwCl [] H1 := pz_Pn
          have hD1 : va_D (va_A [(pr, .inr (5, [.ref p_args, .ref p_locals, .ref p_starts, .ref p_lengths, .ref p_ops, .ref p_numbers, .ref p_depths, .int 0, .int 0, .int 0])), (p_args, .inl (cyI, 12, .inl (fun _ => 0))), (p_locals, .inl (cyI, 12, .inl (fun _ => 0))), (p_starts, .inl (cyI, 12, .inl (fun _ => 0))), (p_lengths, .inl (cyI, 12, .inl (fun _ => 0)))] s.heap.size) [] := pz_Dn
          obtain ⟨hP, hD⟩ := va_join (wr := [(h0, .inr (10, [.ref pr, .ref ck, .ref tu, .ref sm, .ref rm]))]) (w1 := []) hP hD [1, 2, 3, 4, 5] [0] rfl rfl (by decide) (by decide) hk1 hFc hP1 hD1
          generalize H1 = H at hP hS ⊢
          have hP : va_P (dC, dI) vwCl [(h0, .inr (10, [.ref pr, .ref ck, .ref tu, .ref sm, .ref rm]))] H := hP
          have hD : va_D A [(h0, .inr (10, [.ref pr, .ref ck, .ref tu, .ref sm, .ref rm]))] := hD
          have er_12 : r_12 = 0 := hw
          subst er_12
          have h9 : (0 : Int32) = fz_func p0 p1 := by simp [fz_func, c_1, c_3, c_5, (pz_nlt c_5), c_7]
          exact W.iret (v := (0)) hx hb hr (fun t ht hW => ⟨⟨_, (), rfl, h9, trivial⟩, hS.F ht⟩) hS.2.2 dX11_func_64

def wq_X11_word : List Cond := .code yX11_word cX11_word 3 (some .int) :: ([.fieldLink RX11 12 "RegisterMill" "program" "LRegisterMill$Program;", .fieldLink RX11 55 "RegisterMill$Program" "funcs" "I"] ++ wsX110 ++ wsX60)
set_option maxHeartbeats 4000000 in
set_option maxRecDepth 100000 in
/-- word on a fresh object -/
theorem c_X11_word (l : Launch) (dC : Nat → ClassId) (dI : Nat → Nat → Nat) (cyI : ClassId) (sz : Nat) (h0 : Nat) (pr : Nat) (ck : Nat) (tu : Nat) (sm : Nat) (rm : Nat) (p_args : Nat) (p_locals : Nat) (p_starts : Nat) (p_lengths : Nat) (p_ops : Nat) (p_numbers : Nat) (p_depths : Nat) (p0 : Int32) (p1 : Int32) : Met l yX11_word wq_X11_word ({ frames := 0, cells := 0, slots := 0, locals := 0 }) (va_Pc [.ref h0, .int p0, .int p1] (pz_pre dC dI [(cyI, .int)] [(h0, .inr (10, [.ref pr, .ref ck, .ref tu, .ref sm, .ref rm])), (pr, .inr (5, [.ref p_args, .ref p_locals, .ref p_starts, .ref p_lengths, .ref p_ops, .ref p_numbers, .ref p_depths, .int 0, .int 0, .int 0]))] sz)) (va_Qi (S := Unit) (fun (r : Int32) _ => r = (-1)) (fun _ _ => True) (va_A [(h0, .inr (10, [.ref pr, .ref ck, .ref tu, .ref sm, .ref rm])), (pr, .inr (5, [.ref p_args, .ref p_locals, .ref p_starts, .ref p_lengths, .ref p_ops, .ref p_numbers, .ref p_depths, .int 0, .int 0, .int 0]))] sz)) 0 0 (va_A [(h0, .inr (10, [.ref pr, .ref ck, .ref tu, .ref sm, .ref rm])), (pr, .inr (5, [.ref p_args, .ref p_locals, .ref p_starts, .ref p_lengths, .ref p_ops, .ref p_numbers, .ref p_depths, .int 0, .int 0, .int 0]))] sz) := by
  refine Met.ofW (cc := cX11_word) (maxL := 3) (ret := (some .int)) (by decide) rfl ?_
  intro p e s m args below meth c s₁ B hml hv
  obtain ⟨rfl, hsz, hP, hK, hD0, hNW⟩ := hv
  have hx := B.exec
  have hb := B.bytes
  have hr := B.returns
  have hts := atoms_spec (ws := wq_X11_word) B.pre
  have hown : s.vm.findClass RX11 = some m.cls := findClass_of_methodNamed B.named
  have hlocks := B.notSynchronized
  have hiX11 : ∀ w ∈ wsX110, w ∈ wq_X11_word := by decide +kernel
  have hiX6 : ∀ w ∈ wsX60, w ∈ wq_X11_word := by decide +kernel
  subst hsz
  have hD := hD0.self (sz := s.heap.size)
  generalize hAe : va_A [(h0, .inr (10, [.ref pr, .ref ck, .ref tu, .ref sm, .ref rm])), (pr, .inr (5, [.ref p_args, .ref p_locals, .ref p_starts, .ref p_lengths, .ref p_ops, .ref p_numbers, .ref p_depths, .int 0, .int 0, .int 0]))] s.heap.size = A at hD ⊢
  have hA : ∀ q : Nat, s.heap.size ≤ q → A q := fun q h => by rw [← hAe]; exact Or.inr h
  have hS : va_S A s.heap s.heap [] := va_S.rf
  have hl := lv_entry ([.ref h0, .int p0, .int p1]) (n := 3) (Nat.le_of_ble_eq_true rfl)
  rw [lg_entry_eq]
  generalize (lg_sl ([.ref h0, .int p0, .int p1]) ++ List.replicate (3 - (lg_sl ([.ref h0, .int p0, .int p1])).length) Slot.unset).toArray = ls at hl ⊢
  have hl : lv_has ls 3 [(0, .ref h0), (1, .int p0), (2, .int p1)] := hl
  refine lv_aload_n hx hb dX11_word_0 rfl (lv_at hl 0 rfl) ?_
  refine va_get (D := (dC, dI)) (ci := 10) (v := .ref pr) (C := RX11) (T := TX11) (N := 5) hx hb hts hiX11 hown hK hP 0 rfl rfl 0 (by decide) (hts (.fieldLink RX11 12 "RegisterMill" "program" "LRegisterMill$Program;") (by decide +kernel)) (fun _ h9 => h9) rfl dX11_word_1 ?_
  refine va_get (D := (dC, dI)) (ci := 5) (v := .int 0) (C := RX6) (T := TX6) (N := 10) hx hb hts hiX6 hown hK hP 1 rfl rfl 7 (by decide) (hts (.fieldLink RX11 55 "RegisterMill$Program" "funcs" "I") (by decide +kernel)) (fun _ h9 => h9) rfl dX11_word_4 ?_
  refine lv_if_eq (tgt := 33) hx hb dX11_word_7 (by decide) (fun _ => ?_) (fun h => absurd h (by decide))
  refine lv_iconst (v := -1) hx hb dX11_word_33 (by decide) ?_
  have h9 : (-1 : Int32) = (-1) := rfl
  exact W.iret (v := (-1)) hx hb hr (fun t ht hW => ⟨⟨_, (), rfl, h9, trivial⟩, hS.F ht⟩) hS.2.2 dX11_word_34

def wq_X11_check : List Cond := .code yX11_check cX11_check 2 (some .int) :: ([.fieldLink RX11 12 "RegisterMill" "program" "LRegisterMill$Program;", .fieldLink RX11 51 "RegisterMill$Program" "checked" "Z", .fieldLink RX11 21 "RegisterMill" "checker" "LRegisterMill$Checker;", .code yX0_firstFault cX0_firstFault 3 (some .int), .fieldLink RX0 15 "RegisterMill$Checker" "program" "LRegisterMill$Program;", .fieldLink RX0 19 "RegisterMill$Program" "funcs" "I", .methodLink RX11 69 yX0_firstFault, .instanceMethod yX0_firstFault, .selects RX0 yX0_firstFault yX0_firstFault, .initialized RX0] ++ wsX110 ++ wsX60 ++ wsX00)
set_option maxRecDepth 20000 in
theorem gq_X11_check_X0_firstFault_69 : GoodIn wq_X11_check (wsV RX11 69 RX0 yX0_firstFault wq_X0_firstFault) := goodIn_r _ [7, 8, 9, 10, 4, 5, 6, 26, 27, 28, 16, 17, 18, 19, 20, 21, 22, 23, 24, 25] (by decide +kernel) (by decide +kernel)
set_option maxHeartbeats 4000000 in
set_option maxRecDepth 100000 in
/-- check on a fresh object -/
theorem c_X11_check (l : Launch) (dC : Nat → ClassId) (dI : Nat → Nat → Nat) (cyI : ClassId) (sz : Nat) (h0 : Nat) (pr : Nat) (ck : Nat) (tu : Nat) (sm : Nat) (rm : Nat) (p_args : Nat) (p_locals : Nat) (p_starts : Nat) (p_lengths : Nat) (p_ops : Nat) (p_numbers : Nat) (p_depths : Nat) (k_passed : Nat) : Met l yX11_check wq_X11_check ({ frames := 1, cells := 0, slots := 0, locals := 22 }) (va_Pc [.ref h0] (pz_pre dC dI [(cyI, .int)] [(h0, .inr (10, [.ref pr, .ref ck, .ref tu, .ref sm, .ref rm])), (pr, .inr (5, [.ref p_args, .ref p_locals, .ref p_starts, .ref p_lengths, .ref p_ops, .ref p_numbers, .ref p_depths, .int 0, .int 0, .int 0])), (ck, .inr (0, [.ref pr, .ref k_passed, .int 0]))] sz)) (va_Qi (S := Unit) (fun (r : Int32) _ => r = 7) (fun _ _ => True) (va_A [(h0, .inr (10, [.ref pr, .ref ck, .ref tu, .ref sm, .ref rm])), (pr, .inr (5, [.ref p_args, .ref p_locals, .ref p_starts, .ref p_lengths, .ref p_ops, .ref p_numbers, .ref p_depths, .int 0, .int 0, .int 0])), (ck, .inr (0, [.ref pr, .ref k_passed, .int 0]))] sz)) 0 0 (va_A [(h0, .inr (10, [.ref pr, .ref ck, .ref tu, .ref sm, .ref rm])), (pr, .inr (5, [.ref p_args, .ref p_locals, .ref p_starts, .ref p_lengths, .ref p_ops, .ref p_numbers, .ref p_depths, .int 0, .int 0, .int 0])), (ck, .inr (0, [.ref pr, .ref k_passed, .int 0]))] sz) := by
  refine Met.ofW (cc := cX11_check) (maxL := 2) (ret := (some .int)) (by decide) rfl ?_
  intro p e s m args below meth c s₁ B hml hv
  obtain ⟨rfl, hsz, hP, hK, hD0, hNW⟩ := hv
  have hx := B.exec
  have hb := B.bytes
  have hr := B.returns
  have hts := atoms_spec (ws := wq_X11_check) B.pre
  have hown : s.vm.findClass RX11 = some m.cls := findClass_of_methodNamed B.named
  have hlocks := B.notSynchronized
  have hiX11 : ∀ w ∈ wsX110, w ∈ wq_X11_check := by decide +kernel
  have hiX6 : ∀ w ∈ wsX60, w ∈ wq_X11_check := by decide +kernel
  have hiX0 : ∀ w ∈ wsX00, w ∈ wq_X11_check := by decide +kernel
  subst hsz
  have hD := hD0.self (sz := s.heap.size)
  generalize hAe : va_A [(h0, .inr (10, [.ref pr, .ref ck, .ref tu, .ref sm, .ref rm])), (pr, .inr (5, [.ref p_args, .ref p_locals, .ref p_starts, .ref p_lengths, .ref p_ops, .ref p_numbers, .ref p_depths, .int 0, .int 0, .int 0])), (ck, .inr (0, [.ref pr, .ref k_passed, .int 0]))] s.heap.size = A at hD ⊢
  have hA : ∀ q : Nat, s.heap.size ≤ q → A q := fun q h => by rw [← hAe]; exact Or.inr h
  have hS : va_S A s.heap s.heap [] := va_S.rf
  have hl := lv_entry ([.ref h0]) (n := 2) (Nat.le_of_ble_eq_true rfl)
  rw [lg_entry_eq]
  generalize (lg_sl ([.ref h0]) ++ List.replicate (2 - (lg_sl ([.ref h0])).length) Slot.unset).toArray = ls at hl ⊢
  have hl : lv_has ls 2 [(0, .ref h0)] := hl
  refine lv_aload_n hx hb dX11_check_0 rfl (lv_at hl 0 rfl) ?_
  refine va_get (D := (dC, dI)) (ci := 10) (v := .ref pr) (C := RX11) (T := TX11) (N := 5) hx hb hts hiX11 hown hK hP 0 rfl rfl 0 (by decide) (hts (.fieldLink RX11 12 "RegisterMill" "program" "LRegisterMill$Program;") (by decide +kernel)) (fun _ h9 => h9) rfl dX11_check_1 ?_
  refine va_get (D := (dC, dI)) (ci := 5) (v := .int 0) (C := RX6) (T := TX6) (N := 10) hx hb hts hiX6 hown hK hP 1 rfl rfl 9 (by decide) (hts (.fieldLink RX11 51 "RegisterMill$Program" "checked" "Z") (by decide +kernel)) (fun _ h9 => h9) rfl dX11_check_4 ?_
  refine lv_if_eq (tgt := 12) hx hb dX11_check_7 (by decide) (fun _ => ?_) (fun h => absurd h (by decide))
  refine lv_aload_n hx hb dX11_check_12 rfl (lv_at hl 0 rfl) ?_
  refine va_get (D := (dC, dI)) (ci := 10) (v := .ref ck) (C := RX11) (T := TX11) (N := 5) hx hb hts hiX11 hown hK hP 0 rfl rfl 1 (by decide) (hts (.fieldLink RX11 21 "RegisterMill" "checker" "LRegisterMill$Checker;") (by decide +kernel)) (fun _ h9 => h9) rfl dX11_check_13 ?_
  have hPc := hP.sub (ws' := [(ck, .inr (0, [.ref pr, .ref k_passed, .int 0])), (pr, .inr (5, [.ref p_args, .ref p_locals, .ref p_starts, .ref p_lengths, .ref p_ops, .ref p_numbers, .ref p_depths, .int 0, .int 0, .int 0]))]) [2, 1] rfl
  have hDc := hD.sub (ws' := [(ck, .inr (0, [.ref pr, .ref k_passed, .int 0])), (pr, .inr (5, [.ref p_args, .ref p_locals, .ref p_starts, .ref p_lengths, .ref p_ops, .ref p_numbers, .ref p_depths, .int 0, .int 0, .int 0]))]) [2, 1] (by decide) rfl
  have hKc := hK.sub (tys' := [(cyI, .int)]) [0] rfl
  have hFc := va_free (wc := [(ck, .inr (0, [.ref pr, .ref k_passed, .int 0])), (pr, .inr (5, [.ref p_args, .ref p_locals, .ref p_starts, .ref p_lengths, .ref p_ops, .ref p_numbers, .ref p_depths, .int 0, .int 0, .int 0]))]) hD hS hA [2, 1] rfl
  refine va_calli (va_runV (As := []) (rest := []) ⟨hx, hb, hml, hown, hts⟩ (c_X0_firstFault l dC dI cyI s.heap.size ck pr k_passed p_args p_locals p_starts p_lengths p_ops p_numbers p_depths) (cwV 0 hts gq_X11_check_X0_firstFault_69 rfl rfl rfl (by decide +kernel) ⟨Nat.le_of_ble_eq_true rfl, Nat.le_of_ble_eq_true rfl⟩) ⟨pz_blind, va_recv hKc hPc (ci := 0) (q0 := 0) rfl rfl, pz_to hPc hKc hDc hNW⟩ rfl rfl hl.1 rfl (lv_room (Nat.le_of_ble_eq_true rfl)) dX11_check_16 (by decide)) hS (fun q _ h => hFc q h) hFc (fun r_2 u t H1 locs ht hvm hw hB hz1 hk1 hS => ?_)
  obtain ⟨hP1, hK1, hD1⟩ := hB
  rw [ht] at hP1
  obtain ⟨hP, hD⟩ := va_join (wr := [(h0, .inr (10, [.ref pr, .ref ck, .ref tu, .ref sm, .ref rm]))]) (w1 := [(ck, .inr (0, [.ref pr, .ref k_passed, .int 0])), (pr, .inr (5, [.ref p_args, .ref p_locals, .ref p_starts, .ref p_lengths, .ref p_ops, .ref p_numbers, .ref p_depths, .int 0, .int 0, .int 0]))]) hP hD [2, 1] [0] rfl rfl (by decide) (by decide) hk1 hFc hP1 hD1
  generalize H1 = H at hP hS ⊢
  have hP : va_P (dC, dI) vwCl [(h0, .inr (10, [.ref pr, .ref ck, .ref tu, .ref sm, .ref rm])), (ck, .inr (0, [.ref pr, .ref k_passed, .int 0])), (pr, .inr (5, [.ref p_args, .ref p_locals, .ref p_starts, .ref p_lengths, .ref p_ops, .ref p_numbers, .ref p_depths, .int 0, .int 0, .int 0]))] H := hP
  have hD : va_D A [(h0, .inr (10, [.ref pr, .ref ck, .ref tu, .ref sm, .ref rm])), (ck, .inr (0, [.ref pr, .ref k_passed, .int 0])), (pr, .inr (5, [.ref p_args, .ref p_locals, .ref p_starts, .ref p_lengths, .ref p_ops, .ref p_numbers, .ref p_depths, .int 0, .int 0, .int 0]))] := hD
  have er_2 : r_2 = 7 := hw
  subst er_2
  refine lv_istore_n (lv' := [(1, .int 7), (0, .ref h0)]) hx hb dX11_check_19 rfl hl (by decide) rfl (fun ls hl => ?_)
  refine lv_aload_n hx hb dX11_check_20 rfl (lv_at hl 1 rfl) ?_
  refine va_get (D := (dC, dI)) (ci := 10) (v := .ref pr) (C := RX11) (T := TX11) (N := 5) hx hb hts hiX11 hown hK hP 0 rfl rfl 0 (by decide) (hts (.fieldLink RX11 12 "RegisterMill" "program" "LRegisterMill$Program;") (by decide +kernel)) (fun _ h9 => h9) rfl dX11_check_21 ?_
  refine lv_iload_n hx hb dX11_check_24 rfl (lv_at hl 0 rfl) ?_
  refine lv_if_ne (tgt := 32) hx hb dX11_check_25 (by decide) (fun _ => ?_) (fun h => absurd h (by decide))
  refine lv_iconst (v := 0) hx hb dX11_check_32 (by decide) ?_
  refine va_put (D := (dC, dI)) (ci := 5) (v := .int 0) (ty := .boolean) (C := RX6) (T := TX6) (N := 10) hx hb hts hiX6 tyX6 tyX6_ok nmX6 hown hK hP hD hS 2 rfl rfl 9 (by decide) (hts (.fieldLink RX11 51 "RegisterMill$Program" "checked" "Z") (by decide +kernel)) (fun _ h9 => h9) rfl (by decide +kernel) (by decide) (by decide) (Nat.le_of_ble_eq_true rfl) dX11_check_33 (fun H locs hP hD hS => ?_)
  have hP : va_P (dC, dI) vwCl [(h0, .inr (10, [.ref pr, .ref ck, .ref tu, .ref sm, .ref rm])), (ck, .inr (0, [.ref pr, .ref k_passed, .int 0])), (pr, .inr (5, [.ref p_args, .ref p_locals, .ref p_starts, .ref p_lengths, .ref p_ops, .ref p_numbers, .ref p_depths, .int 0, .int 0, .int 0]))] H := hP
  have hD : va_D A [(h0, .inr (10, [.ref pr, .ref ck, .ref tu, .ref sm, .ref rm])), (ck, .inr (0, [.ref pr, .ref k_passed, .int 0])), (pr, .inr (5, [.ref p_args, .ref p_locals, .ref p_starts, .ref p_lengths, .ref p_ops, .ref p_numbers, .ref p_depths, .int 0, .int 0, .int 0]))] := hD
  refine lv_iload_n hx hb dX11_check_36 rfl (lv_at hl 0 rfl) ?_
  have h9 : (7 : Int32) = 7 := rfl
  exact W.iret (v := (7)) hx hb hr (fun t ht hW => ⟨⟨_, (), rfl, h9, trivial⟩, hS.F ht⟩) hS.2.2 dX11_check_37

def wq_X11_depth : List Cond := .code yX11_depth cX11_depth 3 (some .int) :: ([.fieldLink RX11 12 "RegisterMill" "program" "LRegisterMill$Program;", .fieldLink RX11 51 "RegisterMill$Program" "checked" "Z"] ++ wsX110 ++ wsX60)
set_option maxHeartbeats 4000000 in
set_option maxRecDepth 100000 in
/-- depth on a fresh object -/
theorem c_X11_depth (l : Launch) (dC : Nat → ClassId) (dI : Nat → Nat → Nat) (cyI : ClassId) (sz : Nat) (h0 : Nat) (pr : Nat) (ck : Nat) (tu : Nat) (sm : Nat) (rm : Nat) (p_args : Nat) (p_locals : Nat) (p_starts : Nat) (p_lengths : Nat) (p_ops : Nat) (p_numbers : Nat) (p_depths : Nat) (p0 : Int32) (p1 : Int32) : Met l yX11_depth wq_X11_depth ({ frames := 0, cells := 0, slots := 0, locals := 0 }) (va_Pc [.ref h0, .int p0, .int p1] (pz_pre dC dI [(cyI, .int)] [(h0, .inr (10, [.ref pr, .ref ck, .ref tu, .ref sm, .ref rm])), (pr, .inr (5, [.ref p_args, .ref p_locals, .ref p_starts, .ref p_lengths, .ref p_ops, .ref p_numbers, .ref p_depths, .int 0, .int 0, .int 0]))] sz)) (va_Qi (S := Unit) (fun (r : Int32) _ => r = (-1)) (fun _ _ => True) (va_A [(h0, .inr (10, [.ref pr, .ref ck, .ref tu, .ref sm, .ref rm])), (pr, .inr (5, [.ref p_args, .ref p_locals, .ref p_starts, .ref p_lengths, .ref p_ops, .ref p_numbers, .ref p_depths, .int 0, .int 0, .int 0]))] sz)) 0 0 (va_A [(h0, .inr (10, [.ref pr, .ref ck, .ref tu, .ref sm, .ref rm])), (pr, .inr (5, [.ref p_args, .ref p_locals, .ref p_starts, .ref p_lengths, .ref p_ops, .ref p_numbers, .ref p_depths, .int 0, .int 0, .int 0]))] sz) := by
  refine Met.ofW (cc := cX11_depth) (maxL := 3) (ret := (some .int)) (by decide) rfl ?_
  intro p e s m args below meth c s₁ B hml hv
  obtain ⟨rfl, hsz, hP, hK, hD0, hNW⟩ := hv
  have hx := B.exec
  have hb := B.bytes
  have hr := B.returns
  have hts := atoms_spec (ws := wq_X11_depth) B.pre
  have hown : s.vm.findClass RX11 = some m.cls := findClass_of_methodNamed B.named
  have hlocks := B.notSynchronized
  have hiX11 : ∀ w ∈ wsX110, w ∈ wq_X11_depth := by decide +kernel
  have hiX6 : ∀ w ∈ wsX60, w ∈ wq_X11_depth := by decide +kernel
  subst hsz
  have hD := hD0.self (sz := s.heap.size)
  generalize hAe : va_A [(h0, .inr (10, [.ref pr, .ref ck, .ref tu, .ref sm, .ref rm])), (pr, .inr (5, [.ref p_args, .ref p_locals, .ref p_starts, .ref p_lengths, .ref p_ops, .ref p_numbers, .ref p_depths, .int 0, .int 0, .int 0]))] s.heap.size = A at hD ⊢
  have hA : ∀ q : Nat, s.heap.size ≤ q → A q := fun q h => by rw [← hAe]; exact Or.inr h
  have hS : va_S A s.heap s.heap [] := va_S.rf
  have hl := lv_entry ([.ref h0, .int p0, .int p1]) (n := 3) (Nat.le_of_ble_eq_true rfl)
  rw [lg_entry_eq]
  generalize (lg_sl ([.ref h0, .int p0, .int p1]) ++ List.replicate (3 - (lg_sl ([.ref h0, .int p0, .int p1])).length) Slot.unset).toArray = ls at hl ⊢
  have hl : lv_has ls 3 [(0, .ref h0), (1, .int p0), (2, .int p1)] := hl
  refine lv_aload_n hx hb dX11_depth_0 rfl (lv_at hl 0 rfl) ?_
  refine va_get (D := (dC, dI)) (ci := 10) (v := .ref pr) (C := RX11) (T := TX11) (N := 5) hx hb hts hiX11 hown hK hP 0 rfl rfl 0 (by decide) (hts (.fieldLink RX11 12 "RegisterMill" "program" "LRegisterMill$Program;") (by decide +kernel)) (fun _ h9 => h9) rfl dX11_depth_1 ?_
  refine va_get (D := (dC, dI)) (ci := 5) (v := .int 0) (C := RX6) (T := TX6) (N := 10) hx hb hts hiX6 hown hK hP 1 rfl rfl 9 (by decide) (hts (.fieldLink RX11 51 "RegisterMill$Program" "checked" "Z") (by decide +kernel)) (fun _ h9 => h9) rfl dX11_depth_4 ?_
  refine lv_if_eq (tgt := 21) hx hb dX11_depth_7 (by decide) (fun _ => ?_) (fun h => absurd h (by decide))
  refine lv_iconst (v := -1) hx hb dX11_depth_21 (by decide) ?_
  have h9 : (-1 : Int32) = (-1) := rfl
  exact W.iret (v := (-1)) hx hb hr (fun t ht hW => ⟨⟨_, (), rfl, h9, trivial⟩, hS.F ht⟩) hS.2.2 dX11_depth_22

def wq_X11_clear : List Cond := .code yX11_clear cX11_clear 1 none :: ([.fieldLink RX11 12 "RegisterMill" "program" "LRegisterMill$Program;", .code yX6_empty cX6_empty 1 none, .fieldLink RX6 33 "RegisterMill$Program" "funcs" "I", .fieldLink RX6 37 "RegisterMill$Program" "words" "I", .fieldLink RX6 40 "RegisterMill$Program" "checked" "Z", .methodLink RX11 87 yX6_empty, .instanceMethod yX6_empty, .selects RX6 yX6_empty yX6_empty, .initialized RX6, .fieldLink RX11 28 "RegisterMill" "turner" "LRegisterMill$Turner;", .fieldLink RX11 90 "RegisterMill$Turner" "registers" "I", .code yX11_beginMachines cX11_beginMachines 1 none, .fieldLink RX11 35 "RegisterMill" "stackMachine" "LRegisterMill$Machine;", .code yX8_begin cX8_begin 1 none, .code yX4_begin cX4_begin 1 none, .fieldLink RX4 21 "RegisterMill$Machine" "end" "I", .fieldLink RX4 25 "RegisterMill$Machine" "told" "I", .fieldLink RX4 28 "RegisterMill$Machine" "steps" "I", .fieldLink RX4 31 "RegisterMill$Machine" "calls" "I", .fieldLink RX4 34 "RegisterMill$Machine" "nested" "I", .methodLink RX8 25 yX4_begin, .sameMethod "RegisterMill$Machine" "RegisterMill$Machine" "begin" "()V", .superclass RX8 RX4, .instanceMethod yX4_begin, .initialized RX4, .fieldLink RX8 28 "RegisterMill$StackMachine" "top" "I", .methodLink RX11 168 ⟨"RegisterMill$Machine", "begin", "()V"⟩, .selects RX8 ⟨"RegisterMill$Machine", "begin", "()V"⟩ yX8_begin, .instanceMethod yX8_begin, .initialized RX8, .fieldLink RX11 48 "RegisterMill" "registerMachine" "LRegisterMill$Machine;", .code yX7_begin cX7_begin 1 none, .methodLink RX7 25 yX4_begin, .superclass RX7 RX4, .fieldLink RX7 28 "RegisterMill$RegisterMachine" "answered" "I", .fieldLink RX7 18 "RegisterMill$RegisterMachine" "passed" "[I", .code yJ7_fill_53178 cJ7_fill_53178 4 none, .methodLink RX7 32 yJ7_fill_53178, .static yJ7_fill_53178, .initialized RJ7, .selects RX7 ⟨"RegisterMill$Machine", "begin", "()V"⟩ yX7_begin, .instanceMethod yX7_begin, .initialized RX7, .methodLink RX11 93 yX11_beginMachines, .instanceMethod yX11_beginMachines, .selects RX11 yX11_beginMachines yX11_beginMachines, .initialized RX11, .fieldLink RX11 96 "RegisterMill$Machine" "memory" "[I", .methodLink RX11 101 yJ7_fill_53178] ++ wsX110 ++ wsX60 ++ wsX90 ++ wsX80 ++ wsX70)
set_option maxRecDepth 20000 in
theorem gq_X11_clear_X6_empty_87 : GoodIn wq_X11_clear (wsV RX11 87 RX6 yX6_empty wq_X6_empty) := goodIn_r _ [6, 7, 8, 9, 2, 3, 4, 5, 55, 56, 57, 58, 59, 60, 61, 62, 63, 64] (by decide +kernel) (by decide +kernel)
set_option maxRecDepth 20000 in
theorem gq_X11_clear_X11_beginMachines_93 : GoodIn wq_X11_clear (wsV RX11 93 RX11 yX11_beginMachines wq_X11_beginMachines) := goodIn_r _ [44, 45, 46, 47, 12, 13, 14, 15, 16, 17, 18, 19, 20, 21, 22, 23, 24, 25, 26, 27, 28, 29, 30, 31, 32, 33, 34, 35, 36, 37, 38, 39, 40, 41, 42, 43, 50, 51, 52, 53, 54, 73, 74, 75, 76, 77, 78, 79, 80, 81, 82, 83, 84, 85, 86, 87, 88, 89, 90, 91, 92, 93, 94, 95, 96, 97, 98] (by decide +kernel) (by decide +kernel)
set_option maxRecDepth 20000 in
theorem gq_X11_clear_J7_fill_53178_64_101 : GoodIn wq_X11_clear (va_wsS RX11 101 yJ7_fill_53178 wq_J7_fill_53178_64) := goodIn_r _ [49, 39, 40, 37] (by decide +kernel) (by decide +kernel)
set_option maxHeartbeats 4000000 in
set_option maxRecDepth 100000 in
/-- clear on a fresh object -/
theorem c_X11_clear (l : Launch) (dC : Nat → ClassId) (dI : Nat → Nat → Nat) (cyI : ClassId) (sz : Nat) (h0 : Nat) (pr : Nat) (ck : Nat) (tu : Nat) (sm : Nat) (rm : Nat) (p_args : Nat) (p_locals : Nat) (p_starts : Nat) (p_lengths : Nat) (p_ops : Nat) (p_numbers : Nat) (p_depths : Nat) (t_places : Nat) (t_live : Nat) (t_homes : Nat) (t_code : Nat) (t_writer : Nat) (t_placeCounts : Nat) (s_memory : Nat) (s_funcs : Nat) (s_nexts : Nat) (s_locals : Nat) (s_stack : Nat) (s_bottoms : Nat) (r_memory : Nat) (r_funcs : Nat) (r_nexts : Nat) (r_registers : Nat) (r_slotCells : Nat) (r_passed : Nat) : Met l yX11_clear wq_X11_clear ({ frames := 3, cells := 0, slots := 0, locals := 63 }) (va_Pc [.ref h0] (pz_pre dC dI [(cyI, .int)] [(h0, .inr (10, [.ref pr, .ref ck, .ref tu, .ref sm, .ref rm])), (pr, .inr (5, [.ref p_args, .ref p_locals, .ref p_starts, .ref p_lengths, .ref p_ops, .ref p_numbers, .ref p_depths, .int 0, .int 0, .int 0])), (tu, .inr (8, [.ref pr, .ref t_places, .ref t_live, .ref t_homes, .ref t_code, .ref t_writer, .ref t_placeCounts, .int 0])), (sm, .inr (7, [.ref s_memory, .ref s_funcs, .ref s_nexts, .int 0, .int 0, .int 0, .int 0, .int 0, .ref pr, .ref s_locals, .ref s_stack, .ref s_bottoms, .int 0])), (s_memory, .inl (cyI, 64, .inl (fun _ => 0))), (rm, .inr (6, [.ref r_memory, .ref r_funcs, .ref r_nexts, .int 0, .int 0, .int 0, .int 0, .int 0, .ref t_code, .ref r_registers, .ref r_slotCells, .ref r_passed, .int 0])), (r_memory, .inl (cyI, 64, .inl (fun _ => 0))), (r_passed, .inl (cyI, 6, .inl (fun _ => 0)))] sz)) (va_Qv (S := Unit) (fun _ => True) (fun _ _ => True) (va_A [(h0, .inr (10, [.ref pr, .ref ck, .ref tu, .ref sm, .ref rm])), (pr, .inr (5, [.ref p_args, .ref p_locals, .ref p_starts, .ref p_lengths, .ref p_ops, .ref p_numbers, .ref p_depths, .int 0, .int 0, .int 0])), (tu, .inr (8, [.ref pr, .ref t_places, .ref t_live, .ref t_homes, .ref t_code, .ref t_writer, .ref t_placeCounts, .int 0])), (sm, .inr (7, [.ref s_memory, .ref s_funcs, .ref s_nexts, .int 0, .int 0, .int 0, .int 0, .int 0, .ref pr, .ref s_locals, .ref s_stack, .ref s_bottoms, .int 0])), (s_memory, .inl (cyI, 64, .inl (fun _ => 0))), (rm, .inr (6, [.ref r_memory, .ref r_funcs, .ref r_nexts, .int 0, .int 0, .int 0, .int 0, .int 0, .ref t_code, .ref r_registers, .ref r_slotCells, .ref r_passed, .int 0])), (r_memory, .inl (cyI, 64, .inl (fun _ => 0))), (r_passed, .inl (cyI, 6, .inl (fun _ => 0)))] sz)) 0 0 (va_A [(h0, .inr (10, [.ref pr, .ref ck, .ref tu, .ref sm, .ref rm])), (pr, .inr (5, [.ref p_args, .ref p_locals, .ref p_starts, .ref p_lengths, .ref p_ops, .ref p_numbers, .ref p_depths, .int 0, .int 0, .int 0])), (tu, .inr (8, [.ref pr, .ref t_places, .ref t_live, .ref t_homes, .ref t_code, .ref t_writer, .ref t_placeCounts, .int 0])), (sm, .inr (7, [.ref s_memory, .ref s_funcs, .ref s_nexts, .int 0, .int 0, .int 0, .int 0, .int 0, .ref pr, .ref s_locals, .ref s_stack, .ref s_bottoms, .int 0])), (s_memory, .inl (cyI, 64, .inl (fun _ => 0))), (rm, .inr (6, [.ref r_memory, .ref r_funcs, .ref r_nexts, .int 0, .int 0, .int 0, .int 0, .int 0, .ref t_code, .ref r_registers, .ref r_slotCells, .ref r_passed, .int 0])), (r_memory, .inl (cyI, 64, .inl (fun _ => 0))), (r_passed, .inl (cyI, 6, .inl (fun _ => 0)))] sz) := by
  refine Met.ofW (cc := cX11_clear) (maxL := 1) (ret := none) (by decide) rfl ?_
  intro p e s m args below meth c s₁ B hml hv
  obtain ⟨rfl, hsz, hP, hK, hD0, hNW⟩ := hv
  have hx := B.exec
  have hb := B.bytes
  have hr := B.returns
  have hts := atoms_spec (ws := wq_X11_clear) B.pre
  have hown : s.vm.findClass RX11 = some m.cls := findClass_of_methodNamed B.named
  have hlocks := B.notSynchronized
  have hiX11 : ∀ w ∈ wsX110, w ∈ wq_X11_clear := by decide +kernel
  have hiX6 : ∀ w ∈ wsX60, w ∈ wq_X11_clear := by decide +kernel
  have hiX9 : ∀ w ∈ wsX90, w ∈ wq_X11_clear := by decide +kernel
  have hiX8 : ∀ w ∈ wsX80, w ∈ wq_X11_clear := by decide +kernel
  have hiX7 : ∀ w ∈ wsX70, w ∈ wq_X11_clear := by decide +kernel
  subst hsz
  have hD := hD0.self (sz := s.heap.size)
  generalize hAe : va_A [(h0, .inr (10, [.ref pr, .ref ck, .ref tu, .ref sm, .ref rm])), (pr, .inr (5, [.ref p_args, .ref p_locals, .ref p_starts, .ref p_lengths, .ref p_ops, .ref p_numbers, .ref p_depths, .int 0, .int 0, .int 0])), (tu, .inr (8, [.ref pr, .ref t_places, .ref t_live, .ref t_homes, .ref t_code, .ref t_writer, .ref t_placeCounts, .int 0])), (sm, .inr (7, [.ref s_memory, .ref s_funcs, .ref s_nexts, .int 0, .int 0, .int 0, .int 0, .int 0, .ref pr, .ref s_locals, .ref s_stack, .ref s_bottoms, .int 0])), (s_memory, .inl (cyI, 64, .inl (fun _ => 0))), (rm, .inr (6, [.ref r_memory, .ref r_funcs, .ref r_nexts, .int 0, .int 0, .int 0, .int 0, .int 0, .ref t_code, .ref r_registers, .ref r_slotCells, .ref r_passed, .int 0])), (r_memory, .inl (cyI, 64, .inl (fun _ => 0))), (r_passed, .inl (cyI, 6, .inl (fun _ => 0)))] s.heap.size = A at hD ⊢
  have hA : ∀ q : Nat, s.heap.size ≤ q → A q := fun q h => by rw [← hAe]; exact Or.inr h
  have hS : va_S A s.heap s.heap [] := va_S.rf
  have hl := lv_entry ([.ref h0]) (n := 1) (Nat.le_of_ble_eq_true rfl)
  rw [lg_entry_eq]
  generalize (lg_sl ([.ref h0]) ++ List.replicate (1 - (lg_sl ([.ref h0])).length) Slot.unset).toArray = ls at hl ⊢
  have hl : lv_has ls 1 [(0, .ref h0)] := hl
  refine lv_aload_n hx hb dX11_clear_0 rfl (lv_at hl 0 rfl) ?_
  refine va_get (D := (dC, dI)) (ci := 10) (v := .ref pr) (C := RX11) (T := TX11) (N := 5) hx hb hts hiX11 hown hK hP 0 rfl rfl 0 (by decide) (hts (.fieldLink RX11 12 "RegisterMill" "program" "LRegisterMill$Program;") (by decide +kernel)) (fun _ h9 => h9) rfl dX11_clear_1 ?_
  have hPc := hP.sub (ws' := [(pr, .inr (5, [.ref p_args, .ref p_locals, .ref p_starts, .ref p_lengths, .ref p_ops, .ref p_numbers, .ref p_depths, .int 0, .int 0, .int 0]))]) [1] rfl
  have hDc := hD.sub (ws' := [(pr, .inr (5, [.ref p_args, .ref p_locals, .ref p_starts, .ref p_lengths, .ref p_ops, .ref p_numbers, .ref p_depths, .int 0, .int 0, .int 0]))]) [1] (by decide) rfl
  have hKc := hK.sub (tys' := [(cyI, .int)]) [0] rfl
  have hFc := va_free (wc := [(pr, .inr (5, [.ref p_args, .ref p_locals, .ref p_starts, .ref p_lengths, .ref p_ops, .ref p_numbers, .ref p_depths, .int 0, .int 0, .int 0]))]) hD hS hA [1] rfl
  refine va_callv (va_runV (As := []) (rest := []) ⟨hx, hb, hml, hown, hts⟩ (c_X6_empty l dC dI cyI s.heap.size pr p_args p_locals p_starts p_lengths p_ops p_numbers p_depths) (cwV 0 hts gq_X11_clear_X6_empty_87 rfl rfl rfl (by decide +kernel) ⟨Nat.le_of_ble_eq_true rfl, Nat.le_of_ble_eq_true rfl⟩) ⟨pz_blind, va_recv hKc hPc (ci := 5) (q0 := 0) rfl rfl, pz_to hPc hKc hDc hNW⟩ rfl rfl hl.1 rfl (lv_room (Nat.le_of_ble_eq_true rfl)) dX11_clear_4 (by decide)) hS (fun q _ h => hFc q h) hFc (fun u t H1 locs ht hvm hw hB hz1 hk1 hS => ?_)
  obtain ⟨hP1, hK1, hD1⟩ := hB
  rw [ht] at hP1
  obtain ⟨hP, hD⟩ := va_join (wr := [(h0, .inr (10, [.ref pr, .ref ck, .ref tu, .ref sm, .ref rm])), (tu, .inr (8, [.ref pr, .ref t_places, .ref t_live, .ref t_homes, .ref t_code, .ref t_writer, .ref t_placeCounts, .int 0])), (sm, .inr (7, [.ref s_memory, .ref s_funcs, .ref s_nexts, .int 0, .int 0, .int 0, .int 0, .int 0, .ref pr, .ref s_locals, .ref s_stack, .ref s_bottoms, .int 0])), (s_memory, .inl (cyI, 64, .inl (fun _ => 0))), (rm, .inr (6, [.ref r_memory, .ref r_funcs, .ref r_nexts, .int 0, .int 0, .int 0, .int 0, .int 0, .ref t_code, .ref r_registers, .ref r_slotCells, .ref r_passed, .int 0])), (r_memory, .inl (cyI, 64, .inl (fun _ => 0))), (r_passed, .inl (cyI, 6, .inl (fun _ => 0)))]) (w1 := [(pr, .inr (5, [.ref p_args, .ref p_locals, .ref p_starts, .ref p_lengths, .ref p_ops, .ref p_numbers, .ref p_depths, .int 0, .int 0, .int 0]))]) hP hD [1] [0, 2, 3, 4, 5, 6, 7] rfl rfl (by decide) (by decide) hk1 hFc hP1 hD1
  generalize H1 = H at hP hS ⊢
  have hP : va_P (dC, dI) vwCl [(h0, .inr (10, [.ref pr, .ref ck, .ref tu, .ref sm, .ref rm])), (tu, .inr (8, [.ref pr, .ref t_places, .ref t_live, .ref t_homes, .ref t_code, .ref t_writer, .ref t_placeCounts, .int 0])), (sm, .inr (7, [.ref s_memory, .ref s_funcs, .ref s_nexts, .int 0, .int 0, .int 0, .int 0, .int 0, .ref pr, .ref s_locals, .ref s_stack, .ref s_bottoms, .int 0])), (s_memory, .inl (cyI, 64, .inl (fun _ => 0))), (rm, .inr (6, [.ref r_memory, .ref r_funcs, .ref r_nexts, .int 0, .int 0, .int 0, .int 0, .int 0, .ref t_code, .ref r_registers, .ref r_slotCells, .ref r_passed, .int 0])), (r_memory, .inl (cyI, 64, .inl (fun _ => 0))), (r_passed, .inl (cyI, 6, .inl (fun _ => 0))), (pr, .inr (5, [.ref p_args, .ref p_locals, .ref p_starts, .ref p_lengths, .ref p_ops, .ref p_numbers, .ref p_depths, .int 0, .int 0, .int 0]))] H := hP
  have hD : va_D A [(h0, .inr (10, [.ref pr, .ref ck, .ref tu, .ref sm, .ref rm])), (tu, .inr (8, [.ref pr, .ref t_places, .ref t_live, .ref t_homes, .ref t_code, .ref t_writer, .ref t_placeCounts, .int 0])), (sm, .inr (7, [.ref s_memory, .ref s_funcs, .ref s_nexts, .int 0, .int 0, .int 0, .int 0, .int 0, .ref pr, .ref s_locals, .ref s_stack, .ref s_bottoms, .int 0])), (s_memory, .inl (cyI, 64, .inl (fun _ => 0))), (rm, .inr (6, [.ref r_memory, .ref r_funcs, .ref r_nexts, .int 0, .int 0, .int 0, .int 0, .int 0, .ref t_code, .ref r_registers, .ref r_slotCells, .ref r_passed, .int 0])), (r_memory, .inl (cyI, 64, .inl (fun _ => 0))), (r_passed, .inl (cyI, 6, .inl (fun _ => 0))), (pr, .inr (5, [.ref p_args, .ref p_locals, .ref p_starts, .ref p_lengths, .ref p_ops, .ref p_numbers, .ref p_depths, .int 0, .int 0, .int 0]))] := hD
  refine lv_aload_n hx hb dX11_clear_7 rfl (lv_at hl 0 rfl) ?_
  refine va_get (D := (dC, dI)) (ci := 10) (v := .ref tu) (C := RX11) (T := TX11) (N := 5) hx hb hts hiX11 hown hK hP 0 rfl rfl 2 (by decide) (hts (.fieldLink RX11 28 "RegisterMill" "turner" "LRegisterMill$Turner;") (by decide +kernel)) (fun _ h9 => h9) rfl dX11_clear_8 ?_
  refine lv_iconst (v := 0) hx hb dX11_clear_11 (by decide) ?_
  refine va_put (D := (dC, dI)) (ci := 8) (v := .int 0) (ty := .int) (C := RX9) (T := TX9) (N := 8) hx hb hts hiX9 tyX9 tyX9_ok nmX9 hown hK hP hD hS 1 rfl rfl 7 (by decide) (hts (.fieldLink RX11 90 "RegisterMill$Turner" "registers" "I") (by decide +kernel)) (fun _ h9 => h9) rfl (by decide +kernel) rfl rfl (Nat.le_of_ble_eq_true rfl) dX11_clear_12 (fun H locs hP hD hS => ?_)
  have hP : va_P (dC, dI) vwCl [(h0, .inr (10, [.ref pr, .ref ck, .ref tu, .ref sm, .ref rm])), (tu, .inr (8, [.ref pr, .ref t_places, .ref t_live, .ref t_homes, .ref t_code, .ref t_writer, .ref t_placeCounts, .int 0])), (sm, .inr (7, [.ref s_memory, .ref s_funcs, .ref s_nexts, .int 0, .int 0, .int 0, .int 0, .int 0, .ref pr, .ref s_locals, .ref s_stack, .ref s_bottoms, .int 0])), (s_memory, .inl (cyI, 64, .inl (fun _ => 0))), (rm, .inr (6, [.ref r_memory, .ref r_funcs, .ref r_nexts, .int 0, .int 0, .int 0, .int 0, .int 0, .ref t_code, .ref r_registers, .ref r_slotCells, .ref r_passed, .int 0])), (r_memory, .inl (cyI, 64, .inl (fun _ => 0))), (r_passed, .inl (cyI, 6, .inl (fun _ => 0))), (pr, .inr (5, [.ref p_args, .ref p_locals, .ref p_starts, .ref p_lengths, .ref p_ops, .ref p_numbers, .ref p_depths, .int 0, .int 0, .int 0]))] H := hP
  have hD : va_D A [(h0, .inr (10, [.ref pr, .ref ck, .ref tu, .ref sm, .ref rm])), (tu, .inr (8, [.ref pr, .ref t_places, .ref t_live, .ref t_homes, .ref t_code, .ref t_writer, .ref t_placeCounts, .int 0])), (sm, .inr (7, [.ref s_memory, .ref s_funcs, .ref s_nexts, .int 0, .int 0, .int 0, .int 0, .int 0, .ref pr, .ref s_locals, .ref s_stack, .ref s_bottoms, .int 0])), (s_memory, .inl (cyI, 64, .inl (fun _ => 0))), (rm, .inr (6, [.ref r_memory, .ref r_funcs, .ref r_nexts, .int 0, .int 0, .int 0, .int 0, .int 0, .ref t_code, .ref r_registers, .ref r_slotCells, .ref r_passed, .int 0])), (r_memory, .inl (cyI, 64, .inl (fun _ => 0))), (r_passed, .inl (cyI, 6, .inl (fun _ => 0))), (pr, .inr (5, [.ref p_args, .ref p_locals, .ref p_starts, .ref p_lengths, .ref p_ops, .ref p_numbers, .ref p_depths, .int 0, .int 0, .int 0]))] := hD
  refine lv_aload_n hx hb dX11_clear_15 rfl (lv_at hl 0 rfl) ?_
  have hPc := hP.sub (ws' := [(h0, .inr (10, [.ref pr, .ref ck, .ref tu, .ref sm, .ref rm])), (sm, .inr (7, [.ref s_memory, .ref s_funcs, .ref s_nexts, .int 0, .int 0, .int 0, .int 0, .int 0, .ref pr, .ref s_locals, .ref s_stack, .ref s_bottoms, .int 0])), (rm, .inr (6, [.ref r_memory, .ref r_funcs, .ref r_nexts, .int 0, .int 0, .int 0, .int 0, .int 0, .ref t_code, .ref r_registers, .ref r_slotCells, .ref r_passed, .int 0])), (r_passed, .inl (cyI, 6, .inl (fun _ => 0)))]) [0, 2, 4, 6] rfl
  have hDc := hD.sub (ws' := [(h0, .inr (10, [.ref pr, .ref ck, .ref tu, .ref sm, .ref rm])), (sm, .inr (7, [.ref s_memory, .ref s_funcs, .ref s_nexts, .int 0, .int 0, .int 0, .int 0, .int 0, .ref pr, .ref s_locals, .ref s_stack, .ref s_bottoms, .int 0])), (rm, .inr (6, [.ref r_memory, .ref r_funcs, .ref r_nexts, .int 0, .int 0, .int 0, .int 0, .int 0, .ref t_code, .ref r_registers, .ref r_slotCells, .ref r_passed, .int 0])), (r_passed, .inl (cyI, 6, .inl (fun _ => 0)))]) [0, 2, 4, 6] (by decide) rfl
  have hKc := hK.sub (tys' := [(cyI, .int)]) [0] rfl
  have hFc := va_free (wc := [(h0, .inr (10, [.ref pr, .ref ck, .ref tu, .ref sm, .ref rm])), (sm, .inr (7, [.ref s_memory, .ref s_funcs, .ref s_nexts, .int 0, .int 0, .int 0, .int 0, .int 0, .ref pr, .ref s_locals, .ref s_stack, .ref s_bottoms, .int 0])), (rm, .inr (6, [.ref r_memory, .ref r_funcs, .ref r_nexts, .int 0, .int 0, .int 0, .int 0, .int 0, .ref t_code, .ref r_registers, .ref r_slotCells, .ref r_passed, .int 0])), (r_passed, .inl (cyI, 6, .inl (fun _ => 0)))]) hD hS hA [0, 2, 4, 6] rfl
  refine va_callv (va_runV (As := []) (rest := []) ⟨hx, hb, hml, hown, hts⟩ (c_X11_beginMachines l dC dI cyI H.size h0 pr ck tu sm rm s_memory s_funcs s_nexts s_locals s_stack s_bottoms r_memory r_funcs r_nexts t_code r_registers r_slotCells r_passed) (cwV 0 hts gq_X11_clear_X11_beginMachines_93 rfl rfl rfl (by decide +kernel) ⟨Nat.le_of_ble_eq_true rfl, Nat.le_of_ble_eq_true rfl⟩) ⟨pz_blind, va_recv hKc hPc (ci := 10) (q0 := 0) rfl rfl, pz_to hPc hKc hDc hNW⟩ rfl rfl hl.1 rfl (lv_room (Nat.le_of_ble_eq_true rfl)) dX11_clear_16 (by decide)) hS (fun q _ h => hFc q h) hFc (fun u t H1 locs ht hvm hw hB hz1 hk1 hS => ?_)
  obtain ⟨hP1, hK1, hD1⟩ := hB
  rw [ht] at hP1
  obtain ⟨hP, hD⟩ := va_join (wr := [(tu, .inr (8, [.ref pr, .ref t_places, .ref t_live, .ref t_homes, .ref t_code, .ref t_writer, .ref t_placeCounts, .int 0])), (s_memory, .inl (cyI, 64, .inl (fun _ => 0))), (r_memory, .inl (cyI, 64, .inl (fun _ => 0))), (pr, .inr (5, [.ref p_args, .ref p_locals, .ref p_starts, .ref p_lengths, .ref p_ops, .ref p_numbers, .ref p_depths, .int 0, .int 0, .int 0]))]) (w1 := [(h0, .inr (10, [.ref pr, .ref ck, .ref tu, .ref sm, .ref rm])), (sm, .inr (7, [.ref s_memory, .ref s_funcs, .ref s_nexts, .int 0, .int 0, .int 0, .int 0, .int 0, .ref pr, .ref s_locals, .ref s_stack, .ref s_bottoms, .int 0])), (rm, .inr (6, [.ref r_memory, .ref r_funcs, .ref r_nexts, .int 0, .int 0, .int 0, .int 0, .int 0, .ref t_code, .ref r_registers, .ref r_slotCells, .ref r_passed, .int 0])), (r_passed, .inl (cyI, 6, .inl (fun _ => 0)))]) hP hD [0, 2, 4, 6] [1, 3, 5, 7] rfl rfl (by decide) (by decide) hk1 hFc hP1 hD1
  generalize H1 = H at hP hS ⊢
  have hP : va_P (dC, dI) vwCl [(tu, .inr (8, [.ref pr, .ref t_places, .ref t_live, .ref t_homes, .ref t_code, .ref t_writer, .ref t_placeCounts, .int 0])), (s_memory, .inl (cyI, 64, .inl (fun _ => 0))), (r_memory, .inl (cyI, 64, .inl (fun _ => 0))), (pr, .inr (5, [.ref p_args, .ref p_locals, .ref p_starts, .ref p_lengths, .ref p_ops, .ref p_numbers, .ref p_depths, .int 0, .int 0, .int 0])), (h0, .inr (10, [.ref pr, .ref ck, .ref tu, .ref sm, .ref rm])), (sm, .inr (7, [.ref s_memory, .ref s_funcs, .ref s_nexts, .int 0, .int 0, .int 0, .int 0, .int 0, .ref pr, .ref s_locals, .ref s_stack, .ref s_bottoms, .int 0])), (rm, .inr (6, [.ref r_memory, .ref r_funcs, .ref r_nexts, .int 0, .int 0, .int 0, .int 0, .int 0, .ref t_code, .ref r_registers, .ref r_slotCells, .ref r_passed, .int 0])), (r_passed, .inl (cyI, 6, .inl (fun _ => 0)))] H := hP
  have hD : va_D A [(tu, .inr (8, [.ref pr, .ref t_places, .ref t_live, .ref t_homes, .ref t_code, .ref t_writer, .ref t_placeCounts, .int 0])), (s_memory, .inl (cyI, 64, .inl (fun _ => 0))), (r_memory, .inl (cyI, 64, .inl (fun _ => 0))), (pr, .inr (5, [.ref p_args, .ref p_locals, .ref p_starts, .ref p_lengths, .ref p_ops, .ref p_numbers, .ref p_depths, .int 0, .int 0, .int 0])), (h0, .inr (10, [.ref pr, .ref ck, .ref tu, .ref sm, .ref rm])), (sm, .inr (7, [.ref s_memory, .ref s_funcs, .ref s_nexts, .int 0, .int 0, .int 0, .int 0, .int 0, .ref pr, .ref s_locals, .ref s_stack, .ref s_bottoms, .int 0])), (rm, .inr (6, [.ref r_memory, .ref r_funcs, .ref r_nexts, .int 0, .int 0, .int 0, .int 0, .int 0, .ref t_code, .ref r_registers, .ref r_slotCells, .ref r_passed, .int 0])), (r_passed, .inl (cyI, 6, .inl (fun _ => 0)))] := hD
  refine lv_aload_n hx hb dX11_clear_19 rfl (lv_at hl 0 rfl) ?_
  refine va_get (D := (dC, dI)) (ci := 10) (v := .ref sm) (C := RX11) (T := TX11) (N := 5) hx hb hts hiX11 hown hK hP 4 rfl rfl 3 (by decide) (hts (.fieldLink RX11 35 "RegisterMill" "stackMachine" "LRegisterMill$Machine;") (by decide +kernel)) (fun _ h9 => h9) rfl dX11_clear_20 ?_
  refine va_get (D := (dC, dI)) (ci := 7) (v := .ref s_memory) (C := RX8) (T := TX8) (N := 13) hx hb hts hiX8 hown hK hP 5 rfl rfl 0 (by decide) (hts (.fieldLink RX11 96 "RegisterMill$Machine" "memory" "[I") (by decide +kernel)) (fun _ h9 => h9) rfl dX11_clear_23 ?_
  refine lv_iconst (v := 0) hx hb dX11_clear_26 (by decide) ?_
  have hPc := hP.sub (ws' := [(s_memory, .inl (cyI, 64, .inl (fun _ => 0)))]) [1] rfl
  have hDc := hD.sub (ws' := [(s_memory, .inl (cyI, 64, .inl (fun _ => 0)))]) [1] (by decide) rfl
  have hKc := hK.sub (tys' := [(cyI, .int)]) [0] rfl
  have hFc := va_free (wc := [(s_memory, .inl (cyI, 64, .inl (fun _ => 0)))]) hD hS hA [1] rfl
  refine va_callv (va_runS (As := [.ref s_memory, .int 0]) (rest := []) ⟨hx, hb, hml, hown, hts⟩ (c_J7_fill_53178_64 l dC dI cyI H.size s_memory) (va_cwS 2 hts gq_X11_clear_J7_fill_53178_64_101 rfl rfl rfl (by decide +kernel) ⟨Nat.le_of_ble_eq_true rfl, Nat.le_of_ble_eq_true rfl⟩) ⟨pz_blind, pz_to hPc hKc hDc hNW⟩ rfl rfl hl.1 rfl (lv_room (Nat.le_of_ble_eq_true rfl)) dX11_clear_27 (by decide)) hS (fun q _ h => hFc q h) hFc (fun u t H1 locs ht hvm hw hB hz1 hk1 hS => ?_)
  obtain ⟨hP1, hK1, hD1⟩ := hB
  rw [ht] at hP1
  obtain ⟨hP, hD⟩ := va_join (wr := [(tu, .inr (8, [.ref pr, .ref t_places, .ref t_live, .ref t_homes, .ref t_code, .ref t_writer, .ref t_placeCounts, .int 0])), (r_memory, .inl (cyI, 64, .inl (fun _ => 0))), (pr, .inr (5, [.ref p_args, .ref p_locals, .ref p_starts, .ref p_lengths, .ref p_ops, .ref p_numbers, .ref p_depths, .int 0, .int 0, .int 0])), (h0, .inr (10, [.ref pr, .ref ck, .ref tu, .ref sm, .ref rm])), (sm, .inr (7, [.ref s_memory, .ref s_funcs, .ref s_nexts, .int 0, .int 0, .int 0, .int 0, .int 0, .ref pr, .ref s_locals, .ref s_stack, .ref s_bottoms, .int 0])), (rm, .inr (6, [.ref r_memory, .ref r_funcs, .ref r_nexts, .int 0, .int 0, .int 0, .int 0, .int 0, .ref t_code, .ref r_registers, .ref r_slotCells, .ref r_passed, .int 0])), (r_passed, .inl (cyI, 6, .inl (fun _ => 0)))]) (w1 := [(s_memory, .inl (cyI, 64, .inl (fun _ => 0)))]) hP hD [1] [0, 2, 3, 4, 5, 6, 7] rfl rfl (by decide) (by decide) hk1 hFc hP1 hD1
  generalize H1 = H at hP hS ⊢
  have hP : va_P (dC, dI) vwCl [(tu, .inr (8, [.ref pr, .ref t_places, .ref t_live, .ref t_homes, .ref t_code, .ref t_writer, .ref t_placeCounts, .int 0])), (r_memory, .inl (cyI, 64, .inl (fun _ => 0))), (pr, .inr (5, [.ref p_args, .ref p_locals, .ref p_starts, .ref p_lengths, .ref p_ops, .ref p_numbers, .ref p_depths, .int 0, .int 0, .int 0])), (h0, .inr (10, [.ref pr, .ref ck, .ref tu, .ref sm, .ref rm])), (sm, .inr (7, [.ref s_memory, .ref s_funcs, .ref s_nexts, .int 0, .int 0, .int 0, .int 0, .int 0, .ref pr, .ref s_locals, .ref s_stack, .ref s_bottoms, .int 0])), (rm, .inr (6, [.ref r_memory, .ref r_funcs, .ref r_nexts, .int 0, .int 0, .int 0, .int 0, .int 0, .ref t_code, .ref r_registers, .ref r_slotCells, .ref r_passed, .int 0])), (r_passed, .inl (cyI, 6, .inl (fun _ => 0))), (s_memory, .inl (cyI, 64, .inl (fun _ => 0)))] H := hP
  have hD : va_D A [(tu, .inr (8, [.ref pr, .ref t_places, .ref t_live, .ref t_homes, .ref t_code, .ref t_writer, .ref t_placeCounts, .int 0])), (r_memory, .inl (cyI, 64, .inl (fun _ => 0))), (pr, .inr (5, [.ref p_args, .ref p_locals, .ref p_starts, .ref p_lengths, .ref p_ops, .ref p_numbers, .ref p_depths, .int 0, .int 0, .int 0])), (h0, .inr (10, [.ref pr, .ref ck, .ref tu, .ref sm, .ref rm])), (sm, .inr (7, [.ref s_memory, .ref s_funcs, .ref s_nexts, .int 0, .int 0, .int 0, .int 0, .int 0, .ref pr, .ref s_locals, .ref s_stack, .ref s_bottoms, .int 0])), (rm, .inr (6, [.ref r_memory, .ref r_funcs, .ref r_nexts, .int 0, .int 0, .int 0, .int 0, .int 0, .ref t_code, .ref r_registers, .ref r_slotCells, .ref r_passed, .int 0])), (r_passed, .inl (cyI, 6, .inl (fun _ => 0))), (s_memory, .inl (cyI, 64, .inl (fun _ => 0)))] := hD
  refine lv_aload_n hx hb dX11_clear_30 rfl (lv_at hl 0 rfl) ?_
  refine va_get (D := (dC, dI)) (ci := 10) (v := .ref rm) (C := RX11) (T := TX11) (N := 5) hx hb hts hiX11 hown hK hP 3 rfl rfl 4 (by decide) (hts (.fieldLink RX11 48 "RegisterMill" "registerMachine" "LRegisterMill$Machine;") (by decide +kernel)) (fun _ h9 => h9) rfl dX11_clear_31 ?_
  refine va_get (D := (dC, dI)) (ci := 6) (v := .ref r_memory) (C := RX7) (T := TX7) (N := 13) hx hb hts hiX7 hown hK hP 5 rfl rfl 0 (by decide) (hts (.fieldLink RX11 96 "RegisterMill$Machine" "memory" "[I") (by decide +kernel)) (fun _ h9 => h9) rfl dX11_clear_34 ?_
  refine lv_iconst (v := 0) hx hb dX11_clear_37 (by decide) ?_
  have hPc := hP.sub (ws' := [(r_memory, .inl (cyI, 64, .inl (fun _ => 0)))]) [1] rfl
  have hDc := hD.sub (ws' := [(r_memory, .inl (cyI, 64, .inl (fun _ => 0)))]) [1] (by decide) rfl
  have hKc := hK.sub (tys' := [(cyI, .int)]) [0] rfl
  have hFc := va_free (wc := [(r_memory, .inl (cyI, 64, .inl (fun _ => 0)))]) hD hS hA [1] rfl
  refine va_callv (va_runS (As := [.ref r_memory, .int 0]) (rest := []) ⟨hx, hb, hml, hown, hts⟩ (c_J7_fill_53178_64 l dC dI cyI H.size r_memory) (va_cwS 2 hts gq_X11_clear_J7_fill_53178_64_101 rfl rfl rfl (by decide +kernel) ⟨Nat.le_of_ble_eq_true rfl, Nat.le_of_ble_eq_true rfl⟩) ⟨pz_blind, pz_to hPc hKc hDc hNW⟩ rfl rfl hl.1 rfl (lv_room (Nat.le_of_ble_eq_true rfl)) dX11_clear_38 (by decide)) hS (fun q _ h => hFc q h) hFc (fun u t H1 locs ht hvm hw hB hz1 hk1 hS => ?_)
  obtain ⟨hP1, hK1, hD1⟩ := hB
  rw [ht] at hP1
  obtain ⟨hP, hD⟩ := va_join (wr := [(tu, .inr (8, [.ref pr, .ref t_places, .ref t_live, .ref t_homes, .ref t_code, .ref t_writer, .ref t_placeCounts, .int 0])), (pr, .inr (5, [.ref p_args, .ref p_locals, .ref p_starts, .ref p_lengths, .ref p_ops, .ref p_numbers, .ref p_depths, .int 0, .int 0, .int 0])), (h0, .inr (10, [.ref pr, .ref ck, .ref tu, .ref sm, .ref rm])), (sm, .inr (7, [.ref s_memory, .ref s_funcs, .ref s_nexts, .int 0, .int 0, .int 0, .int 0, .int 0, .ref pr, .ref s_locals, .ref s_stack, .ref s_bottoms, .int 0])), (rm, .inr (6, [.ref r_memory, .ref r_funcs, .ref r_nexts, .int 0, .int 0, .int 0, .int 0, .int 0, .ref t_code, .ref r_registers, .ref r_slotCells, .ref r_passed, .int 0])), (r_passed, .inl (cyI, 6, .inl (fun _ => 0))), (s_memory, .inl (cyI, 64, .inl (fun _ => 0)))]) (w1 := [(r_memory, .inl (cyI, 64, .inl (fun _ => 0)))]) hP hD [1] [0, 2, 3, 4, 5, 6, 7] rfl rfl (by decide) (by decide) hk1 hFc hP1 hD1
  generalize H1 = H at hP hS ⊢
  have hP : va_P (dC, dI) vwCl [(tu, .inr (8, [.ref pr, .ref t_places, .ref t_live, .ref t_homes, .ref t_code, .ref t_writer, .ref t_placeCounts, .int 0])), (pr, .inr (5, [.ref p_args, .ref p_locals, .ref p_starts, .ref p_lengths, .ref p_ops, .ref p_numbers, .ref p_depths, .int 0, .int 0, .int 0])), (h0, .inr (10, [.ref pr, .ref ck, .ref tu, .ref sm, .ref rm])), (sm, .inr (7, [.ref s_memory, .ref s_funcs, .ref s_nexts, .int 0, .int 0, .int 0, .int 0, .int 0, .ref pr, .ref s_locals, .ref s_stack, .ref s_bottoms, .int 0])), (rm, .inr (6, [.ref r_memory, .ref r_funcs, .ref r_nexts, .int 0, .int 0, .int 0, .int 0, .int 0, .ref t_code, .ref r_registers, .ref r_slotCells, .ref r_passed, .int 0])), (r_passed, .inl (cyI, 6, .inl (fun _ => 0))), (s_memory, .inl (cyI, 64, .inl (fun _ => 0))), (r_memory, .inl (cyI, 64, .inl (fun _ => 0)))] H := hP
  have hD : va_D A [(tu, .inr (8, [.ref pr, .ref t_places, .ref t_live, .ref t_homes, .ref t_code, .ref t_writer, .ref t_placeCounts, .int 0])), (pr, .inr (5, [.ref p_args, .ref p_locals, .ref p_starts, .ref p_lengths, .ref p_ops, .ref p_numbers, .ref p_depths, .int 0, .int 0, .int 0])), (h0, .inr (10, [.ref pr, .ref ck, .ref tu, .ref sm, .ref rm])), (sm, .inr (7, [.ref s_memory, .ref s_funcs, .ref s_nexts, .int 0, .int 0, .int 0, .int 0, .int 0, .ref pr, .ref s_locals, .ref s_stack, .ref s_bottoms, .int 0])), (rm, .inr (6, [.ref r_memory, .ref r_funcs, .ref r_nexts, .int 0, .int 0, .int 0, .int 0, .int 0, .ref t_code, .ref r_registers, .ref r_slotCells, .ref r_passed, .int 0])), (r_passed, .inl (cyI, 6, .inl (fun _ => 0))), (s_memory, .inl (cyI, 64, .inl (fun _ => 0))), (r_memory, .inl (cyI, 64, .inl (fun _ => 0)))] := hD
  exact W.vret hx hb hr (fun t ht hW => ⟨⟨(), rfl, trivial, trivial⟩, hS.F ht⟩) hS.2.2 dX11_clear_41

def wq_X11_turn : List Cond := .code yX11_turn cX11_turn 3 (some .int) :: ([.fieldLink RX11 12 "RegisterMill" "program" "LRegisterMill$Program;", .fieldLink RX11 51 "RegisterMill$Program" "checked" "Z"] ++ wsX110 ++ wsX60)
set_option maxHeartbeats 4000000 in
set_option maxRecDepth 100000 in
/-- turn on a fresh object -/
theorem c_X11_turn (l : Launch) (dC : Nat → ClassId) (dI : Nat → Nat → Nat) (cyI : ClassId) (sz : Nat) (h0 : Nat) (pr : Nat) (ck : Nat) (tu : Nat) (sm : Nat) (rm : Nat) (p_args : Nat) (p_locals : Nat) (p_starts : Nat) (p_lengths : Nat) (p_ops : Nat) (p_numbers : Nat) (p_depths : Nat) (p0 : Int32) : Met l yX11_turn wq_X11_turn ({ frames := 0, cells := 0, slots := 0, locals := 0 }) (va_Pc [.ref h0, .int p0] (pz_pre dC dI [(cyI, .int)] [(h0, .inr (10, [.ref pr, .ref ck, .ref tu, .ref sm, .ref rm])), (pr, .inr (5, [.ref p_args, .ref p_locals, .ref p_starts, .ref p_lengths, .ref p_ops, .ref p_numbers, .ref p_depths, .int 0, .int 0, .int 0]))] sz)) (va_Qi (S := Unit) (fun (r : Int32) _ => r = (-1)) (fun _ _ => True) (va_A [(h0, .inr (10, [.ref pr, .ref ck, .ref tu, .ref sm, .ref rm])), (pr, .inr (5, [.ref p_args, .ref p_locals, .ref p_starts, .ref p_lengths, .ref p_ops, .ref p_numbers, .ref p_depths, .int 0, .int 0, .int 0]))] sz)) 0 0 (va_A [(h0, .inr (10, [.ref pr, .ref ck, .ref tu, .ref sm, .ref rm])), (pr, .inr (5, [.ref p_args, .ref p_locals, .ref p_starts, .ref p_lengths, .ref p_ops, .ref p_numbers, .ref p_depths, .int 0, .int 0, .int 0]))] sz) := by
  refine Met.ofW (cc := cX11_turn) (maxL := 3) (ret := (some .int)) (by decide) rfl ?_
  intro p e s m args below meth c s₁ B hml hv
  obtain ⟨rfl, hsz, hP, hK, hD0, hNW⟩ := hv
  have hx := B.exec
  have hb := B.bytes
  have hr := B.returns
  have hts := atoms_spec (ws := wq_X11_turn) B.pre
  have hown : s.vm.findClass RX11 = some m.cls := findClass_of_methodNamed B.named
  have hlocks := B.notSynchronized
  have hiX11 : ∀ w ∈ wsX110, w ∈ wq_X11_turn := by decide +kernel
  have hiX6 : ∀ w ∈ wsX60, w ∈ wq_X11_turn := by decide +kernel
  subst hsz
  have hD := hD0.self (sz := s.heap.size)
  generalize hAe : va_A [(h0, .inr (10, [.ref pr, .ref ck, .ref tu, .ref sm, .ref rm])), (pr, .inr (5, [.ref p_args, .ref p_locals, .ref p_starts, .ref p_lengths, .ref p_ops, .ref p_numbers, .ref p_depths, .int 0, .int 0, .int 0]))] s.heap.size = A at hD ⊢
  have hA : ∀ q : Nat, s.heap.size ≤ q → A q := fun q h => by rw [← hAe]; exact Or.inr h
  have hS : va_S A s.heap s.heap [] := va_S.rf
  have hl := lv_entry ([.ref h0, .int p0]) (n := 3) (Nat.le_of_ble_eq_true rfl)
  rw [lg_entry_eq]
  generalize (lg_sl ([.ref h0, .int p0]) ++ List.replicate (3 - (lg_sl ([.ref h0, .int p0])).length) Slot.unset).toArray = ls at hl ⊢
  have hl : lv_has ls 3 [(0, .ref h0), (1, .int p0)] := hl
  refine lv_aload_n hx hb dX11_turn_0 rfl (lv_at hl 0 rfl) ?_
  refine va_get (D := (dC, dI)) (ci := 10) (v := .ref pr) (C := RX11) (T := TX11) (N := 5) hx hb hts hiX11 hown hK hP 0 rfl rfl 0 (by decide) (hts (.fieldLink RX11 12 "RegisterMill" "program" "LRegisterMill$Program;") (by decide +kernel)) (fun _ h9 => h9) rfl dX11_turn_1 ?_
  refine va_get (D := (dC, dI)) (ci := 5) (v := .int 0) (C := RX6) (T := TX6) (N := 10) hx hb hts hiX6 hown hK hP 1 rfl rfl 9 (by decide) (hts (.fieldLink RX11 51 "RegisterMill$Program" "checked" "Z") (by decide +kernel)) (fun _ h9 => h9) rfl dX11_turn_4 ?_
  refine lv_if_eq (tgt := 21) hx hb dX11_turn_7 (by decide) (fun _ => ?_) (fun h => absurd h (by decide))
  refine lv_iconst (v := -1) hx hb dX11_turn_21 (by decide) ?_
  have h9 : (-1 : Int32) = (-1) := rfl
  exact W.iret (v := (-1)) hx hb hr (fun t ht hW => ⟨⟨_, (), rfl, h9, trivial⟩, hS.F ht⟩) hS.2.2 dX11_turn_22

def wq_X11_size : List Cond := .code yX11_size cX11_size 2 (some .int) :: ([.code yX11_isTurned cX11_isTurned 2 (some .boolean), .fieldLink RX11 28 "RegisterMill" "turner" "LRegisterMill$Turner;", .fieldLink RX11 90 "RegisterMill$Turner" "registers" "I", .methodLink RX11 119 yX11_isTurned, .instanceMethod yX11_isTurned, .selects RX11 yX11_isTurned yX11_isTurned, .initialized RX11] ++ wsX110 ++ wsX90)
set_option maxRecDepth 20000 in
theorem gq_X11_size_X11_isTurned_119 : GoodIn wq_X11_size (wsV RX11 119 RX11 yX11_isTurned wq_X11_isTurned) := goodIn_r _ [4, 5, 6, 7, 1, 2, 3, 8, 9, 10, 11, 12, 13, 14, 15, 16, 17, 18, 19, 20] (by decide +kernel) (by decide +kernel)
set_option maxHeartbeats 4000000 in
set_option maxRecDepth 100000 in
/-- size on a fresh object -/
theorem c_X11_size (l : Launch) (dC : Nat → ClassId) (dI : Nat → Nat → Nat) (cyI : ClassId) (sz : Nat) (h0 : Nat) (pr : Nat) (ck : Nat) (tu : Nat) (sm : Nat) (rm : Nat) (t_places : Nat) (t_live : Nat) (t_homes : Nat) (t_code : Nat) (t_writer : Nat) (t_placeCounts : Nat) (p0 : Int32) : Met l yX11_size wq_X11_size ({ frames := 1, cells := 0, slots := 0, locals := 21 }) (va_Pc [.ref h0, .int p0] (pz_pre dC dI [(cyI, .int)] [(h0, .inr (10, [.ref pr, .ref ck, .ref tu, .ref sm, .ref rm])), (tu, .inr (8, [.ref pr, .ref t_places, .ref t_live, .ref t_homes, .ref t_code, .ref t_writer, .ref t_placeCounts, .int 0]))] sz)) (va_Qi (S := Unit) (fun (r : Int32) _ => r = (-1)) (fun _ _ => True) (va_A [(h0, .inr (10, [.ref pr, .ref ck, .ref tu, .ref sm, .ref rm])), (tu, .inr (8, [.ref pr, .ref t_places, .ref t_live, .ref t_homes, .ref t_code, .ref t_writer, .ref t_placeCounts, .int 0]))] sz)) 0 0 (va_A [(h0, .inr (10, [.ref pr, .ref ck, .ref tu, .ref sm, .ref rm])), (tu, .inr (8, [.ref pr, .ref t_places, .ref t_live, .ref t_homes, .ref t_code, .ref t_writer, .ref t_placeCounts, .int 0]))] sz) := by
  refine Met.ofW (cc := cX11_size) (maxL := 2) (ret := (some .int)) (by decide) rfl ?_
  intro p e s m args below meth c s₁ B hml hv
  obtain ⟨rfl, hsz, hP, hK, hD0, hNW⟩ := hv
  have hx := B.exec
  have hb := B.bytes
  have hr := B.returns
  have hts := atoms_spec (ws := wq_X11_size) B.pre
  have hown : s.vm.findClass RX11 = some m.cls := findClass_of_methodNamed B.named
  have hlocks := B.notSynchronized
  have hiX11 : ∀ w ∈ wsX110, w ∈ wq_X11_size := by decide +kernel
  have hiX9 : ∀ w ∈ wsX90, w ∈ wq_X11_size := by decide +kernel
  subst hsz
  have hD := hD0.self (sz := s.heap.size)
  generalize hAe : va_A [(h0, .inr (10, [.ref pr, .ref ck, .ref tu, .ref sm, .ref rm])), (tu, .inr (8, [.ref pr, .ref t_places, .ref t_live, .ref t_homes, .ref t_code, .ref t_writer, .ref t_placeCounts, .int 0]))] s.heap.size = A at hD ⊢
  have hA : ∀ q : Nat, s.heap.size ≤ q → A q := fun q h => by rw [← hAe]; exact Or.inr h
  have hS : va_S A s.heap s.heap [] := va_S.rf
  have hl := lv_entry ([.ref h0, .int p0]) (n := 2) (Nat.le_of_ble_eq_true rfl)
  rw [lg_entry_eq]
  generalize (lg_sl ([.ref h0, .int p0]) ++ List.replicate (2 - (lg_sl ([.ref h0, .int p0])).length) Slot.unset).toArray = ls at hl ⊢
  have hl : lv_has ls 2 [(0, .ref h0), (1, .int p0)] := hl
  refine lv_aload_n hx hb dX11_size_0 rfl (lv_at hl 0 rfl) ?_
  refine lv_iload_n hx hb dX11_size_1 rfl (lv_at hl 1 rfl) ?_
  have hPc := hP.sub (ws' := [(h0, .inr (10, [.ref pr, .ref ck, .ref tu, .ref sm, .ref rm])), (tu, .inr (8, [.ref pr, .ref t_places, .ref t_live, .ref t_homes, .ref t_code, .ref t_writer, .ref t_placeCounts, .int 0]))]) [0, 1] rfl
  have hDc := hD.sub (ws' := [(h0, .inr (10, [.ref pr, .ref ck, .ref tu, .ref sm, .ref rm])), (tu, .inr (8, [.ref pr, .ref t_places, .ref t_live, .ref t_homes, .ref t_code, .ref t_writer, .ref t_placeCounts, .int 0]))]) [0, 1] (by decide) rfl
  have hKc := hK.sub (tys' := [(cyI, .int)]) [0] rfl
  have hFc := va_free (wc := [(h0, .inr (10, [.ref pr, .ref ck, .ref tu, .ref sm, .ref rm])), (tu, .inr (8, [.ref pr, .ref t_places, .ref t_live, .ref t_homes, .ref t_code, .ref t_writer, .ref t_placeCounts, .int 0]))]) hD hS hA [0, 1] rfl
  refine va_calli (va_runV (As := [.int p0]) (rest := []) ⟨hx, hb, hml, hown, hts⟩ (c_X11_isTurned l dC dI cyI s.heap.size h0 pr ck tu sm rm t_places t_live t_homes t_code t_writer t_placeCounts p0) (cwV 1 hts gq_X11_size_X11_isTurned_119 rfl rfl rfl (by decide +kernel) ⟨Nat.le_of_ble_eq_true rfl, Nat.le_of_ble_eq_true rfl⟩) ⟨pz_blind, va_recv hKc hPc (ci := 10) (q0 := 0) rfl rfl, pz_to hPc hKc hDc hNW⟩ rfl rfl hl.1 rfl (lv_room (Nat.le_of_ble_eq_true rfl)) dX11_size_2 (by decide)) hS (fun q _ h => hFc q h) hFc (fun r_1 u t H1 locs ht hvm hw hB hz1 hk1 hS => ?_)
  obtain ⟨hP1, hK1, hD1⟩ := hB
  rw [ht] at hP1
  obtain ⟨hP, hD⟩ := va_join (wr := []) (w1 := [(h0, .inr (10, [.ref pr, .ref ck, .ref tu, .ref sm, .ref rm])), (tu, .inr (8, [.ref pr, .ref t_places, .ref t_live, .ref t_homes, .ref t_code, .ref t_writer, .ref t_placeCounts, .int 0]))]) hP hD [0, 1] [] rfl rfl (by decide) (by decide) hk1 hFc hP1 hD1
  generalize H1 = H at hP hS ⊢
  have hP : va_P (dC, dI) vwCl [(h0, .inr (10, [.ref pr, .ref ck, .ref tu, .ref sm, .ref rm])), (tu, .inr (8, [.ref pr, .ref t_places, .ref t_live, .ref t_homes, .ref t_code, .ref t_writer, .ref t_placeCounts, .int 0]))] H := hP
  have hD : va_D A [(h0, .inr (10, [.ref pr, .ref ck, .ref tu, .ref sm, .ref rm])), (tu, .inr (8, [.ref pr, .ref t_places, .ref t_live, .ref t_homes, .ref t_code, .ref t_writer, .ref t_placeCounts, .int 0]))] := hD
  have er_1 : r_1 = 0 := hw
  subst er_1
  refine lv_if_eq (tgt := 23) hx hb dX11_size_5 (by decide) (fun _ => ?_) (fun h => absurd h (by decide))
  refine lv_iconst (v := -1) hx hb dX11_size_23 (by decide) ?_
  have h9 : (-1 : Int32) = (-1) := rfl
  exact W.iret (v := (-1)) hx hb hr (fun t ht hW => ⟨⟨_, (), rfl, h9, trivial⟩, hS.F ht⟩) hS.2.2 dX11_size_24

def wq_X11_slots : List Cond := .code yX11_slots cX11_slots 2 (some .int) :: ([.code yX11_isTurned cX11_isTurned 2 (some .boolean), .fieldLink RX11 28 "RegisterMill" "turner" "LRegisterMill$Turner;", .fieldLink RX11 90 "RegisterMill$Turner" "registers" "I", .methodLink RX11 119 yX11_isTurned, .instanceMethod yX11_isTurned, .selects RX11 yX11_isTurned yX11_isTurned, .initialized RX11] ++ wsX110 ++ wsX90)
set_option maxRecDepth 20000 in
theorem gq_X11_slots_X11_isTurned_119 : GoodIn wq_X11_slots (wsV RX11 119 RX11 yX11_isTurned wq_X11_isTurned) := goodIn_r _ [4, 5, 6, 7, 1, 2, 3, 8, 9, 10, 11, 12, 13, 14, 15, 16, 17, 18, 19, 20] (by decide +kernel) (by decide +kernel)
set_option maxHeartbeats 4000000 in
set_option maxRecDepth 100000 in
/-- slots on a fresh object -/
theorem c_X11_slots (l : Launch) (dC : Nat → ClassId) (dI : Nat → Nat → Nat) (cyI : ClassId) (sz : Nat) (h0 : Nat) (pr : Nat) (ck : Nat) (tu : Nat) (sm : Nat) (rm : Nat) (t_places : Nat) (t_live : Nat) (t_homes : Nat) (t_code : Nat) (t_writer : Nat) (t_placeCounts : Nat) (p0 : Int32) : Met l yX11_slots wq_X11_slots ({ frames := 1, cells := 0, slots := 0, locals := 21 }) (va_Pc [.ref h0, .int p0] (pz_pre dC dI [(cyI, .int)] [(h0, .inr (10, [.ref pr, .ref ck, .ref tu, .ref sm, .ref rm])), (tu, .inr (8, [.ref pr, .ref t_places, .ref t_live, .ref t_homes, .ref t_code, .ref t_writer, .ref t_placeCounts, .int 0]))] sz)) (va_Qi (S := Unit) (fun (r : Int32) _ => r = (-1)) (fun _ _ => True) (va_A [(h0, .inr (10, [.ref pr, .ref ck, .ref tu, .ref sm, .ref rm])), (tu, .inr (8, [.ref pr, .ref t_places, .ref t_live, .ref t_homes, .ref t_code, .ref t_writer, .ref t_placeCounts, .int 0]))] sz)) 0 0 (va_A [(h0, .inr (10, [.ref pr, .ref ck, .ref tu, .ref sm, .ref rm])), (tu, .inr (8, [.ref pr, .ref t_places, .ref t_live, .ref t_homes, .ref t_code, .ref t_writer, .ref t_placeCounts, .int 0]))] sz) := by
  refine Met.ofW (cc := cX11_slots) (maxL := 2) (ret := (some .int)) (by decide) rfl ?_
  intro p e s m args below meth c s₁ B hml hv
  obtain ⟨rfl, hsz, hP, hK, hD0, hNW⟩ := hv
  have hx := B.exec
  have hb := B.bytes
  have hr := B.returns
  have hts := atoms_spec (ws := wq_X11_slots) B.pre
  have hown : s.vm.findClass RX11 = some m.cls := findClass_of_methodNamed B.named
  have hlocks := B.notSynchronized
  have hiX11 : ∀ w ∈ wsX110, w ∈ wq_X11_slots := by decide +kernel
  have hiX9 : ∀ w ∈ wsX90, w ∈ wq_X11_slots := by decide +kernel
  subst hsz
  have hD := hD0.self (sz := s.heap.size)
  generalize hAe : va_A [(h0, .inr (10, [.ref pr, .ref ck, .ref tu, .ref sm, .ref rm])), (tu, .inr (8, [.ref pr, .ref t_places, .ref t_live, .ref t_homes, .ref t_code, .ref t_writer, .ref t_placeCounts, .int 0]))] s.heap.size = A at hD ⊢
  have hA : ∀ q : Nat, s.heap.size ≤ q → A q := fun q h => by rw [← hAe]; exact Or.inr h
  have hS : va_S A s.heap s.heap [] := va_S.rf
  have hl := lv_entry ([.ref h0, .int p0]) (n := 2) (Nat.le_of_ble_eq_true rfl)
  rw [lg_entry_eq]
  generalize (lg_sl ([.ref h0, .int p0]) ++ List.replicate (2 - (lg_sl ([.ref h0, .int p0])).length) Slot.unset).toArray = ls at hl ⊢
  have hl : lv_has ls 2 [(0, .ref h0), (1, .int p0)] := hl
  refine lv_aload_n hx hb dX11_slots_0 rfl (lv_at hl 0 rfl) ?_
  refine lv_iload_n hx hb dX11_slots_1 rfl (lv_at hl 1 rfl) ?_
  have hPc := hP.sub (ws' := [(h0, .inr (10, [.ref pr, .ref ck, .ref tu, .ref sm, .ref rm])), (tu, .inr (8, [.ref pr, .ref t_places, .ref t_live, .ref t_homes, .ref t_code, .ref t_writer, .ref t_placeCounts, .int 0]))]) [0, 1] rfl
  have hDc := hD.sub (ws' := [(h0, .inr (10, [.ref pr, .ref ck, .ref tu, .ref sm, .ref rm])), (tu, .inr (8, [.ref pr, .ref t_places, .ref t_live, .ref t_homes, .ref t_code, .ref t_writer, .ref t_placeCounts, .int 0]))]) [0, 1] (by decide) rfl
  have hKc := hK.sub (tys' := [(cyI, .int)]) [0] rfl
  have hFc := va_free (wc := [(h0, .inr (10, [.ref pr, .ref ck, .ref tu, .ref sm, .ref rm])), (tu, .inr (8, [.ref pr, .ref t_places, .ref t_live, .ref t_homes, .ref t_code, .ref t_writer, .ref t_placeCounts, .int 0]))]) hD hS hA [0, 1] rfl
  refine va_calli (va_runV (As := [.int p0]) (rest := []) ⟨hx, hb, hml, hown, hts⟩ (c_X11_isTurned l dC dI cyI s.heap.size h0 pr ck tu sm rm t_places t_live t_homes t_code t_writer t_placeCounts p0) (cwV 1 hts gq_X11_slots_X11_isTurned_119 rfl rfl rfl (by decide +kernel) ⟨Nat.le_of_ble_eq_true rfl, Nat.le_of_ble_eq_true rfl⟩) ⟨pz_blind, va_recv hKc hPc (ci := 10) (q0 := 0) rfl rfl, pz_to hPc hKc hDc hNW⟩ rfl rfl hl.1 rfl (lv_room (Nat.le_of_ble_eq_true rfl)) dX11_slots_2 (by decide)) hS (fun q _ h => hFc q h) hFc (fun r_1 u t H1 locs ht hvm hw hB hz1 hk1 hS => ?_)
  obtain ⟨hP1, hK1, hD1⟩ := hB
  rw [ht] at hP1
  obtain ⟨hP, hD⟩ := va_join (wr := []) (w1 := [(h0, .inr (10, [.ref pr, .ref ck, .ref tu, .ref sm, .ref rm])), (tu, .inr (8, [.ref pr, .ref t_places, .ref t_live, .ref t_homes, .ref t_code, .ref t_writer, .ref t_placeCounts, .int 0]))]) hP hD [0, 1] [] rfl rfl (by decide) (by decide) hk1 hFc hP1 hD1
  generalize H1 = H at hP hS ⊢
  have hP : va_P (dC, dI) vwCl [(h0, .inr (10, [.ref pr, .ref ck, .ref tu, .ref sm, .ref rm])), (tu, .inr (8, [.ref pr, .ref t_places, .ref t_live, .ref t_homes, .ref t_code, .ref t_writer, .ref t_placeCounts, .int 0]))] H := hP
  have hD : va_D A [(h0, .inr (10, [.ref pr, .ref ck, .ref tu, .ref sm, .ref rm])), (tu, .inr (8, [.ref pr, .ref t_places, .ref t_live, .ref t_homes, .ref t_code, .ref t_writer, .ref t_placeCounts, .int 0]))] := hD
  have er_1 : r_1 = 0 := hw
  subst er_1
  refine lv_if_eq (tgt := 23) hx hb dX11_slots_5 (by decide) (fun _ => ?_) (fun h => absurd h (by decide))
  refine lv_iconst (v := -1) hx hb dX11_slots_23 (by decide) ?_
  have h9 : (-1 : Int32) = (-1) := rfl
  exact W.iret (v := (-1)) hx hb hr (fun t ht hW => ⟨⟨_, (), rfl, h9, trivial⟩, hS.F ht⟩) hS.2.2 dX11_slots_24

def wq_X11_places : List Cond := .code yX11_places cX11_places 2 (some .int) :: ([.code yX11_isTurned cX11_isTurned 2 (some .boolean), .fieldLink RX11 28 "RegisterMill" "turner" "LRegisterMill$Turner;", .fieldLink RX11 90 "RegisterMill$Turner" "registers" "I", .methodLink RX11 119 yX11_isTurned, .instanceMethod yX11_isTurned, .selects RX11 yX11_isTurned yX11_isTurned, .initialized RX11] ++ wsX110 ++ wsX90)
set_option maxRecDepth 20000 in
theorem gq_X11_places_X11_isTurned_119 : GoodIn wq_X11_places (wsV RX11 119 RX11 yX11_isTurned wq_X11_isTurned) := goodIn_r _ [4, 5, 6, 7, 1, 2, 3, 8, 9, 10, 11, 12, 13, 14, 15, 16, 17, 18, 19, 20] (by decide +kernel) (by decide +kernel)
set_option maxHeartbeats 4000000 in
set_option maxRecDepth 100000 in
/-- places on a fresh object -/
theorem c_X11_places (l : Launch) (dC : Nat → ClassId) (dI : Nat → Nat → Nat) (cyI : ClassId) (sz : Nat) (h0 : Nat) (pr : Nat) (ck : Nat) (tu : Nat) (sm : Nat) (rm : Nat) (t_places : Nat) (t_live : Nat) (t_homes : Nat) (t_code : Nat) (t_writer : Nat) (t_placeCounts : Nat) (p0 : Int32) : Met l yX11_places wq_X11_places ({ frames := 1, cells := 0, slots := 0, locals := 21 }) (va_Pc [.ref h0, .int p0] (pz_pre dC dI [(cyI, .int)] [(h0, .inr (10, [.ref pr, .ref ck, .ref tu, .ref sm, .ref rm])), (tu, .inr (8, [.ref pr, .ref t_places, .ref t_live, .ref t_homes, .ref t_code, .ref t_writer, .ref t_placeCounts, .int 0]))] sz)) (va_Qi (S := Unit) (fun (r : Int32) _ => r = (-1)) (fun _ _ => True) (va_A [(h0, .inr (10, [.ref pr, .ref ck, .ref tu, .ref sm, .ref rm])), (tu, .inr (8, [.ref pr, .ref t_places, .ref t_live, .ref t_homes, .ref t_code, .ref t_writer, .ref t_placeCounts, .int 0]))] sz)) 0 0 (va_A [(h0, .inr (10, [.ref pr, .ref ck, .ref tu, .ref sm, .ref rm])), (tu, .inr (8, [.ref pr, .ref t_places, .ref t_live, .ref t_homes, .ref t_code, .ref t_writer, .ref t_placeCounts, .int 0]))] sz) := by
  refine Met.ofW (cc := cX11_places) (maxL := 2) (ret := (some .int)) (by decide) rfl ?_
  intro p e s m args below meth c s₁ B hml hv
  obtain ⟨rfl, hsz, hP, hK, hD0, hNW⟩ := hv
  have hx := B.exec
  have hb := B.bytes
  have hr := B.returns
  have hts := atoms_spec (ws := wq_X11_places) B.pre
  have hown : s.vm.findClass RX11 = some m.cls := findClass_of_methodNamed B.named
  have hlocks := B.notSynchronized
  have hiX11 : ∀ w ∈ wsX110, w ∈ wq_X11_places := by decide +kernel
  have hiX9 : ∀ w ∈ wsX90, w ∈ wq_X11_places := by decide +kernel
  subst hsz
  have hD := hD0.self (sz := s.heap.size)
  generalize hAe : va_A [(h0, .inr (10, [.ref pr, .ref ck, .ref tu, .ref sm, .ref rm])), (tu, .inr (8, [.ref pr, .ref t_places, .ref t_live, .ref t_homes, .ref t_code, .ref t_writer, .ref t_placeCounts, .int 0]))] s.heap.size = A at hD ⊢
  have hA : ∀ q : Nat, s.heap.size ≤ q → A q := fun q h => by rw [← hAe]; exact Or.inr h
  have hS : va_S A s.heap s.heap [] := va_S.rf
  have hl := lv_entry ([.ref h0, .int p0]) (n := 2) (Nat.le_of_ble_eq_true rfl)
  rw [lg_entry_eq]
  generalize (lg_sl ([.ref h0, .int p0]) ++ List.replicate (2 - (lg_sl ([.ref h0, .int p0])).length) Slot.unset).toArray = ls at hl ⊢
  have hl : lv_has ls 2 [(0, .ref h0), (1, .int p0)] := hl
  refine lv_aload_n hx hb dX11_places_0 rfl (lv_at hl 0 rfl) ?_
  refine lv_iload_n hx hb dX11_places_1 rfl (lv_at hl 1 rfl) ?_
  have hPc := hP.sub (ws' := [(h0, .inr (10, [.ref pr, .ref ck, .ref tu, .ref sm, .ref rm])), (tu, .inr (8, [.ref pr, .ref t_places, .ref t_live, .ref t_homes, .ref t_code, .ref t_writer, .ref t_placeCounts, .int 0]))]) [0, 1] rfl
  have hDc := hD.sub (ws' := [(h0, .inr (10, [.ref pr, .ref ck, .ref tu, .ref sm, .ref rm])), (tu, .inr (8, [.ref pr, .ref t_places, .ref t_live, .ref t_homes, .ref t_code, .ref t_writer, .ref t_placeCounts, .int 0]))]) [0, 1] (by decide) rfl
  have hKc := hK.sub (tys' := [(cyI, .int)]) [0] rfl
  have hFc := va_free (wc := [(h0, .inr (10, [.ref pr, .ref ck, .ref tu, .ref sm, .ref rm])), (tu, .inr (8, [.ref pr, .ref t_places, .ref t_live, .ref t_homes, .ref t_code, .ref t_writer, .ref t_placeCounts, .int 0]))]) hD hS hA [0, 1] rfl
  refine va_calli (va_runV (As := [.int p0]) (rest := []) ⟨hx, hb, hml, hown, hts⟩ (c_X11_isTurned l dC dI cyI s.heap.size h0 pr ck tu sm rm t_places t_live t_homes t_code t_writer t_placeCounts p0) (cwV 1 hts gq_X11_places_X11_isTurned_119 rfl rfl rfl (by decide +kernel) ⟨Nat.le_of_ble_eq_true rfl, Nat.le_of_ble_eq_true rfl⟩) ⟨pz_blind, va_recv hKc hPc (ci := 10) (q0 := 0) rfl rfl, pz_to hPc hKc hDc hNW⟩ rfl rfl hl.1 rfl (lv_room (Nat.le_of_ble_eq_true rfl)) dX11_places_2 (by decide)) hS (fun q _ h => hFc q h) hFc (fun r_1 u t H1 locs ht hvm hw hB hz1 hk1 hS => ?_)
  obtain ⟨hP1, hK1, hD1⟩ := hB
  rw [ht] at hP1
  obtain ⟨hP, hD⟩ := va_join (wr := []) (w1 := [(h0, .inr (10, [.ref pr, .ref ck, .ref tu, .ref sm, .ref rm])), (tu, .inr (8, [.ref pr, .ref t_places, .ref t_live, .ref t_homes, .ref t_code, .ref t_writer, .ref t_placeCounts, .int 0]))]) hP hD [0, 1] [] rfl rfl (by decide) (by decide) hk1 hFc hP1 hD1
  generalize H1 = H at hP hS ⊢
  have hP : va_P (dC, dI) vwCl [(h0, .inr (10, [.ref pr, .ref ck, .ref tu, .ref sm, .ref rm])), (tu, .inr (8, [.ref pr, .ref t_places, .ref t_live, .ref t_homes, .ref t_code, .ref t_writer, .ref t_placeCounts, .int 0]))] H := hP
  have hD : va_D A [(h0, .inr (10, [.ref pr, .ref ck, .ref tu, .ref sm, .ref rm])), (tu, .inr (8, [.ref pr, .ref t_places, .ref t_live, .ref t_homes, .ref t_code, .ref t_writer, .ref t_placeCounts, .int 0]))] := hD
  have er_1 : r_1 = 0 := hw
  subst er_1
  refine lv_if_eq (tgt := 20) hx hb dX11_places_5 (by decide) (fun _ => ?_) (fun h => absurd h (by decide))
  refine lv_iconst (v := -1) hx hb dX11_places_20 (by decide) ?_
  have h9 : (-1 : Int32) = (-1) := rfl
  exact W.iret (v := (-1)) hx hb hr (fun t ht hW => ⟨⟨_, (), rfl, h9, trivial⟩, hS.F ht⟩) hS.2.2 dX11_places_21

def wq_X11_value : List Cond := .code yX11_value cX11_value 4 (some .int) :: ([.code yX11_isTurned cX11_isTurned 2 (some .boolean), .fieldLink RX11 28 "RegisterMill" "turner" "LRegisterMill$Turner;", .fieldLink RX11 90 "RegisterMill$Turner" "registers" "I", .methodLink RX11 119 yX11_isTurned, .instanceMethod yX11_isTurned, .selects RX11 yX11_isTurned yX11_isTurned, .initialized RX11] ++ wsX110 ++ wsX90)
set_option maxRecDepth 20000 in
theorem gq_X11_value_X11_isTurned_119 : GoodIn wq_X11_value (wsV RX11 119 RX11 yX11_isTurned wq_X11_isTurned) := goodIn_r _ [4, 5, 6, 7, 1, 2, 3, 8, 9, 10, 11, 12, 13, 14, 15, 16, 17, 18, 19, 20] (by decide +kernel) (by decide +kernel)
set_option maxHeartbeats 4000000 in
set_option maxRecDepth 100000 in
/-- value on a fresh object -/
theorem c_X11_value (l : Launch) (dC : Nat → ClassId) (dI : Nat → Nat → Nat) (cyI : ClassId) (sz : Nat) (h0 : Nat) (pr : Nat) (ck : Nat) (tu : Nat) (sm : Nat) (rm : Nat) (t_places : Nat) (t_live : Nat) (t_homes : Nat) (t_code : Nat) (t_writer : Nat) (t_placeCounts : Nat) (p0 : Int32) (p1 : Int32) (p2 : Int32) : Met l yX11_value wq_X11_value ({ frames := 1, cells := 0, slots := 0, locals := 21 }) (va_Pc [.ref h0, .int p0, .int p1, .int p2] (pz_pre dC dI [(cyI, .int)] [(h0, .inr (10, [.ref pr, .ref ck, .ref tu, .ref sm, .ref rm])), (tu, .inr (8, [.ref pr, .ref t_places, .ref t_live, .ref t_homes, .ref t_code, .ref t_writer, .ref t_placeCounts, .int 0]))] sz)) (va_Qi (S := Unit) (fun (r : Int32) _ => r = (-1)) (fun _ _ => True) (va_A [(h0, .inr (10, [.ref pr, .ref ck, .ref tu, .ref sm, .ref rm])), (tu, .inr (8, [.ref pr, .ref t_places, .ref t_live, .ref t_homes, .ref t_code, .ref t_writer, .ref t_placeCounts, .int 0]))] sz)) 0 0 (va_A [(h0, .inr (10, [.ref pr, .ref ck, .ref tu, .ref sm, .ref rm])), (tu, .inr (8, [.ref pr, .ref t_places, .ref t_live, .ref t_homes, .ref t_code, .ref t_writer, .ref t_placeCounts, .int 0]))] sz) := by
  refine Met.ofW (cc := cX11_value) (maxL := 4) (ret := (some .int)) (by decide) rfl ?_
  intro p e s m args below meth c s₁ B hml hv
  obtain ⟨rfl, hsz, hP, hK, hD0, hNW⟩ := hv
  have hx := B.exec
  have hb := B.bytes
  have hr := B.returns
  have hts := atoms_spec (ws := wq_X11_value) B.pre
  have hown : s.vm.findClass RX11 = some m.cls := findClass_of_methodNamed B.named
  have hlocks := B.notSynchronized
  have hiX11 : ∀ w ∈ wsX110, w ∈ wq_X11_value := by decide +kernel
  have hiX9 : ∀ w ∈ wsX90, w ∈ wq_X11_value := by decide +kernel
  subst hsz
  have hD := hD0.self (sz := s.heap.size)
  generalize hAe : va_A [(h0, .inr (10, [.ref pr, .ref ck, .ref tu, .ref sm, .ref rm])), (tu, .inr (8, [.ref pr, .ref t_places, .ref t_live, .ref t_homes, .ref t_code, .ref t_writer, .ref t_placeCounts, .int 0]))] s.heap.size = A at hD ⊢
  have hA : ∀ q : Nat, s.heap.size ≤ q → A q := fun q h => by rw [← hAe]; exact Or.inr h
  have hS : va_S A s.heap s.heap [] := va_S.rf
  have hl := lv_entry ([.ref h0, .int p0, .int p1, .int p2]) (n := 4) (Nat.le_of_ble_eq_true rfl)
  rw [lg_entry_eq]
  generalize (lg_sl ([.ref h0, .int p0, .int p1, .int p2]) ++ List.replicate (4 - (lg_sl ([.ref h0, .int p0, .int p1, .int p2])).length) Slot.unset).toArray = ls at hl ⊢
  have hl : lv_has ls 4 [(0, .ref h0), (1, .int p0), (2, .int p1), (3, .int p2)] := hl
  refine lv_aload_n hx hb dX11_value_0 rfl (lv_at hl 0 rfl) ?_
  refine lv_iload_n hx hb dX11_value_1 rfl (lv_at hl 1 rfl) ?_
  have hPc := hP.sub (ws' := [(h0, .inr (10, [.ref pr, .ref ck, .ref tu, .ref sm, .ref rm])), (tu, .inr (8, [.ref pr, .ref t_places, .ref t_live, .ref t_homes, .ref t_code, .ref t_writer, .ref t_placeCounts, .int 0]))]) [0, 1] rfl
  have hDc := hD.sub (ws' := [(h0, .inr (10, [.ref pr, .ref ck, .ref tu, .ref sm, .ref rm])), (tu, .inr (8, [.ref pr, .ref t_places, .ref t_live, .ref t_homes, .ref t_code, .ref t_writer, .ref t_placeCounts, .int 0]))]) [0, 1] (by decide) rfl
  have hKc := hK.sub (tys' := [(cyI, .int)]) [0] rfl
  have hFc := va_free (wc := [(h0, .inr (10, [.ref pr, .ref ck, .ref tu, .ref sm, .ref rm])), (tu, .inr (8, [.ref pr, .ref t_places, .ref t_live, .ref t_homes, .ref t_code, .ref t_writer, .ref t_placeCounts, .int 0]))]) hD hS hA [0, 1] rfl
  refine va_calli (va_runV (As := [.int p0]) (rest := []) ⟨hx, hb, hml, hown, hts⟩ (c_X11_isTurned l dC dI cyI s.heap.size h0 pr ck tu sm rm t_places t_live t_homes t_code t_writer t_placeCounts p0) (cwV 1 hts gq_X11_value_X11_isTurned_119 rfl rfl rfl (by decide +kernel) ⟨Nat.le_of_ble_eq_true rfl, Nat.le_of_ble_eq_true rfl⟩) ⟨pz_blind, va_recv hKc hPc (ci := 10) (q0 := 0) rfl rfl, pz_to hPc hKc hDc hNW⟩ rfl rfl hl.1 rfl (lv_room (Nat.le_of_ble_eq_true rfl)) dX11_value_2 (by decide)) hS (fun q _ h => hFc q h) hFc (fun r_1 u t H1 locs ht hvm hw hB hz1 hk1 hS => ?_)
  obtain ⟨hP1, hK1, hD1⟩ := hB
  rw [ht] at hP1
  obtain ⟨hP, hD⟩ := va_join (wr := []) (w1 := [(h0, .inr (10, [.ref pr, .ref ck, .ref tu, .ref sm, .ref rm])), (tu, .inr (8, [.ref pr, .ref t_places, .ref t_live, .ref t_homes, .ref t_code, .ref t_writer, .ref t_placeCounts, .int 0]))]) hP hD [0, 1] [] rfl rfl (by decide) (by decide) hk1 hFc hP1 hD1
  generalize H1 = H at hP hS ⊢
  have hP : va_P (dC, dI) vwCl [(h0, .inr (10, [.ref pr, .ref ck, .ref tu, .ref sm, .ref rm])), (tu, .inr (8, [.ref pr, .ref t_places, .ref t_live, .ref t_homes, .ref t_code, .ref t_writer, .ref t_placeCounts, .int 0]))] H := hP
  have hD : va_D A [(h0, .inr (10, [.ref pr, .ref ck, .ref tu, .ref sm, .ref rm])), (tu, .inr (8, [.ref pr, .ref t_places, .ref t_live, .ref t_homes, .ref t_code, .ref t_writer, .ref t_placeCounts, .int 0]))] := hD
  have er_1 : r_1 = 0 := hw
  subst er_1
  refine lv_if_eq (tgt := 28) hx hb dX11_value_5 (by decide) (fun _ => ?_) (fun h => absurd h (by decide))
  refine lv_iconst (v := -1) hx hb dX11_value_28 (by decide) ?_
  have h9 : (-1 : Int32) = (-1) := rfl
  exact W.iret (v := (-1)) hx hb hr (fun t ht hW => ⟨⟨_, (), rfl, h9, trivial⟩, hS.F ht⟩) hS.2.2 dX11_value_29

def wq_X11_cell : List Cond := .code yX11_cell cX11_cell 3 (some .boolean) :: ([.fieldLink RX11 35 "RegisterMill" "stackMachine" "LRegisterMill$Machine;", .fieldLink RX11 96 "RegisterMill$Machine" "memory" "[I", .fieldLink RX11 48 "RegisterMill" "registerMachine" "LRegisterMill$Machine;"] ++ wsX110 ++ wsX80 ++ wsX70)
set_option maxHeartbeats 4000000 in
set_option maxRecDepth 100000 in
/-- cell on a fresh object -/
theorem c_X11_cell (l : Launch) (dC : Nat → ClassId) (dI : Nat → Nat → Nat) (cyI : ClassId) (sz : Nat) (h0 : Nat) (pr : Nat) (ck : Nat) (tu : Nat) (sm : Nat) (rm : Nat) (s_memory : Nat) (s_funcs : Nat) (s_nexts : Nat) (s_locals : Nat) (s_stack : Nat) (s_bottoms : Nat) (r_memory : Nat) (r_funcs : Nat) (r_nexts : Nat) (t_code : Nat) (r_registers : Nat) (r_slotCells : Nat) (r_passed : Nat) (p0 : Int32) (p1 : Int32) : Met l yX11_cell wq_X11_cell ({ frames := 0, cells := 0, slots := 0, locals := 0 }) (va_Pc [.ref h0, .int p0, .int p1] (pz_pre dC dI [(cyI, .int)] [(h0, .inr (10, [.ref pr, .ref ck, .ref tu, .ref sm, .ref rm])), (sm, .inr (7, [.ref s_memory, .ref s_funcs, .ref s_nexts, .int 0, .int 0, .int 0, .int 0, .int 0, .ref pr, .ref s_locals, .ref s_stack, .ref s_bottoms, .int 0])), (s_memory, .inl (cyI, 64, .inl (fun _ => 0))), (rm, .inr (6, [.ref r_memory, .ref r_funcs, .ref r_nexts, .int 0, .int 0, .int 0, .int 0, .int 0, .ref t_code, .ref r_registers, .ref r_slotCells, .ref r_passed, .int 0])), (r_memory, .inl (cyI, 64, .inl (fun _ => 0)))] sz)) (va_Qi (S := Unit) (fun (r : Int32) _ => r = fz_cell p0) (fun _ _ => True) (va_A [(h0, .inr (10, [.ref pr, .ref ck, .ref tu, .ref sm, .ref rm])), (sm, .inr (7, [.ref s_memory, .ref s_funcs, .ref s_nexts, .int 0, .int 0, .int 0, .int 0, .int 0, .ref pr, .ref s_locals, .ref s_stack, .ref s_bottoms, .int 0])), (s_memory, .inl (cyI, 64, .inl (fun _ => 0))), (rm, .inr (6, [.ref r_memory, .ref r_funcs, .ref r_nexts, .int 0, .int 0, .int 0, .int 0, .int 0, .ref t_code, .ref r_registers, .ref r_slotCells, .ref r_passed, .int 0])), (r_memory, .inl (cyI, 64, .inl (fun _ => 0)))] sz)) 0 0 (va_A [(h0, .inr (10, [.ref pr, .ref ck, .ref tu, .ref sm, .ref rm])), (sm, .inr (7, [.ref s_memory, .ref s_funcs, .ref s_nexts, .int 0, .int 0, .int 0, .int 0, .int 0, .ref pr, .ref s_locals, .ref s_stack, .ref s_bottoms, .int 0])), (s_memory, .inl (cyI, 64, .inl (fun _ => 0))), (rm, .inr (6, [.ref r_memory, .ref r_funcs, .ref r_nexts, .int 0, .int 0, .int 0, .int 0, .int 0, .ref t_code, .ref r_registers, .ref r_slotCells, .ref r_passed, .int 0])), (r_memory, .inl (cyI, 64, .inl (fun _ => 0)))] sz) := by
  refine Met.ofW (cc := cX11_cell) (maxL := 3) (ret := (some .boolean)) (by decide) rfl ?_
  intro p e s m args below meth c s₁ B hml hv
  obtain ⟨rfl, hsz, hP, hK, hD0, hNW⟩ := hv
  have hx := B.exec
  have hb := B.bytes
  have hr := B.returns
  have hts := atoms_spec (ws := wq_X11_cell) B.pre
  have hown : s.vm.findClass RX11 = some m.cls := findClass_of_methodNamed B.named
  have hlocks := B.notSynchronized
  have hiX11 : ∀ w ∈ wsX110, w ∈ wq_X11_cell := by decide +kernel
  have hiX8 : ∀ w ∈ wsX80, w ∈ wq_X11_cell := by decide +kernel
  have hiX7 : ∀ w ∈ wsX70, w ∈ wq_X11_cell := by decide +kernel
  subst hsz
  have hD := hD0.self (sz := s.heap.size)
  generalize hAe : va_A [(h0, .inr (10, [.ref pr, .ref ck, .ref tu, .ref sm, .ref rm])), (sm, .inr (7, [.ref s_memory, .ref s_funcs, .ref s_nexts, .int 0, .int 0, .int 0, .int 0, .int 0, .ref pr, .ref s_locals, .ref s_stack, .ref s_bottoms, .int 0])), (s_memory, .inl (cyI, 64, .inl (fun _ => 0))), (rm, .inr (6, [.ref r_memory, .ref r_funcs, .ref r_nexts, .int 0, .int 0, .int 0, .int 0, .int 0, .ref t_code, .ref r_registers, .ref r_slotCells, .ref r_passed, .int 0])), (r_memory, .inl (cyI, 64, .inl (fun _ => 0)))] s.heap.size = A at hD ⊢
  have hA : ∀ q : Nat, s.heap.size ≤ q → A q := fun q h => by rw [← hAe]; exact Or.inr h
  have hS : va_S A s.heap s.heap [] := va_S.rf
  have hl := lv_entry ([.ref h0, .int p0, .int p1]) (n := 3) (Nat.le_of_ble_eq_true rfl)
  rw [lg_entry_eq]
  generalize (lg_sl ([.ref h0, .int p0, .int p1]) ++ List.replicate (3 - (lg_sl ([.ref h0, .int p0, .int p1])).length) Slot.unset).toArray = ls at hl ⊢
  have hl : lv_has ls 3 [(0, .ref h0), (1, .int p0), (2, .int p1)] := hl
  refine lv_iload_n hx hb dX11_cell_0 rfl (lv_at hl 1 rfl) ?_
  refine lv_if_lt (tgt := 10) hx hb dX11_cell_1 (by decide) (fun c_1 => ?_) (fun c_1 => ?_)
  · refine lv_iconst (v := 0) hx hb dX11_cell_10 (by decide) ?_
    have h9 : (0 : Int32) = fz_cell p0 := by simp [fz_cell, c_1]
    exact W.zret (v := (0)) hx hb hr (by decide) (fun t ht hW => ⟨⟨_, (), rfl, h9, trivial⟩, hS.F ht⟩) hS.2.2 dX11_cell_11
  · refine lv_iload_n hx hb dX11_cell_4 rfl (lv_at hl 1 rfl) ?_
    refine lv_bipush (v := 64) hx hb dX11_cell_5 (by decide) ?_
    refine lv_icmp_lt (tgt := 12) hx hb dX11_cell_7 (by decide) (fun c_2 => ?_) (fun c_2 => ?_)
    · refine lv_aload_n hx hb dX11_cell_12 rfl (lv_at hl 0 rfl) ?_
      refine va_get (D := (dC, dI)) (ci := 10) (v := .ref sm) (C := RX11) (T := TX11) (N := 5) hx hb hts hiX11 hown hK hP 0 rfl rfl 3 (by decide) (hts (.fieldLink RX11 35 "RegisterMill" "stackMachine" "LRegisterMill$Machine;") (by decide +kernel)) (fun _ h9 => h9) rfl dX11_cell_13 ?_
      refine va_get (D := (dC, dI)) (ci := 7) (v := .ref s_memory) (C := RX8) (T := TX8) (N := 13) hx hb hts hiX8 hown hK hP 1 rfl rfl 0 (by decide) (hts (.fieldLink RX11 96 "RegisterMill$Machine" "memory" "[I") (by decide +kernel)) (fun _ h9 => h9) rfl dX11_cell_16 ?_
      refine lv_iload_n hx hb dX11_cell_19 rfl (lv_at hl 1 rfl) ?_
      refine lv_iload_n hx hb dX11_cell_20 rfl (lv_at hl 2 rfl) ?_
      refine va_iast hx hb hK hP hD hS 2 0 rfl rfl (pz_in64 c_1 (pz_nle c_2)) dX11_cell_21 (fun H locs hP hD hS => ?_)
      have hP : va_P (dC, dI) vwCl [(h0, .inr (10, [.ref pr, .ref ck, .ref tu, .ref sm, .ref rm])), (sm, .inr (7, [.ref s_memory, .ref s_funcs, .ref s_nexts, .int 0, .int 0, .int 0, .int 0, .int 0, .ref pr, .ref s_locals, .ref s_stack, .ref s_bottoms, .int 0])), (s_memory, .inl (cyI, 64, .inl (upd (fun _ => 0) (Int32.toNatClampNeg p0) p1))), (rm, .inr (6, [.ref r_memory, .ref r_funcs, .ref r_nexts, .int 0, .int 0, .int 0, .int 0, .int 0, .ref t_code, .ref r_registers, .ref r_slotCells, .ref r_passed, .int 0])), (r_memory, .inl (cyI, 64, .inl (fun _ => 0)))] H := hP
      have hD : va_D A [(h0, .inr (10, [.ref pr, .ref ck, .ref tu, .ref sm, .ref rm])), (sm, .inr (7, [.ref s_memory, .ref s_funcs, .ref s_nexts, .int 0, .int 0, .int 0, .int 0, .int 0, .ref pr, .ref s_locals, .ref s_stack, .ref s_bottoms, .int 0])), (s_memory, .inl (cyI, 64, .inl (upd (fun _ => 0) (Int32.toNatClampNeg p0) p1))), (rm, .inr (6, [.ref r_memory, .ref r_funcs, .ref r_nexts, .int 0, .int 0, .int 0, .int 0, .int 0, .ref t_code, .ref r_registers, .ref r_slotCells, .ref r_passed, .int 0])), (r_memory, .inl (cyI, 64, .inl (fun _ => 0)))] := hD
      refine lv_aload_n hx hb dX11_cell_22 rfl (lv_at hl 0 rfl) ?_
      refine va_get (D := (dC, dI)) (ci := 10) (v := .ref rm) (C := RX11) (T := TX11) (N := 5) hx hb hts hiX11 hown hK hP 0 rfl rfl 4 (by decide) (hts (.fieldLink RX11 48 "RegisterMill" "registerMachine" "LRegisterMill$Machine;") (by decide +kernel)) (fun _ h9 => h9) rfl dX11_cell_23 ?_
      refine va_get (D := (dC, dI)) (ci := 6) (v := .ref r_memory) (C := RX7) (T := TX7) (N := 13) hx hb hts hiX7 hown hK hP 3 rfl rfl 0 (by decide) (hts (.fieldLink RX11 96 "RegisterMill$Machine" "memory" "[I") (by decide +kernel)) (fun _ h9 => h9) rfl dX11_cell_26 ?_
      refine lv_iload_n hx hb dX11_cell_29 rfl (lv_at hl 1 rfl) ?_
      refine lv_iload_n hx hb dX11_cell_30 rfl (lv_at hl 2 rfl) ?_
      refine va_iast hx hb hK hP hD hS 4 0 rfl rfl (pz_in64 c_1 (pz_nle c_2)) dX11_cell_31 (fun H locs hP hD hS => ?_)
      have hP : va_P (dC, dI) vwCl [(h0, .inr (10, [.ref pr, .ref ck, .ref tu, .ref sm, .ref rm])), (sm, .inr (7, [.ref s_memory, .ref s_funcs, .ref s_nexts, .int 0, .int 0, .int 0, .int 0, .int 0, .ref pr, .ref s_locals, .ref s_stack, .ref s_bottoms, .int 0])), (s_memory, .inl (cyI, 64, .inl (upd (fun _ => 0) (Int32.toNatClampNeg p0) p1))), (rm, .inr (6, [.ref r_memory, .ref r_funcs, .ref r_nexts, .int 0, .int 0, .int 0, .int 0, .int 0, .ref t_code, .ref r_registers, .ref r_slotCells, .ref r_passed, .int 0])), (r_memory, .inl (cyI, 64, .inl (upd (fun _ => 0) (Int32.toNatClampNeg p0) p1)))] H := hP
      have hD : va_D A [(h0, .inr (10, [.ref pr, .ref ck, .ref tu, .ref sm, .ref rm])), (sm, .inr (7, [.ref s_memory, .ref s_funcs, .ref s_nexts, .int 0, .int 0, .int 0, .int 0, .int 0, .ref pr, .ref s_locals, .ref s_stack, .ref s_bottoms, .int 0])), (s_memory, .inl (cyI, 64, .inl (upd (fun _ => 0) (Int32.toNatClampNeg p0) p1))), (rm, .inr (6, [.ref r_memory, .ref r_funcs, .ref r_nexts, .int 0, .int 0, .int 0, .int 0, .int 0, .ref t_code, .ref r_registers, .ref r_slotCells, .ref r_passed, .int 0])), (r_memory, .inl (cyI, 64, .inl (upd (fun _ => 0) (Int32.toNatClampNeg p0) p1)))] := hD
      refine lv_iconst (v := 1) hx hb dX11_cell_32 (by decide) ?_
      have h9 : (1 : Int32) = fz_cell p0 := by simp [fz_cell, c_1, c_2, (pz_nle c_2)]
      exact W.zret (v := (1)) hx hb hr (by decide) (fun t ht hW => ⟨⟨_, (), rfl, h9, trivial⟩, hS.F ht⟩) hS.2.2 dX11_cell_33
    · refine lv_iconst (v := 0) hx hb dX11_cell_10 (by decide) ?_
      have h9 : (0 : Int32) = fz_cell p0 := by simp [fz_cell, c_1, c_2, (pz_nlt c_2)]
      exact W.zret (v := (0)) hx hb hr (by decide) (fun t ht hW => ⟨⟨_, (), rfl, h9, trivial⟩, hS.F ht⟩) hS.2.2 dX11_cell_11

def wq_X11_again : List Cond := .code yX11_again cX11_again 1 (some .boolean) :: ([.fieldLink RX11 12 "RegisterMill" "program" "LRegisterMill$Program;", .fieldLink RX11 51 "RegisterMill$Program" "checked" "Z"] ++ wsX110 ++ wsX60)
set_option maxHeartbeats 4000000 in
set_option maxRecDepth 100000 in
/-- again on a fresh object -/
theorem c_X11_again (l : Launch) (dC : Nat → ClassId) (dI : Nat → Nat → Nat) (cyI : ClassId) (sz : Nat) (h0 : Nat) (pr : Nat) (ck : Nat) (tu : Nat) (sm : Nat) (rm : Nat) (p_args : Nat) (p_locals : Nat) (p_starts : Nat) (p_lengths : Nat) (p_ops : Nat) (p_numbers : Nat) (p_depths : Nat) : Met l yX11_again wq_X11_again ({ frames := 0, cells := 0, slots := 0, locals := 0 }) (va_Pc [.ref h0] (pz_pre dC dI [(cyI, .int)] [(h0, .inr (10, [.ref pr, .ref ck, .ref tu, .ref sm, .ref rm])), (pr, .inr (5, [.ref p_args, .ref p_locals, .ref p_starts, .ref p_lengths, .ref p_ops, .ref p_numbers, .ref p_depths, .int 0, .int 0, .int 0]))] sz)) (va_Qi (S := Unit) (fun (r : Int32) _ => r = 0) (fun _ _ => True) (va_A [(h0, .inr (10, [.ref pr, .ref ck, .ref tu, .ref sm, .ref rm])), (pr, .inr (5, [.ref p_args, .ref p_locals, .ref p_starts, .ref p_lengths, .ref p_ops, .ref p_numbers, .ref p_depths, .int 0, .int 0, .int 0]))] sz)) 0 0 (va_A [(h0, .inr (10, [.ref pr, .ref ck, .ref tu, .ref sm, .ref rm])), (pr, .inr (5, [.ref p_args, .ref p_locals, .ref p_starts, .ref p_lengths, .ref p_ops, .ref p_numbers, .ref p_depths, .int 0, .int 0, .int 0]))] sz) := by
  refine Met.ofW (cc := cX11_again) (maxL := 1) (ret := (some .boolean)) (by decide) rfl ?_
  intro p e s m args below meth c s₁ B hml hv
  obtain ⟨rfl, hsz, hP, hK, hD0, hNW⟩ := hv
  have hx := B.exec
  have hb := B.bytes
  have hr := B.returns
  have hts := atoms_spec (ws := wq_X11_again) B.pre
  have hown : s.vm.findClass RX11 = some m.cls := findClass_of_methodNamed B.named
  have hlocks := B.notSynchronized
  have hiX11 : ∀ w ∈ wsX110, w ∈ wq_X11_again := by decide +kernel
  have hiX6 : ∀ w ∈ wsX60, w ∈ wq_X11_again := by decide +kernel
  subst hsz
  have hD := hD0.self (sz := s.heap.size)
  generalize hAe : va_A [(h0, .inr (10, [.ref pr, .ref ck, .ref tu, .ref sm, .ref rm])), (pr, .inr (5, [.ref p_args, .ref p_locals, .ref p_starts, .ref p_lengths, .ref p_ops, .ref p_numbers, .ref p_depths, .int 0, .int 0, .int 0]))] s.heap.size = A at hD ⊢
  have hA : ∀ q : Nat, s.heap.size ≤ q → A q := fun q h => by rw [← hAe]; exact Or.inr h
  have hS : va_S A s.heap s.heap [] := va_S.rf
  have hl := lv_entry ([.ref h0]) (n := 1) (Nat.le_of_ble_eq_true rfl)
  rw [lg_entry_eq]
  generalize (lg_sl ([.ref h0]) ++ List.replicate (1 - (lg_sl ([.ref h0])).length) Slot.unset).toArray = ls at hl ⊢
  have hl : lv_has ls 1 [(0, .ref h0)] := hl
  refine lv_aload_n hx hb dX11_again_0 rfl (lv_at hl 0 rfl) ?_
  refine va_get (D := (dC, dI)) (ci := 10) (v := .ref pr) (C := RX11) (T := TX11) (N := 5) hx hb hts hiX11 hown hK hP 0 rfl rfl 0 (by decide) (hts (.fieldLink RX11 12 "RegisterMill" "program" "LRegisterMill$Program;") (by decide +kernel)) (fun _ h9 => h9) rfl dX11_again_1 ?_
  refine va_get (D := (dC, dI)) (ci := 5) (v := .int 0) (C := RX6) (T := TX6) (N := 10) hx hb hts hiX6 hown hK hP 1 rfl rfl 9 (by decide) (hts (.fieldLink RX11 51 "RegisterMill$Program" "checked" "Z") (by decide +kernel)) (fun _ h9 => h9) rfl dX11_again_4 ?_
  refine lv_if_ne (tgt := 12) hx hb dX11_again_7 (by decide) (fun h => absurd h (by decide)) (fun _ => ?_)
  refine lv_iconst (v := 0) hx hb dX11_again_10 (by decide) ?_
  have h9 : (0 : Int32) = 0 := rfl
  exact W.zret (v := (0)) hx hb hr (by decide) (fun t ht hW => ⟨⟨_, (), rfl, h9, trivial⟩, hS.F ht⟩) hS.2.2 dX11_again_11

def wq_X11_runStack : List Cond := .code yX11_runStack cX11_runStack 2 (some .int) :: ([.fieldLink RX11 12 "RegisterMill" "program" "LRegisterMill$Program;", .fieldLink RX11 51 "RegisterMill$Program" "checked" "Z"] ++ wsX110 ++ wsX60)
set_option maxHeartbeats 4000000 in
set_option maxRecDepth 100000 in
/-- runStack on a fresh object -/
theorem c_X11_runStack (l : Launch) (dC : Nat → ClassId) (dI : Nat → Nat → Nat) (cyI : ClassId) (sz : Nat) (h0 : Nat) (pr : Nat) (ck : Nat) (tu : Nat) (sm : Nat) (rm : Nat) (p_args : Nat) (p_locals : Nat) (p_starts : Nat) (p_lengths : Nat) (p_ops : Nat) (p_numbers : Nat) (p_depths : Nat) (p0 : Int32) : Met l yX11_runStack wq_X11_runStack ({ frames := 0, cells := 0, slots := 0, locals := 0 }) (va_Pc [.ref h0, .int p0] (pz_pre dC dI [(cyI, .int)] [(h0, .inr (10, [.ref pr, .ref ck, .ref tu, .ref sm, .ref rm])), (pr, .inr (5, [.ref p_args, .ref p_locals, .ref p_starts, .ref p_lengths, .ref p_ops, .ref p_numbers, .ref p_depths, .int 0, .int 0, .int 0]))] sz)) (va_Qi (S := Unit) (fun (r : Int32) _ => r = (-1)) (fun _ _ => True) (va_A [(h0, .inr (10, [.ref pr, .ref ck, .ref tu, .ref sm, .ref rm])), (pr, .inr (5, [.ref p_args, .ref p_locals, .ref p_starts, .ref p_lengths, .ref p_ops, .ref p_numbers, .ref p_depths, .int 0, .int 0, .int 0]))] sz)) 0 0 (va_A [(h0, .inr (10, [.ref pr, .ref ck, .ref tu, .ref sm, .ref rm])), (pr, .inr (5, [.ref p_args, .ref p_locals, .ref p_starts, .ref p_lengths, .ref p_ops, .ref p_numbers, .ref p_depths, .int 0, .int 0, .int 0]))] sz) := by
  refine Met.ofW (cc := cX11_runStack) (maxL := 2) (ret := (some .int)) (by decide) rfl ?_
  intro p e s m args below meth c s₁ B hml hv
  obtain ⟨rfl, hsz, hP, hK, hD0, hNW⟩ := hv
  have hx := B.exec
  have hb := B.bytes
  have hr := B.returns
  have hts := atoms_spec (ws := wq_X11_runStack) B.pre
  have hown : s.vm.findClass RX11 = some m.cls := findClass_of_methodNamed B.named
  have hlocks := B.notSynchronized
  have hiX11 : ∀ w ∈ wsX110, w ∈ wq_X11_runStack := by decide +kernel
  have hiX6 : ∀ w ∈ wsX60, w ∈ wq_X11_runStack := by decide +kernel
  subst hsz
  have hD := hD0.self (sz := s.heap.size)
  generalize hAe : va_A [(h0, .inr (10, [.ref pr, .ref ck, .ref tu, .ref sm, .ref rm])), (pr, .inr (5, [.ref p_args, .ref p_locals, .ref p_starts, .ref p_lengths, .ref p_ops, .ref p_numbers, .ref p_depths, .int 0, .int 0, .int 0]))] s.heap.size = A at hD ⊢
  have hA : ∀ q : Nat, s.heap.size ≤ q → A q := fun q h => by rw [← hAe]; exact Or.inr h
  have hS : va_S A s.heap s.heap [] := va_S.rf
  have hl := lv_entry ([.ref h0, .int p0]) (n := 2) (Nat.le_of_ble_eq_true rfl)
  rw [lg_entry_eq]
  generalize (lg_sl ([.ref h0, .int p0]) ++ List.replicate (2 - (lg_sl ([.ref h0, .int p0])).length) Slot.unset).toArray = ls at hl ⊢
  have hl : lv_has ls 2 [(0, .ref h0), (1, .int p0)] := hl
  refine lv_aload_n hx hb dX11_runStack_0 rfl (lv_at hl 0 rfl) ?_
  refine va_get (D := (dC, dI)) (ci := 10) (v := .ref pr) (C := RX11) (T := TX11) (N := 5) hx hb hts hiX11 hown hK hP 0 rfl rfl 0 (by decide) (hts (.fieldLink RX11 12 "RegisterMill" "program" "LRegisterMill$Program;") (by decide +kernel)) (fun _ h9 => h9) rfl dX11_runStack_1 ?_
  refine va_get (D := (dC, dI)) (ci := 5) (v := .int 0) (C := RX6) (T := TX6) (N := 10) hx hb hts hiX6 hown hK hP 1 rfl rfl 9 (by decide) (hts (.fieldLink RX11 51 "RegisterMill$Program" "checked" "Z") (by decide +kernel)) (fun _ h9 => h9) rfl dX11_runStack_4 ?_
  refine lv_if_eq (tgt := 22) hx hb dX11_runStack_7 (by decide) (fun _ => ?_) (fun h => absurd h (by decide))
  refine lv_iconst (v := -1) hx hb dX11_runStack_22 (by decide) ?_
  have h9 : (-1 : Int32) = (-1) := rfl
  exact W.iret (v := (-1)) hx hb hr (fun t ht hW => ⟨⟨_, (), rfl, h9, trivial⟩, hS.F ht⟩) hS.2.2 dX11_runStack_23

def wq_X11_runRegisters : List Cond := .code yX11_runRegisters cX11_runRegisters 2 (some .int) :: ([.fieldLink RX11 28 "RegisterMill" "turner" "LRegisterMill$Turner;", .fieldLink RX11 90 "RegisterMill$Turner" "registers" "I"] ++ wsX110 ++ wsX90)
set_option maxHeartbeats 4000000 in
set_option maxRecDepth 100000 in
/-- runRegisters on a fresh object -/
theorem c_X11_runRegisters (l : Launch) (dC : Nat → ClassId) (dI : Nat → Nat → Nat) (cyI : ClassId) (sz : Nat) (h0 : Nat) (pr : Nat) (ck : Nat) (tu : Nat) (sm : Nat) (rm : Nat) (t_places : Nat) (t_live : Nat) (t_homes : Nat) (t_code : Nat) (t_writer : Nat) (t_placeCounts : Nat) (p0 : Int32) : Met l yX11_runRegisters wq_X11_runRegisters ({ frames := 0, cells := 0, slots := 0, locals := 0 }) (va_Pc [.ref h0, .int p0] (pz_pre dC dI [(cyI, .int)] [(h0, .inr (10, [.ref pr, .ref ck, .ref tu, .ref sm, .ref rm])), (tu, .inr (8, [.ref pr, .ref t_places, .ref t_live, .ref t_homes, .ref t_code, .ref t_writer, .ref t_placeCounts, .int 0]))] sz)) (va_Qi (S := Unit) (fun (r : Int32) _ => r = (-1)) (fun _ _ => True) (va_A [(h0, .inr (10, [.ref pr, .ref ck, .ref tu, .ref sm, .ref rm])), (tu, .inr (8, [.ref pr, .ref t_places, .ref t_live, .ref t_homes, .ref t_code, .ref t_writer, .ref t_placeCounts, .int 0]))] sz)) 0 0 (va_A [(h0, .inr (10, [.ref pr, .ref ck, .ref tu, .ref sm, .ref rm])), (tu, .inr (8, [.ref pr, .ref t_places, .ref t_live, .ref t_homes, .ref t_code, .ref t_writer, .ref t_placeCounts, .int 0]))] sz) := by
  refine Met.ofW (cc := cX11_runRegisters) (maxL := 2) (ret := (some .int)) (by decide) rfl ?_
  intro p e s m args below meth c s₁ B hml hv
  obtain ⟨rfl, hsz, hP, hK, hD0, hNW⟩ := hv
  have hx := B.exec
  have hb := B.bytes
  have hr := B.returns
  have hts := atoms_spec (ws := wq_X11_runRegisters) B.pre
  have hown : s.vm.findClass RX11 = some m.cls := findClass_of_methodNamed B.named
  have hlocks := B.notSynchronized
  have hiX11 : ∀ w ∈ wsX110, w ∈ wq_X11_runRegisters := by decide +kernel
  have hiX9 : ∀ w ∈ wsX90, w ∈ wq_X11_runRegisters := by decide +kernel
  subst hsz
  have hD := hD0.self (sz := s.heap.size)
  generalize hAe : va_A [(h0, .inr (10, [.ref pr, .ref ck, .ref tu, .ref sm, .ref rm])), (tu, .inr (8, [.ref pr, .ref t_places, .ref t_live, .ref t_homes, .ref t_code, .ref t_writer, .ref t_placeCounts, .int 0]))] s.heap.size = A at hD ⊢
  have hA : ∀ q : Nat, s.heap.size ≤ q → A q := fun q h => by rw [← hAe]; exact Or.inr h
  have hS : va_S A s.heap s.heap [] := va_S.rf
  have hl := lv_entry ([.ref h0, .int p0]) (n := 2) (Nat.le_of_ble_eq_true rfl)
  rw [lg_entry_eq]
  generalize (lg_sl ([.ref h0, .int p0]) ++ List.replicate (2 - (lg_sl ([.ref h0, .int p0])).length) Slot.unset).toArray = ls at hl ⊢
  have hl : lv_has ls 2 [(0, .ref h0), (1, .int p0)] := hl
  refine lv_aload_n hx hb dX11_runRegisters_0 rfl (lv_at hl 0 rfl) ?_
  refine va_get (D := (dC, dI)) (ci := 10) (v := .ref tu) (C := RX11) (T := TX11) (N := 5) hx hb hts hiX11 hown hK hP 0 rfl rfl 2 (by decide) (hts (.fieldLink RX11 28 "RegisterMill" "turner" "LRegisterMill$Turner;") (by decide +kernel)) (fun _ h9 => h9) rfl dX11_runRegisters_1 ?_
  refine va_get (D := (dC, dI)) (ci := 8) (v := .int 0) (C := RX9) (T := TX9) (N := 8) hx hb hts hiX9 hown hK hP 1 rfl rfl 7 (by decide) (hts (.fieldLink RX11 90 "RegisterMill$Turner" "registers" "I") (by decide +kernel)) (fun _ h9 => h9) rfl dX11_runRegisters_4 ?_
  refine lv_if_eq (tgt := 22) hx hb dX11_runRegisters_7 (by decide) (fun _ => ?_) (fun h => absurd h (by decide))
  refine lv_iconst (v := -1) hx hb dX11_runRegisters_22 (by decide) ?_
  have h9 : (-1 : Int32) = (-1) := rfl
  exact W.iret (v := (-1)) hx hb hr (fun t ht hW => ⟨⟨_, (), rfl, h9, trivial⟩, hS.F ht⟩) hS.2.2 dX11_runRegisters_23

def wq_X11_count : List Cond := .code yX11_count cX11_count 2 (some .int) :: ([.fieldLink RX11 12 "RegisterMill" "program" "LRegisterMill$Program;", .fieldLink RX11 55 "RegisterMill$Program" "funcs" "I", .fieldLink RX11 63 "RegisterMill$Program" "words" "I", .fieldLink RX11 51 "RegisterMill$Program" "checked" "Z", .fieldLink RX11 28 "RegisterMill" "turner" "LRegisterMill$Turner;", .fieldLink RX11 90 "RegisterMill$Turner" "registers" "I"] ++ wsX110 ++ wsX60 ++ wsX90)
set_option maxHeartbeats 4000000 in
set_option maxRecDepth 100000 in
/-- count on a fresh object -/
theorem c_X11_count (l : Launch) (dC : Nat → ClassId) (dI : Nat → Nat → Nat) (cyI : ClassId) (sz : Nat) (h0 : Nat) (pr : Nat) (ck : Nat) (tu : Nat) (sm : Nat) (rm : Nat) (p_args : Nat) (p_locals : Nat) (p_starts : Nat) (p_lengths : Nat) (p_ops : Nat) (p_numbers : Nat) (p_depths : Nat) (t_places : Nat) (t_live : Nat) (t_homes : Nat) (t_code : Nat) (t_writer : Nat) (t_placeCounts : Nat) (p0 : Int32) : Met l yX11_count wq_X11_count ({ frames := 0, cells := 0, slots := 0, locals := 0 }) (va_Pc [.ref h0, .int p0] (pz_pre dC dI [(cyI, .int)] [(h0, .inr (10, [.ref pr, .ref ck, .ref tu, .ref sm, .ref rm])), (pr, .inr (5, [.ref p_args, .ref p_locals, .ref p_starts, .ref p_lengths, .ref p_ops, .ref p_numbers, .ref p_depths, .int 0, .int 0, .int 0])), (tu, .inr (8, [.ref pr, .ref t_places, .ref t_live, .ref t_homes, .ref t_code, .ref t_writer, .ref t_placeCounts, .int 0]))] sz)) (va_Qi (S := Unit) (fun (r : Int32) _ => r = fz_tell p0) (fun _ _ => True) (va_A [(h0, .inr (10, [.ref pr, .ref ck, .ref tu, .ref sm, .ref rm])), (pr, .inr (5, [.ref p_args, .ref p_locals, .ref p_starts, .ref p_lengths, .ref p_ops, .ref p_numbers, .ref p_depths, .int 0, .int 0, .int 0])), (tu, .inr (8, [.ref pr, .ref t_places, .ref t_live, .ref t_homes, .ref t_code, .ref t_writer, .ref t_placeCounts, .int 0]))] sz)) 0 0 (va_A [(h0, .inr (10, [.ref pr, .ref ck, .ref tu, .ref sm, .ref rm])), (pr, .inr (5, [.ref p_args, .ref p_locals, .ref p_starts, .ref p_lengths, .ref p_ops, .ref p_numbers, .ref p_depths, .int 0, .int 0, .int 0])), (tu, .inr (8, [.ref pr, .ref t_places, .ref t_live, .ref t_homes, .ref t_code, .ref t_writer, .ref t_placeCounts, .int 0]))] sz) := by
  refine Met.ofW (cc := cX11_count) (maxL := 2) (ret := (some .int)) (by decide) rfl ?_
  intro p e s m args below meth c s₁ B hml hv
  obtain ⟨rfl, hsz, hP, hK, hD0, hNW⟩ := hv
  have hx := B.exec
  have hb := B.bytes
  have hr := B.returns
  have hts := atoms_spec (ws := wq_X11_count) B.pre
  have hown : s.vm.findClass RX11 = some m.cls := findClass_of_methodNamed B.named
  have hlocks := B.notSynchronized
  have hiX11 : ∀ w ∈ wsX110, w ∈ wq_X11_count := by decide +kernel
  have hiX6 : ∀ w ∈ wsX60, w ∈ wq_X11_count := by decide +kernel
  have hiX9 : ∀ w ∈ wsX90, w ∈ wq_X11_count := by decide +kernel
  subst hsz
  have hD := hD0.self (sz := s.heap.size)
  generalize hAe : va_A [(h0, .inr (10, [.ref pr, .ref ck, .ref tu, .ref sm, .ref rm])), (pr, .inr (5, [.ref p_args, .ref p_locals, .ref p_starts, .ref p_lengths, .ref p_ops, .ref p_numbers, .ref p_depths, .int 0, .int 0, .int 0])), (tu, .inr (8, [.ref pr, .ref t_places, .ref t_live, .ref t_homes, .ref t_code, .ref t_writer, .ref t_placeCounts, .int 0]))] s.heap.size = A at hD ⊢
  have hA : ∀ q : Nat, s.heap.size ≤ q → A q := fun q h => by rw [← hAe]; exact Or.inr h
  have hS : va_S A s.heap s.heap [] := va_S.rf
  have hl := lv_entry ([.ref h0, .int p0]) (n := 2) (Nat.le_of_ble_eq_true rfl)
  rw [lg_entry_eq]
  generalize (lg_sl ([.ref h0, .int p0]) ++ List.replicate (2 - (lg_sl ([.ref h0, .int p0])).length) Slot.unset).toArray = ls at hl ⊢
  have hl : lv_has ls 2 [(0, .ref h0), (1, .int p0)] := hl
  refine lv_iload_n hx hb dX11_count_0 rfl (lv_at hl 1 rfl) ?_
  rcases pz_sw4 p0 with w_1 | w_1 | w_1 | w_1 | w_1 | w_1
  · refine lv_tableIn (off := 35) (tgt := 36) hx hb dX11_count_1 (by rw [w_1]; decide) (by rw [w_1]; decide) (by rw [w_1]; rfl) (by decide) ?_
    refine lv_aload_n hx hb dX11_count_36 rfl (lv_at hl 0 rfl) ?_
    refine va_get (D := (dC, dI)) (ci := 10) (v := .ref pr) (C := RX11) (T := TX11) (N := 5) hx hb hts hiX11 hown hK hP 0 rfl rfl 0 (by decide) (hts (.fieldLink RX11 12 "RegisterMill" "program" "LRegisterMill$Program;") (by decide +kernel)) (fun _ h9 => h9) rfl dX11_count_37 ?_
    refine va_get (D := (dC, dI)) (ci := 5) (v := .int 0) (C := RX6) (T := TX6) (N := 10) hx hb hts hiX6 hown hK hP 1 rfl rfl 7 (by decide) (hts (.fieldLink RX11 55 "RegisterMill$Program" "funcs" "I") (by decide +kernel)) (fun _ h9 => h9) rfl dX11_count_40 ?_
    have h9 : (0 : Int32) = fz_tell p0 := by simp [fz_tell, w_1]
    exact W.iret (v := (0)) hx hb hr (fun t ht hW => ⟨⟨_, (), rfl, h9, trivial⟩, hS.F ht⟩) hS.2.2 dX11_count_43
  · refine lv_tableIn (off := 43) (tgt := 44) hx hb dX11_count_1 (by rw [w_1]; decide) (by rw [w_1]; decide) (by rw [w_1]; rfl) (by decide) ?_
    refine lv_aload_n hx hb dX11_count_44 rfl (lv_at hl 0 rfl) ?_
    refine va_get (D := (dC, dI)) (ci := 10) (v := .ref pr) (C := RX11) (T := TX11) (N := 5) hx hb hts hiX11 hown hK hP 0 rfl rfl 0 (by decide) (hts (.fieldLink RX11 12 "RegisterMill" "program" "LRegisterMill$Program;") (by decide +kernel)) (fun _ h9 => h9) rfl dX11_count_45 ?_
    refine va_get (D := (dC, dI)) (ci := 5) (v := .int 0) (C := RX6) (T := TX6) (N := 10) hx hb hts hiX6 hown hK hP 1 rfl rfl 8 (by decide) (hts (.fieldLink RX11 63 "RegisterMill$Program" "words" "I") (by decide +kernel)) (fun _ h9 => h9) rfl dX11_count_48 ?_
    have h9 : (0 : Int32) = fz_tell p0 := by simp [fz_tell, w_1]
    exact W.iret (v := (0)) hx hb hr (fun t ht hW => ⟨⟨_, (), rfl, h9, trivial⟩, hS.F ht⟩) hS.2.2 dX11_count_51
  · refine lv_tableIn (off := 51) (tgt := 52) hx hb dX11_count_1 (by rw [w_1]; decide) (by rw [w_1]; decide) (by rw [w_1]; rfl) (by decide) ?_
    refine lv_aload_n hx hb dX11_count_52 rfl (lv_at hl 0 rfl) ?_
    refine va_get (D := (dC, dI)) (ci := 10) (v := .ref pr) (C := RX11) (T := TX11) (N := 5) hx hb hts hiX11 hown hK hP 0 rfl rfl 0 (by decide) (hts (.fieldLink RX11 12 "RegisterMill" "program" "LRegisterMill$Program;") (by decide +kernel)) (fun _ h9 => h9) rfl dX11_count_53 ?_
    refine va_get (D := (dC, dI)) (ci := 5) (v := .int 0) (C := RX6) (T := TX6) (N := 10) hx hb hts hiX6 hown hK hP 1 rfl rfl 9 (by decide) (hts (.fieldLink RX11 51 "RegisterMill$Program" "checked" "Z") (by decide +kernel)) (fun _ h9 => h9) rfl dX11_count_56 ?_
    refine lv_if_eq (tgt := 66) hx hb dX11_count_59 (by decide) (fun _ => ?_) (fun h => absurd h (by decide))
    refine lv_iconst (v := 0) hx hb dX11_count_66 (by decide) ?_
    have h9 : (0 : Int32) = fz_tell p0 := by simp [fz_tell, w_1]
    exact W.iret (v := (0)) hx hb hr (fun t ht hW => ⟨⟨_, (), rfl, h9, trivial⟩, hS.F ht⟩) hS.2.2 dX11_count_67
  · refine lv_tableIn (off := 67) (tgt := 68) hx hb dX11_count_1 (by rw [w_1]; decide) (by rw [w_1]; decide) (by rw [w_1]; rfl) (by decide) ?_
    refine lv_aload_n hx hb dX11_count_68 rfl (lv_at hl 0 rfl) ?_
    refine va_get (D := (dC, dI)) (ci := 10) (v := .ref tu) (C := RX11) (T := TX11) (N := 5) hx hb hts hiX11 hown hK hP 0 rfl rfl 2 (by decide) (hts (.fieldLink RX11 28 "RegisterMill" "turner" "LRegisterMill$Turner;") (by decide +kernel)) (fun _ h9 => h9) rfl dX11_count_69 ?_
    refine va_get (D := (dC, dI)) (ci := 8) (v := .int 0) (C := RX9) (T := TX9) (N := 8) hx hb hts hiX9 hown hK hP 2 rfl rfl 7 (by decide) (hts (.fieldLink RX11 90 "RegisterMill$Turner" "registers" "I") (by decide +kernel)) (fun _ h9 => h9) rfl dX11_count_72 ?_
    have h9 : (0 : Int32) = fz_tell p0 := by simp [fz_tell, w_1]
    exact W.iret (v := (0)) hx hb hr (fun t ht hW => ⟨⟨_, (), rfl, h9, trivial⟩, hS.F ht⟩) hS.2.2 dX11_count_75
  · refine lv_tableIn (off := 75) (tgt := 76) hx hb dX11_count_1 (by rw [w_1]; decide) (by rw [w_1]; decide) (by rw [w_1]; rfl) (by decide) ?_
    refine lv_aload_n hx hb dX11_count_76 rfl (lv_at hl 0 rfl) ?_
    refine va_get (D := (dC, dI)) (ci := 10) (v := .ref tu) (C := RX11) (T := TX11) (N := 5) hx hb hts hiX11 hown hK hP 0 rfl rfl 2 (by decide) (hts (.fieldLink RX11 28 "RegisterMill" "turner" "LRegisterMill$Turner;") (by decide +kernel)) (fun _ h9 => h9) rfl dX11_count_77 ?_
    refine va_get (D := (dC, dI)) (ci := 8) (v := .int 0) (C := RX9) (T := TX9) (N := 8) hx hb hts hiX9 hown hK hP 2 rfl rfl 7 (by decide) (hts (.fieldLink RX11 90 "RegisterMill$Turner" "registers" "I") (by decide +kernel)) (fun _ h9 => h9) rfl dX11_count_80 ?_
    refine lv_if_ne (tgt := 90) hx hb dX11_count_83 (by decide) (fun h => absurd h (by decide)) (fun _ => ?_)
    refine lv_iconst (v := 0) hx hb dX11_count_86 (by decide) ?_
    refine lv_goto (tgt := 100) hx hb dX11_count_87 (by decide) ?_
    have h9 : (0 : Int32) = fz_tell p0 := by simp [fz_tell, w_1]
    exact W.iret (v := (0)) hx hb hr (fun t ht hW => ⟨⟨_, (), rfl, h9, trivial⟩, hS.F ht⟩) hS.2.2 dX11_count_100
  · refine lv_tableOut (tgt := 101) hx hb dX11_count_1 w_1.1 (by decide) ?_
    refine lv_iconst (v := -1) hx hb dX11_count_101 (by decide) ?_
    have h9 : (-1 : Int32) = fz_tell p0 := by simp [fz_tell, w_1.2]
    exact W.iret (v := (-1)) hx hb hr (fun t ht hW => ⟨⟨_, (), rfl, h9, trivial⟩, hS.F ht⟩) hS.2.2 dX11_count_102

def wq_X11_look : List Cond := .code yX11_look cX11_look 3 (some .int) :: ([.code yX11_machineOf cX11_machineOf 2 (some (.object "RegisterMill$Machine")), .fieldLink RX11 35 "RegisterMill" "stackMachine" "LRegisterMill$Machine;", .methodLink RX11 160 yX11_machineOf, .instanceMethod yX11_machineOf, .selects RX11 yX11_machineOf yX11_machineOf, .initialized RX11, .code yX4_tell cX4_tell 2 (some .int), .fieldLink RX4 21 "RegisterMill$Machine" "end" "I", .fieldLink RX4 25 "RegisterMill$Machine" "told" "I", .fieldLink RX4 28 "RegisterMill$Machine" "steps" "I", .fieldLink RX4 31 "RegisterMill$Machine" "calls" "I", .fieldLink RX4 34 "RegisterMill$Machine" "nested" "I", .methodLink RX11 164 ⟨"RegisterMill$Machine", "tell", "(I)I"⟩, .sameMethod "RegisterMill$Machine" "RegisterMill$Machine" "tell" "(I)I", .selects RX8 ⟨"RegisterMill$Machine", "tell", "(I)I"⟩ yX4_tell, .instanceMethod yX4_tell, .initialized RX4, .fieldLink RX11 48 "RegisterMill" "registerMachine" "LRegisterMill$Machine;", .selects RX7 ⟨"RegisterMill$Machine", "tell", "(I)I"⟩ yX4_tell] ++ wsX110 ++ wsX80 ++ wsX70)
set_option maxRecDepth 20000 in
theorem gq_X11_look_X11_machineOf_0_160 : GoodIn wq_X11_look (wsV RX11 160 RX11 yX11_machineOf wq_X11_machineOf_0) := goodIn_r _ [3, 4, 5, 6, 1, 2, 20, 21, 22, 23, 24] (by decide +kernel) (by decide +kernel)
set_option maxRecDepth 20000 in
theorem gq_X11_look_X4_tell_X8_164X8 : GoodIn wq_X11_look (va_wsU RX11 164 RX8 "RegisterMill$Machine" ⟨"RegisterMill$Machine", "tell", "(I)I"⟩ yX4_tell wq_X4_tell_X8) := goodIn_r _ [13, 14, 15, 16, 17, 7, 8, 9, 10, 11, 12, 25, 26, 27, 28, 29, 30, 31, 32, 33, 34, 35, 36, 37] (by decide +kernel) (by decide +kernel)
set_option maxRecDepth 20000 in
theorem gq_X11_look_X11_machineOf_1_160 : GoodIn wq_X11_look (wsV RX11 160 RX11 yX11_machineOf wq_X11_machineOf_1) := goodIn_r _ [3, 4, 5, 6, 1, 18, 20, 21, 22, 23, 24] (by decide +kernel) (by decide +kernel)
set_option maxRecDepth 20000 in
theorem gq_X11_look_X4_tell_X7_164X7 : GoodIn wq_X11_look (va_wsU RX11 164 RX7 "RegisterMill$Machine" ⟨"RegisterMill$Machine", "tell", "(I)I"⟩ yX4_tell wq_X4_tell_X7) := goodIn_r _ [13, 14, 19, 16, 17, 7, 8, 9, 10, 11, 12, 38, 39, 40, 41, 42, 43, 44, 45, 46, 47, 48, 49, 50] (by decide +kernel) (by decide +kernel)
set_option maxHeartbeats 4000000 in
set_option maxRecDepth 100000 in
/-- look on a fresh object -/
theorem c_X11_look (l : Launch) (dC : Nat → ClassId) (dI : Nat → Nat → Nat) (cyI : ClassId) (sz : Nat) (h0 : Nat) (pr : Nat) (ck : Nat) (tu : Nat) (sm : Nat) (rm : Nat) (s_memory : Nat) (s_funcs : Nat) (s_nexts : Nat) (s_locals : Nat) (s_stack : Nat) (s_bottoms : Nat) (r_memory : Nat) (r_funcs : Nat) (r_nexts : Nat) (t_code : Nat) (r_registers : Nat) (r_slotCells : Nat) (r_passed : Nat) (p0 : Int32) (p1 : Int32) : Met l yX11_look wq_X11_look ({ frames := 1, cells := 0, slots := 0, locals := 21 }) (va_Pc [.ref h0, .int p0, .int p1] (pz_pre dC dI [(cyI, .int)] [(h0, .inr (10, [.ref pr, .ref ck, .ref tu, .ref sm, .ref rm])), (sm, .inr (7, [.ref s_memory, .ref s_funcs, .ref s_nexts, .int 0, .int 0, .int 0, .int 0, .int 0, .ref pr, .ref s_locals, .ref s_stack, .ref s_bottoms, .int 0])), (rm, .inr (6, [.ref r_memory, .ref r_funcs, .ref r_nexts, .int 0, .int 0, .int 0, .int 0, .int 0, .ref t_code, .ref r_registers, .ref r_slotCells, .ref r_passed, .int 0]))] sz)) (va_Qi (S := Unit) (fun (r : Int32) _ => r = fz_look p0 p1) (fun _ _ => True) (va_A [(h0, .inr (10, [.ref pr, .ref ck, .ref tu, .ref sm, .ref rm])), (sm, .inr (7, [.ref s_memory, .ref s_funcs, .ref s_nexts, .int 0, .int 0, .int 0, .int 0, .int 0, .ref pr, .ref s_locals, .ref s_stack, .ref s_bottoms, .int 0])), (rm, .inr (6, [.ref r_memory, .ref r_funcs, .ref r_nexts, .int 0, .int 0, .int 0, .int 0, .int 0, .ref t_code, .ref r_registers, .ref r_slotCells, .ref r_passed, .int 0]))] sz)) 0 0 (va_A [(h0, .inr (10, [.ref pr, .ref ck, .ref tu, .ref sm, .ref rm])), (sm, .inr (7, [.ref s_memory, .ref s_funcs, .ref s_nexts, .int 0, .int 0, .int 0, .int 0, .int 0, .ref pr, .ref s_locals, .ref s_stack, .ref s_bottoms, .int 0])), (rm, .inr (6, [.ref r_memory, .ref r_funcs, .ref r_nexts, .int 0, .int 0, .int 0, .int 0, .int 0, .ref t_code, .ref r_registers, .ref r_slotCells, .ref r_passed, .int 0]))] sz) := by
  refine Met.ofW (cc := cX11_look) (maxL := 3) (ret := (some .int)) (by decide) rfl ?_
  intro p e s m args below meth c s₁ B hml hv
  obtain ⟨rfl, hsz, hP, hK, hD0, hNW⟩ := hv
  have hx := B.exec
  have hb := B.bytes
  have hr := B.returns
  have hts := atoms_spec (ws := wq_X11_look) B.pre
  have hown : s.vm.findClass RX11 = some m.cls := findClass_of_methodNamed B.named
  have hlocks := B.notSynchronized
  have hiX11 : ∀ w ∈ wsX110, w ∈ wq_X11_look := by decide +kernel
  have hiX8 : ∀ w ∈ wsX80, w ∈ wq_X11_look := by decide +kernel
  have hiX7 : ∀ w ∈ wsX70, w ∈ wq_X11_look := by decide +kernel
  subst hsz
  have hD := hD0.self (sz := s.heap.size)
  generalize hAe : va_A [(h0, .inr (10, [.ref pr, .ref ck, .ref tu, .ref sm, .ref rm])), (sm, .inr (7, [.ref s_memory, .ref s_funcs, .ref s_nexts, .int 0, .int 0, .int 0, .int 0, .int 0, .ref pr, .ref s_locals, .ref s_stack, .ref s_bottoms, .int 0])), (rm, .inr (6, [.ref r_memory, .ref r_funcs, .ref r_nexts, .int 0, .int 0, .int 0, .int 0, .int 0, .ref t_code, .ref r_registers, .ref r_slotCells, .ref r_passed, .int 0]))] s.heap.size = A at hD ⊢
  have hA : ∀ q : Nat, s.heap.size ≤ q → A q := fun q h => by rw [← hAe]; exact Or.inr h
  have hS : va_S A s.heap s.heap [] := va_S.rf
  have hl := lv_entry ([.ref h0, .int p0, .int p1]) (n := 3) (Nat.le_of_ble_eq_true rfl)
  rw [lg_entry_eq]
  generalize (lg_sl ([.ref h0, .int p0, .int p1]) ++ List.replicate (3 - (lg_sl ([.ref h0, .int p0, .int p1])).length) Slot.unset).toArray = ls at hl ⊢
  have hl : lv_has ls 3 [(0, .ref h0), (1, .int p0), (2, .int p1)] := hl
  refine lv_iload_n hx hb dX11_look_0 rfl (lv_at hl 1 rfl) ?_
  refine lv_if_lt (tgt := 9) hx hb dX11_look_1 (by decide) (fun c_1 => ?_) (fun c_1 => ?_)
  · refine lv_iconst (v := -1) hx hb dX11_look_9 (by decide) ?_
    have h9 : (-1 : Int32) = fz_look p0 p1 := by simp [fz_look, c_1]
    exact W.iret (v := (-1)) hx hb hr (fun t ht hW => ⟨⟨_, (), rfl, h9, trivial⟩, hS.F ht⟩) hS.2.2 dX11_look_10
  · refine lv_iload_n hx hb dX11_look_4 rfl (lv_at hl 1 rfl) ?_
    refine lv_iconst (v := 1) hx hb dX11_look_5 (by decide) ?_
    refine lv_icmp_le (tgt := 11) hx hb dX11_look_6 (by decide) (fun c_2 => ?_) (fun c_2 => ?_)
    · refine lv_aload_n hx hb dX11_look_11 rfl (lv_at hl 0 rfl) ?_
      refine lv_iload_n hx hb dX11_look_12 rfl (lv_at hl 1 rfl) ?_
      rcases pz_01 c_1 (pz_ngt c_2) with rfl | rfl
      · skip
        have hPc := hP.sub (ws' := [(h0, .inr (10, [.ref pr, .ref ck, .ref tu, .ref sm, .ref rm]))]) [0] rfl
        have hDc := hD.sub (ws' := [(h0, .inr (10, [.ref pr, .ref ck, .ref tu, .ref sm, .ref rm]))]) [0] (by decide) rfl
        have hKc := hK.sub (tys' := [(cyI, .int)]) [0] rfl
        have hFc := va_free (wc := [(h0, .inr (10, [.ref pr, .ref ck, .ref tu, .ref sm, .ref rm]))]) hD hS hA [0] rfl
        refine va_callr (va_runV (As := [.int 0]) (rest := []) ⟨hx, hb, hml, hown, hts⟩ (c_X11_machineOf_0 l dC dI cyI s.heap.size h0 pr ck tu sm rm) (cwV 1 hts gq_X11_look_X11_machineOf_0_160 rfl rfl rfl (by decide +kernel) ⟨Nat.le_of_ble_eq_true rfl, Nat.le_of_ble_eq_true rfl⟩) ⟨pz_blind, va_recv hKc hPc (ci := 10) (q0 := 0) rfl rfl, pz_to hPc hKc hDc hNW⟩ rfl rfl hl.1 rfl (lv_room (Nat.le_of_ble_eq_true rfl)) dX11_look_13 (by decide)) hS (fun q _ h => hFc q h) hFc (fun u r_3 t H1 locs ht hvm hw hB hz1 hk1 hS => ?_)
        obtain ⟨er_3, hP1, hK1, hD1⟩ := hB
        rw [ht] at hP1
        obtain ⟨hP, hD⟩ := va_join (wr := [(sm, .inr (7, [.ref s_memory, .ref s_funcs, .ref s_nexts, .int 0, .int 0, .int 0, .int 0, .int 0, .ref pr, .ref s_locals, .ref s_stack, .ref s_bottoms, .int 0])), (rm, .inr (6, [.ref r_memory, .ref r_funcs, .ref r_nexts, .int 0, .int 0, .int 0, .int 0, .int 0, .ref t_code, .ref r_registers, .ref r_slotCells, .ref r_passed, .int 0]))]) (w1 := [(h0, .inr (10, [.ref pr, .ref ck, .ref tu, .ref sm, .ref rm]))]) hP hD [0] [1, 2] rfl rfl (by decide) (by decide) hk1 hFc hP1 hD1
        generalize H1 = H at hP hS ⊢
        have hP : va_P (dC, dI) vwCl [(sm, .inr (7, [.ref s_memory, .ref s_funcs, .ref s_nexts, .int 0, .int 0, .int 0, .int 0, .int 0, .ref pr, .ref s_locals, .ref s_stack, .ref s_bottoms, .int 0])), (rm, .inr (6, [.ref r_memory, .ref r_funcs, .ref r_nexts, .int 0, .int 0, .int 0, .int 0, .int 0, .ref t_code, .ref r_registers, .ref r_slotCells, .ref r_passed, .int 0])), (h0, .inr (10, [.ref pr, .ref ck, .ref tu, .ref sm, .ref rm]))] H := hP
        have hD : va_D A [(sm, .inr (7, [.ref s_memory, .ref s_funcs, .ref s_nexts, .int 0, .int 0, .int 0, .int 0, .int 0, .ref pr, .ref s_locals, .ref s_stack, .ref s_bottoms, .int 0])), (rm, .inr (6, [.ref r_memory, .ref r_funcs, .ref r_nexts, .int 0, .int 0, .int 0, .int 0, .int 0, .ref t_code, .ref r_registers, .ref r_slotCells, .ref r_passed, .int 0])), (h0, .inr (10, [.ref pr, .ref ck, .ref tu, .ref sm, .ref rm]))] := hD
        have er_3 := er_3.symm
        subst er_3
        refine lv_iload_n hx hb dX11_look_16 rfl (lv_at hl 2 rfl) ?_
        have hPc := hP.sub (ws' := [(sm, .inr (7, [.ref s_memory, .ref s_funcs, .ref s_nexts, .int 0, .int 0, .int 0, .int 0, .int 0, .ref pr, .ref s_locals, .ref s_stack, .ref s_bottoms, .int 0]))]) [0] rfl
        have hDc := hD.sub (ws' := [(sm, .inr (7, [.ref s_memory, .ref s_funcs, .ref s_nexts, .int 0, .int 0, .int 0, .int 0, .int 0, .ref pr, .ref s_locals, .ref s_stack, .ref s_bottoms, .int 0]))]) [0] (by decide) rfl
        have hKc := hK.sub (tys' := [(cyI, .int)]) [0] rfl
        have hFc := va_free (wc := [(sm, .inr (7, [.ref s_memory, .ref s_funcs, .ref s_nexts, .int 0, .int 0, .int 0, .int 0, .int 0, .ref pr, .ref s_locals, .ref s_stack, .ref s_bottoms, .int 0]))]) hD hS hA [0] rfl
        refine va_calli (va_runU (As := [.int p1]) (rest := []) ⟨hx, hb, hml, hown, hts⟩ (c_X4_tell_X8 l dC dI cyI H.size sm s_memory s_funcs s_nexts pr s_locals s_stack s_bottoms p1) (va_cwU 1 hts gq_X11_look_X4_tell_X8_164X8 rfl rfl rfl rfl (by decide +kernel) ⟨Nat.le_of_ble_eq_true rfl, Nat.le_of_ble_eq_true rfl⟩) ⟨pz_blind, va_recv hKc hPc (ci := 7) (q0 := 0) rfl rfl, pz_to hPc hKc hDc hNW⟩ rfl rfl hl.1 rfl (lv_room (Nat.le_of_ble_eq_true rfl)) dX11_look_17 (by decide)) hS (fun q _ h => hFc q h) hFc (fun r_4 u t H1 locs ht hvm hw hB hz1 hk1 hS => ?_)
        obtain ⟨hP1, hK1, hD1⟩ := hB
        rw [ht] at hP1
        obtain ⟨hP, hD⟩ := va_join (wr := [(rm, .inr (6, [.ref r_memory, .ref r_funcs, .ref r_nexts, .int 0, .int 0, .int 0, .int 0, .int 0, .ref t_code, .ref r_registers, .ref r_slotCells, .ref r_passed, .int 0])), (h0, .inr (10, [.ref pr, .ref ck, .ref tu, .ref sm, .ref rm]))]) (w1 := [(sm, .inr (7, [.ref s_memory, .ref s_funcs, .ref s_nexts, .int 0, .int 0, .int 0, .int 0, .int 0, .ref pr, .ref s_locals, .ref s_stack, .ref s_bottoms, .int 0]))]) hP hD [0] [1, 2] rfl rfl (by decide) (by decide) hk1 hFc hP1 hD1
        generalize H1 = H at hP hS ⊢
        have hP : va_P (dC, dI) vwCl [(rm, .inr (6, [.ref r_memory, .ref r_funcs, .ref r_nexts, .int 0, .int 0, .int 0, .int 0, .int 0, .ref t_code, .ref r_registers, .ref r_slotCells, .ref r_passed, .int 0])), (h0, .inr (10, [.ref pr, .ref ck, .ref tu, .ref sm, .ref rm])), (sm, .inr (7, [.ref s_memory, .ref s_funcs, .ref s_nexts, .int 0, .int 0, .int 0, .int 0, .int 0, .ref pr, .ref s_locals, .ref s_stack, .ref s_bottoms, .int 0]))] H := hP
        have hD : va_D A [(rm, .inr (6, [.ref r_memory, .ref r_funcs, .ref r_nexts, .int 0, .int 0, .int 0, .int 0, .int 0, .ref t_code, .ref r_registers, .ref r_slotCells, .ref r_passed, .int 0])), (h0, .inr (10, [.ref pr, .ref ck, .ref tu, .ref sm, .ref rm])), (sm, .inr (7, [.ref s_memory, .ref s_funcs, .ref s_nexts, .int 0, .int 0, .int 0, .int 0, .int 0, .ref pr, .ref s_locals, .ref s_stack, .ref s_bottoms, .int 0]))] := hD
        have er_4 : r_4 = fz_tell p1 := hw
        have h9 : (r_4 : Int32) = fz_look 0 p1 := by rw [fz_look, if_neg (by decide), if_neg (by decide)]; exact er_4
        exact W.iret (v := r_4) hx hb hr (fun t ht hW => ⟨⟨_, (), rfl, h9, trivial⟩, hS.F ht⟩) hS.2.2 dX11_look_20
      · skip
        have hPc := hP.sub (ws' := [(h0, .inr (10, [.ref pr, .ref ck, .ref tu, .ref sm, .ref rm]))]) [0] rfl
        have hDc := hD.sub (ws' := [(h0, .inr (10, [.ref pr, .ref ck, .ref tu, .ref sm, .ref rm]))]) [0] (by decide) rfl
        have hKc := hK.sub (tys' := [(cyI, .int)]) [0] rfl
        have hFc := va_free (wc := [(h0, .inr (10, [.ref pr, .ref ck, .ref tu, .ref sm, .ref rm]))]) hD hS hA [0] rfl
        refine va_callr (va_runV (As := [.int 1]) (rest := []) ⟨hx, hb, hml, hown, hts⟩ (c_X11_machineOf_1 l dC dI cyI s.heap.size h0 pr ck tu sm rm) (cwV 1 hts gq_X11_look_X11_machineOf_1_160 rfl rfl rfl (by decide +kernel) ⟨Nat.le_of_ble_eq_true rfl, Nat.le_of_ble_eq_true rfl⟩) ⟨pz_blind, va_recv hKc hPc (ci := 10) (q0 := 0) rfl rfl, pz_to hPc hKc hDc hNW⟩ rfl rfl hl.1 rfl (lv_room (Nat.le_of_ble_eq_true rfl)) dX11_look_13 (by decide)) hS (fun q _ h => hFc q h) hFc (fun u r_5 t H1 locs ht hvm hw hB hz1 hk1 hS => ?_)
        obtain ⟨er_5, hP1, hK1, hD1⟩ := hB
        rw [ht] at hP1
        obtain ⟨hP, hD⟩ := va_join (wr := [(sm, .inr (7, [.ref s_memory, .ref s_funcs, .ref s_nexts, .int 0, .int 0, .int 0, .int 0, .int 0, .ref pr, .ref s_locals, .ref s_stack, .ref s_bottoms, .int 0])), (rm, .inr (6, [.ref r_memory, .ref r_funcs, .ref r_nexts, .int 0, .int 0, .int 0, .int 0, .int 0, .ref t_code, .ref r_registers, .ref r_slotCells, .ref r_passed, .int 0]))]) (w1 := [(h0, .inr (10, [.ref pr, .ref ck, .ref tu, .ref sm, .ref rm]))]) hP hD [0] [1, 2] rfl rfl (by decide) (by decide) hk1 hFc hP1 hD1
        generalize H1 = H at hP hS ⊢
        have hP : va_P (dC, dI) vwCl [(sm, .inr (7, [.ref s_memory, .ref s_funcs, .ref s_nexts, .int 0, .int 0, .int 0, .int 0, .int 0, .ref pr, .ref s_locals, .ref s_stack, .ref s_bottoms, .int 0])), (rm, .inr (6, [.ref r_memory, .ref r_funcs, .ref r_nexts, .int 0, .int 0, .int 0, .int 0, .int 0, .ref t_code, .ref r_registers, .ref r_slotCells, .ref r_passed, .int 0])), (h0, .inr (10, [.ref pr, .ref ck, .ref tu, .ref sm, .ref rm]))] H := hP
        have hD : va_D A [(sm, .inr (7, [.ref s_memory, .ref s_funcs, .ref s_nexts, .int 0, .int 0, .int 0, .int 0, .int 0, .ref pr, .ref s_locals, .ref s_stack, .ref s_bottoms, .int 0])), (rm, .inr (6, [.ref r_memory, .ref r_funcs, .ref r_nexts, .int 0, .int 0, .int 0, .int 0, .int 0, .ref t_code, .ref r_registers, .ref r_slotCells, .ref r_passed, .int 0])), (h0, .inr (10, [.ref pr, .ref ck, .ref tu, .ref sm, .ref rm]))] := hD
        have er_5 := er_5.symm
        subst er_5
        refine lv_iload_n hx hb dX11_look_16 rfl (lv_at hl 2 rfl) ?_
        have hPc := hP.sub (ws' := [(rm, .inr (6, [.ref r_memory, .ref r_funcs, .ref r_nexts, .int 0, .int 0, .int 0, .int 0, .int 0, .ref t_code, .ref r_registers, .ref r_slotCells, .ref r_passed, .int 0]))]) [1] rfl
        have hDc := hD.sub (ws' := [(rm, .inr (6, [.ref r_memory, .ref r_funcs, .ref r_nexts, .int 0, .int 0, .int 0, .int 0, .int 0, .ref t_code, .ref r_registers, .ref r_slotCells, .ref r_passed, .int 0]))]) [1] (by decide) rfl
        have hKc := hK.sub (tys' := [(cyI, .int)]) [0] rfl
        have hFc := va_free (wc := [(rm, .inr (6, [.ref r_memory, .ref r_funcs, .ref r_nexts, .int 0, .int 0, .int 0, .int 0, .int 0, .ref t_code, .ref r_registers, .ref r_slotCells, .ref r_passed, .int 0]))]) hD hS hA [1] rfl
        refine va_calli (va_runU (As := [.int p1]) (rest := []) ⟨hx, hb, hml, hown, hts⟩ (c_X4_tell_X7 l dC dI cyI H.size rm r_memory r_funcs r_nexts t_code r_registers r_slotCells r_passed p1) (va_cwU 1 hts gq_X11_look_X4_tell_X7_164X7 rfl rfl rfl rfl (by decide +kernel) ⟨Nat.le_of_ble_eq_true rfl, Nat.le_of_ble_eq_true rfl⟩) ⟨pz_blind, va_recv hKc hPc (ci := 6) (q0 := 0) rfl rfl, pz_to hPc hKc hDc hNW⟩ rfl rfl hl.1 rfl (lv_room (Nat.le_of_ble_eq_true rfl)) dX11_look_17 (by decide)) hS (fun q _ h => hFc q h) hFc (fun r_6 u t H1 locs ht hvm hw hB hz1 hk1 hS => ?_)
        obtain ⟨hP1, hK1, hD1⟩ := hB
        rw [ht] at hP1
        obtain ⟨hP, hD⟩ := va_join (wr := [(sm, .inr (7, [.ref s_memory, .ref s_funcs, .ref s_nexts, .int 0, .int 0, .int 0, .int 0, .int 0, .ref pr, .ref s_locals, .ref s_stack, .ref s_bottoms, .int 0])), (h0, .inr (10, [.ref pr, .ref ck, .ref tu, .ref sm, .ref rm]))]) (w1 := [(rm, .inr (6, [.ref r_memory, .ref r_funcs, .ref r_nexts, .int 0, .int 0, .int 0, .int 0, .int 0, .ref t_code, .ref r_registers, .ref r_slotCells, .ref r_passed, .int 0]))]) hP hD [1] [0, 2] rfl rfl (by decide) (by decide) hk1 hFc hP1 hD1
        generalize H1 = H at hP hS ⊢
        have hP : va_P (dC, dI) vwCl [(sm, .inr (7, [.ref s_memory, .ref s_funcs, .ref s_nexts, .int 0, .int 0, .int 0, .int 0, .int 0, .ref pr, .ref s_locals, .ref s_stack, .ref s_bottoms, .int 0])), (h0, .inr (10, [.ref pr, .ref ck, .ref tu, .ref sm, .ref rm])), (rm, .inr (6, [.ref r_memory, .ref r_funcs, .ref r_nexts, .int 0, .int 0, .int 0, .int 0, .int 0, .ref t_code, .ref r_registers, .ref r_slotCells, .ref r_passed, .int 0]))] H := hP
        have hD : va_D A [(sm, .inr (7, [.ref s_memory, .ref s_funcs, .ref s_nexts, .int 0, .int 0, .int 0, .int 0, .int 0, .ref pr, .ref s_locals, .ref s_stack, .ref s_bottoms, .int 0])), (h0, .inr (10, [.ref pr, .ref ck, .ref tu, .ref sm, .ref rm])), (rm, .inr (6, [.ref r_memory, .ref r_funcs, .ref r_nexts, .int 0, .int 0, .int 0, .int 0, .int 0, .ref t_code, .ref r_registers, .ref r_slotCells, .ref r_passed, .int 0]))] := hD
        have er_6 : r_6 = fz_tell p1 := hw
        have h9 : (r_6 : Int32) = fz_look 1 p1 := by rw [fz_look, if_neg (by decide), if_neg (by decide)]; exact er_6
        exact W.iret (v := r_6) hx hb hr (fun t ht hW => ⟨⟨_, (), rfl, h9, trivial⟩, hS.F ht⟩) hS.2.2 dX11_look_20
    · refine lv_iconst (v := -1) hx hb dX11_look_9 (by decide) ?_
      have h9 : (-1 : Int32) = fz_look p0 p1 := by simp [fz_look, c_1, c_2, (pz_ngu c_2)]
      exact W.iret (v := (-1)) hx hb hr (fun t ht hW => ⟨⟨_, (), rfl, h9, trivial⟩, hS.F ht⟩) hS.2.2 dX11_look_10

def wq_X11_peek_ok : List Cond := .code yX11_peek cX11_peek 3 (some .int) :: ([.code yX11_machineOf cX11_machineOf 2 (some (.object "RegisterMill$Machine")), .fieldLink RX11 35 "RegisterMill" "stackMachine" "LRegisterMill$Machine;", .methodLink RX11 160 yX11_machineOf, .instanceMethod yX11_machineOf, .selects RX11 yX11_machineOf yX11_machineOf, .initialized RX11, .fieldLink RX11 96 "RegisterMill$Machine" "memory" "[I", .fieldLink RX11 48 "RegisterMill" "registerMachine" "LRegisterMill$Machine;"] ++ wsX110 ++ wsX80 ++ wsX70)
set_option maxRecDepth 20000 in
theorem gq_X11_peek_ok_X11_machineOf_0_160 : GoodIn wq_X11_peek_ok (wsV RX11 160 RX11 yX11_machineOf wq_X11_machineOf_0) := goodIn_r _ [3, 4, 5, 6, 1, 2, 9, 10, 11, 12, 13] (by decide +kernel) (by decide +kernel)
set_option maxRecDepth 20000 in
theorem gq_X11_peek_ok_X11_machineOf_1_160 : GoodIn wq_X11_peek_ok (wsV RX11 160 RX11 yX11_machineOf wq_X11_machineOf_1) := goodIn_r _ [3, 4, 5, 6, 1, 8, 9, 10, 11, 12, 13] (by decide +kernel) (by decide +kernel)
set_option maxHeartbeats 4000000 in
set_option maxRecDepth 100000 in
/-- peek at a cell of a fresh object -/
theorem c_X11_peek_ok (l : Launch) (dC : Nat → ClassId) (dI : Nat → Nat → Nat) (cyI : ClassId) (sz : Nat) (h0 : Nat) (pr : Nat) (ck : Nat) (tu : Nat) (sm : Nat) (rm : Nat) (s_memory : Nat) (s_funcs : Nat) (s_nexts : Nat) (s_locals : Nat) (s_stack : Nat) (s_bottoms : Nat) (r_memory : Nat) (r_funcs : Nat) (r_nexts : Nat) (t_code : Nat) (r_registers : Nat) (r_slotCells : Nat) (r_passed : Nat) (p0 : Int32) (p1 : Int32) (g_1 : ¬ p0 < 0) (g_2 : ¬ 1 < p0) (g_3 : ¬ p1 < 0) (g_4 : ¬ 64 ≤ p1) : Met l yX11_peek wq_X11_peek_ok ({ frames := 1, cells := 0, slots := 0, locals := 21 }) (va_Pc [.ref h0, .int p0, .int p1] (pz_pre dC dI [(cyI, .int)] [(h0, .inr (10, [.ref pr, .ref ck, .ref tu, .ref sm, .ref rm])), (sm, .inr (7, [.ref s_memory, .ref s_funcs, .ref s_nexts, .int 0, .int 0, .int 0, .int 0, .int 0, .ref pr, .ref s_locals, .ref s_stack, .ref s_bottoms, .int 0])), (s_memory, .inl (cyI, 64, .inl (fun _ => 0))), (rm, .inr (6, [.ref r_memory, .ref r_funcs, .ref r_nexts, .int 0, .int 0, .int 0, .int 0, .int 0, .ref t_code, .ref r_registers, .ref r_slotCells, .ref r_passed, .int 0])), (r_memory, .inl (cyI, 64, .inl (fun _ => 0)))] sz)) (va_Qi (S := Unit) (fun (r : Int32) _ => r = 0) (fun _ _ => True) (va_A [(h0, .inr (10, [.ref pr, .ref ck, .ref tu, .ref sm, .ref rm])), (sm, .inr (7, [.ref s_memory, .ref s_funcs, .ref s_nexts, .int 0, .int 0, .int 0, .int 0, .int 0, .ref pr, .ref s_locals, .ref s_stack, .ref s_bottoms, .int 0])), (s_memory, .inl (cyI, 64, .inl (fun _ => 0))), (rm, .inr (6, [.ref r_memory, .ref r_funcs, .ref r_nexts, .int 0, .int 0, .int 0, .int 0, .int 0, .ref t_code, .ref r_registers, .ref r_slotCells, .ref r_passed, .int 0])), (r_memory, .inl (cyI, 64, .inl (fun _ => 0)))] sz)) 0 0 (va_A [(h0, .inr (10, [.ref pr, .ref ck, .ref tu, .ref sm, .ref rm])), (sm, .inr (7, [.ref s_memory, .ref s_funcs, .ref s_nexts, .int 0, .int 0, .int 0, .int 0, .int 0, .ref pr, .ref s_locals, .ref s_stack, .ref s_bottoms, .int 0])), (s_memory, .inl (cyI, 64, .inl (fun _ => 0))), (rm, .inr (6, [.ref r_memory, .ref r_funcs, .ref r_nexts, .int 0, .int 0, .int 0, .int 0, .int 0, .ref t_code, .ref r_registers, .ref r_slotCells, .ref r_passed, .int 0])), (r_memory, .inl (cyI, 64, .inl (fun _ => 0)))] sz) := by
  refine Met.ofW (cc := cX11_peek) (maxL := 3) (ret := (some .int)) (by decide) rfl ?_
  intro p e s m args below meth c s₁ B hml hv
  obtain ⟨rfl, hsz, hP, hK, hD0, hNW⟩ := hv
  have hx := B.exec
  have hb := B.bytes
  have hr := B.returns
  have hts := atoms_spec (ws := wq_X11_peek_ok) B.pre
  have hown : s.vm.findClass RX11 = some m.cls := findClass_of_methodNamed B.named
  have hlocks := B.notSynchronized
  have hiX11 : ∀ w ∈ wsX110, w ∈ wq_X11_peek_ok := by decide +kernel
  have hiX8 : ∀ w ∈ wsX80, w ∈ wq_X11_peek_ok := by decide +kernel
  have hiX7 : ∀ w ∈ wsX70, w ∈ wq_X11_peek_ok := by decide +kernel
  subst hsz
  have hD := hD0.self (sz := s.heap.size)
  generalize hAe : va_A [(h0, .inr (10, [.ref pr, .ref ck, .ref tu, .ref sm, .ref rm])), (sm, .inr (7, [.ref s_memory, .ref s_funcs, .ref s_nexts, .int 0, .int 0, .int 0, .int 0, .int 0, .ref pr, .ref s_locals, .ref s_stack, .ref s_bottoms, .int 0])), (s_memory, .inl (cyI, 64, .inl (fun _ => 0))), (rm, .inr (6, [.ref r_memory, .ref r_funcs, .ref r_nexts, .int 0, .int 0, .int 0, .int 0, .int 0, .ref t_code, .ref r_registers, .ref r_slotCells, .ref r_passed, .int 0])), (r_memory, .inl (cyI, 64, .inl (fun _ => 0)))] s.heap.size = A at hD ⊢
  have hA : ∀ q : Nat, s.heap.size ≤ q → A q := fun q h => by rw [← hAe]; exact Or.inr h
  have hS : va_S A s.heap s.heap [] := va_S.rf
  have hl := lv_entry ([.ref h0, .int p0, .int p1]) (n := 3) (Nat.le_of_ble_eq_true rfl)
  rw [lg_entry_eq]
  generalize (lg_sl ([.ref h0, .int p0, .int p1]) ++ List.replicate (3 - (lg_sl ([.ref h0, .int p0, .int p1])).length) Slot.unset).toArray = ls at hl ⊢
  have hl : lv_has ls 3 [(0, .ref h0), (1, .int p0), (2, .int p1)] := hl
  refine lv_iload_n hx hb dX11_peek_0 rfl (lv_at hl 1 rfl) ?_
  refine lv_if_lt (tgt := 19) hx hb dX11_peek_1 (by decide) (fun h => absurd h g_1) (fun _ => ?_)
  refine lv_iload_n hx hb dX11_peek_4 rfl (lv_at hl 1 rfl) ?_
  refine lv_iconst (v := 1) hx hb dX11_peek_5 (by decide) ?_
  refine lv_icmp_gt (tgt := 19) hx hb dX11_peek_6 (by decide) (fun h => absurd h g_2) (fun _ => ?_)
  refine lv_iload_n hx hb dX11_peek_9 rfl (lv_at hl 2 rfl) ?_
  refine lv_if_lt (tgt := 19) hx hb dX11_peek_10 (by decide) (fun h => absurd h g_3) (fun _ => ?_)
  refine lv_iload_n hx hb dX11_peek_13 rfl (lv_at hl 2 rfl) ?_
  refine lv_bipush (v := 64) hx hb dX11_peek_14 (by decide) ?_
  refine lv_icmp_lt (tgt := 29) hx hb dX11_peek_16 (by decide) (fun _ => ?_) (fun h => absurd (pz_ngu g_4) h)
  refine lv_aload_n hx hb dX11_peek_29 rfl (lv_at hl 0 rfl) ?_
  refine lv_iload_n hx hb dX11_peek_30 rfl (lv_at hl 1 rfl) ?_
  rcases pz_01 g_1 g_2 with rfl | rfl
  · skip
    have hPc := hP.sub (ws' := [(h0, .inr (10, [.ref pr, .ref ck, .ref tu, .ref sm, .ref rm]))]) [0] rfl
    have hDc := hD.sub (ws' := [(h0, .inr (10, [.ref pr, .ref ck, .ref tu, .ref sm, .ref rm]))]) [0] (by decide) rfl
    have hKc := hK.sub (tys' := [(cyI, .int)]) [0] rfl
    have hFc := va_free (wc := [(h0, .inr (10, [.ref pr, .ref ck, .ref tu, .ref sm, .ref rm]))]) hD hS hA [0] rfl
    refine va_callr (va_runV (As := [.int 0]) (rest := []) ⟨hx, hb, hml, hown, hts⟩ (c_X11_machineOf_0 l dC dI cyI s.heap.size h0 pr ck tu sm rm) (cwV 1 hts gq_X11_peek_ok_X11_machineOf_0_160 rfl rfl rfl (by decide +kernel) ⟨Nat.le_of_ble_eq_true rfl, Nat.le_of_ble_eq_true rfl⟩) ⟨pz_blind, va_recv hKc hPc (ci := 10) (q0 := 0) rfl rfl, pz_to hPc hKc hDc hNW⟩ rfl rfl hl.1 rfl (lv_room (Nat.le_of_ble_eq_true rfl)) dX11_peek_31 (by decide)) hS (fun q _ h => hFc q h) hFc (fun u r_5 t H1 locs ht hvm hw hB hz1 hk1 hS => ?_)
    obtain ⟨er_5, hP1, hK1, hD1⟩ := hB
    rw [ht] at hP1
    obtain ⟨hP, hD⟩ := va_join (wr := [(sm, .inr (7, [.ref s_memory, .ref s_funcs, .ref s_nexts, .int 0, .int 0, .int 0, .int 0, .int 0, .ref pr, .ref s_locals, .ref s_stack, .ref s_bottoms, .int 0])), (s_memory, .inl (cyI, 64, .inl (fun _ => 0))), (rm, .inr (6, [.ref r_memory, .ref r_funcs, .ref r_nexts, .int 0, .int 0, .int 0, .int 0, .int 0, .ref t_code, .ref r_registers, .ref r_slotCells, .ref r_passed, .int 0])), (r_memory, .inl (cyI, 64, .inl (fun _ => 0)))]) (w1 := [(h0, .inr (10, [.ref pr, .ref ck, .ref tu, .ref sm, .ref rm]))]) hP hD [0] [1, 2, 3, 4] rfl rfl (by decide) (by decide) hk1 hFc hP1 hD1
    generalize H1 = H at hP hS ⊢
    have hP : va_P (dC, dI) vwCl [(sm, .inr (7, [.ref s_memory, .ref s_funcs, .ref s_nexts, .int 0, .int 0, .int 0, .int 0, .int 0, .ref pr, .ref s_locals, .ref s_stack, .ref s_bottoms, .int 0])), (s_memory, .inl (cyI, 64, .inl (fun _ => 0))), (rm, .inr (6, [.ref r_memory, .ref r_funcs, .ref r_nexts, .int 0, .int 0, .int 0, .int 0, .int 0, .ref t_code, .ref r_registers, .ref r_slotCells, .ref r_passed, .int 0])), (r_memory, .inl (cyI, 64, .inl (fun _ => 0))), (h0, .inr (10, [.ref pr, .ref ck, .ref tu, .ref sm, .ref rm]))] H := hP
    have hD : va_D A [(sm, .inr (7, [.ref s_memory, .ref s_funcs, .ref s_nexts, .int 0, .int 0, .int 0, .int 0, .int 0, .ref pr, .ref s_locals, .ref s_stack, .ref s_bottoms, .int 0])), (s_memory, .inl (cyI, 64, .inl (fun _ => 0))), (rm, .inr (6, [.ref r_memory, .ref r_funcs, .ref r_nexts, .int 0, .int 0, .int 0, .int 0, .int 0, .ref t_code, .ref r_registers, .ref r_slotCells, .ref r_passed, .int 0])), (r_memory, .inl (cyI, 64, .inl (fun _ => 0))), (h0, .inr (10, [.ref pr, .ref ck, .ref tu, .ref sm, .ref rm]))] := hD
    have er_5 := er_5.symm
    subst er_5
    refine va_get (D := (dC, dI)) (ci := 7) (v := .ref s_memory) (C := RX8) (T := TX8) (N := 13) hx hb hts hiX8 hown hK hP 0 rfl rfl 0 (by decide) (hts (.fieldLink RX11 96 "RegisterMill$Machine" "memory" "[I") (by decide +kernel)) (fun _ h9 => h9) rfl dX11_peek_34 ?_
    refine lv_iload_n hx hb dX11_peek_37 rfl (lv_at hl 2 rfl) ?_
    refine va_iald hx hb hK hP 1 0 rfl rfl (pz_in64 g_3 g_4) dX11_peek_38 ?_
    refine W.eq (g2 := F0 m 39 ls [.int 0]) rfl ?_
    have h9 : (0 : Int32) = 0 := rfl
    exact W.iret (v := (0)) hx hb hr (fun t ht hW => ⟨⟨_, (), rfl, h9, trivial⟩, hS.F ht⟩) hS.2.2 dX11_peek_39
  · skip
    have hPc := hP.sub (ws' := [(h0, .inr (10, [.ref pr, .ref ck, .ref tu, .ref sm, .ref rm]))]) [0] rfl
    have hDc := hD.sub (ws' := [(h0, .inr (10, [.ref pr, .ref ck, .ref tu, .ref sm, .ref rm]))]) [0] (by decide) rfl
    have hKc := hK.sub (tys' := [(cyI, .int)]) [0] rfl
    have hFc := va_free (wc := [(h0, .inr (10, [.ref pr, .ref ck, .ref tu, .ref sm, .ref rm]))]) hD hS hA [0] rfl
    refine va_callr (va_runV (As := [.int 1]) (rest := []) ⟨hx, hb, hml, hown, hts⟩ (c_X11_machineOf_1 l dC dI cyI s.heap.size h0 pr ck tu sm rm) (cwV 1 hts gq_X11_peek_ok_X11_machineOf_1_160 rfl rfl rfl (by decide +kernel) ⟨Nat.le_of_ble_eq_true rfl, Nat.le_of_ble_eq_true rfl⟩) ⟨pz_blind, va_recv hKc hPc (ci := 10) (q0 := 0) rfl rfl, pz_to hPc hKc hDc hNW⟩ rfl rfl hl.1 rfl (lv_room (Nat.le_of_ble_eq_true rfl)) dX11_peek_31 (by decide)) hS (fun q _ h => hFc q h) hFc (fun u r_6 t H1 locs ht hvm hw hB hz1 hk1 hS => ?_)
    obtain ⟨er_6, hP1, hK1, hD1⟩ := hB
    rw [ht] at hP1
    obtain ⟨hP, hD⟩ := va_join (wr := [(sm, .inr (7, [.ref s_memory, .ref s_funcs, .ref s_nexts, .int 0, .int 0, .int 0, .int 0, .int 0, .ref pr, .ref s_locals, .ref s_stack, .ref s_bottoms, .int 0])), (s_memory, .inl (cyI, 64, .inl (fun _ => 0))), (rm, .inr (6, [.ref r_memory, .ref r_funcs, .ref r_nexts, .int 0, .int 0, .int 0, .int 0, .int 0, .ref t_code, .ref r_registers, .ref r_slotCells, .ref r_passed, .int 0])), (r_memory, .inl (cyI, 64, .inl (fun _ => 0)))]) (w1 := [(h0, .inr (10, [.ref pr, .ref ck, .ref tu, .ref sm, .ref rm]))]) hP hD [0] [1, 2, 3, 4] rfl rfl (by decide) (by decide) hk1 hFc hP1 hD1
    generalize H1 = H at hP hS ⊢
    have hP : va_P (dC, dI) vwCl [(sm, .inr (7, [.ref s_memory, .ref s_funcs, .ref s_nexts, .int 0, .int 0, .int 0, .int 0, .int 0, .ref pr, .ref s_locals, .ref s_stack, .ref s_bottoms, .int 0])), (s_memory, .inl (cyI, 64, .inl (fun _ => 0))), (rm, .inr (6, [.ref r_memory, .ref r_funcs, .ref r_nexts, .int 0, .int 0, .int 0, .int 0, .int 0, .ref t_code, .ref r_registers, .ref r_slotCells, .ref r_passed, .int 0])), (r_memory, .inl (cyI, 64, .inl (fun _ => 0))), (h0, .inr (10, [.ref pr, .ref ck, .ref tu, .ref sm, .ref rm]))] H := hP
    have hD : va_D A [(sm, .inr (7, [.ref s_memory, .ref s_funcs, .ref s_nexts, .int 0, .int 0, .int 0, .int 0, .int 0, .ref pr, .ref s_locals, .ref s_stack, .ref s_bottoms, .int 0])), (s_memory, .inl (cyI, 64, .inl (fun _ => 0))), (rm, .inr (6, [.ref r_memory, .ref r_funcs, .ref r_nexts, .int 0, .int 0, .int 0, .int 0, .int 0, .ref t_code, .ref r_registers, .ref r_slotCells, .ref r_passed, .int 0])), (r_memory, .inl (cyI, 64, .inl (fun _ => 0))), (h0, .inr (10, [.ref pr, .ref ck, .ref tu, .ref sm, .ref rm]))] := hD
    have er_6 := er_6.symm
    subst er_6
    refine va_get (D := (dC, dI)) (ci := 6) (v := .ref r_memory) (C := RX7) (T := TX7) (N := 13) hx hb hts hiX7 hown hK hP 2 rfl rfl 0 (by decide) (hts (.fieldLink RX11 96 "RegisterMill$Machine" "memory" "[I") (by decide +kernel)) (fun _ h9 => h9) rfl dX11_peek_34 ?_
    refine lv_iload_n hx hb dX11_peek_37 rfl (lv_at hl 2 rfl) ?_
    refine va_iald hx hb hK hP 3 0 rfl rfl (pz_in64 g_3 g_4) dX11_peek_38 ?_
    refine W.eq (g2 := F0 m 39 ls [.int 0]) rfl ?_
    have h9 : (0 : Int32) = 0 := rfl
    exact W.iret (v := (0)) hx hb hr (fun t ht hW => ⟨⟨_, (), rfl, h9, trivial⟩, hS.F ht⟩) hS.2.2 dX11_peek_39
