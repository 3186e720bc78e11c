def wq_X1_init : List Cond := .code yX1_init cX1_init 1 none :: ([.methodLink RX1 3 objectInit, .instanceMethod objectInit, .code objectInit ⟨#[0xb1]⟩ 1 none, .arrayClass .int, .fieldLink RX1 9 "RegisterMill$Code" "starts" "[I", .fieldLink RX1 15 "RegisterMill$Code" "sizes" "[I", .fieldLink RX1 18 "RegisterMill$Code" "parts" "[I"] ++ wsX10)
set_option maxHeartbeats 4000000 in
set_option maxRecDepth 100000 in
/-- Code(): three rows -/
theorem c_X1_init (l : Launch) (dC : Nat → ClassId) (dI : Nat → Nat → Nat) (cyI : ClassId) (sz : Nat) (h0 : Nat) : Met l yX1_init wq_X1_init ({ frames := 1, cells := 3, slots := 2024, locals := 12 }) (va_Pc [.ref h0] (pz_pre dC dI [(cyI, .int)] [(h0, .inr (1, [.null, .null, .int 0, .null]))] sz)) (va_Qv (S := Unit) (fun _ => True) (fun _ t => ∃ a_starts a_sizes a_parts : Nat, pz_B dC dI [(cyI, .int)] (va_A [(h0, .inr (1, [.null, .null, .int 0, .null]))] sz) [(h0, .inr (1, [.ref a_starts, .ref a_sizes, .int 0, .ref a_parts]))] t) (va_A [(h0, .inr (1, [.null, .null, .int 0, .null]))] sz)) 3 2024 (va_A [(h0, .inr (1, [.null, .null, .int 0, .null]))] sz) := by
  refine Met.ofW (cc := cX1_init) (maxL := 1) (ret := none) (by decide) rfl ?_
  intro p e s m args below meth c s₁ B hml hv
  obtain ⟨rfl, hsz, hP, hK, hD0, hNW⟩ := hv
  have hx := B.exec
  have hb := B.bytes
  have hr := B.returns
  have hts := atoms_spec (ws := wq_X1_init) B.pre
  have hown : s.vm.findClass RX1 = some m.cls := findClass_of_methodNamed B.named
  have hlocks := B.notSynchronized
  have hin : meth.name = "<init>" := (name_of_methodNamed B.named B.method).1
  have hiX1 : ∀ w ∈ wsX10, w ∈ wq_X1_init := by decide +kernel
  subst hsz
  have hD := hD0.self (sz := s.heap.size)
  generalize hAe : va_A [(h0, .inr (1, [.null, .null, .int 0, .null]))] s.heap.size = A at hD ⊢
  have hA : ∀ q : Nat, s.heap.size ≤ q → A q := fun q h => by rw [← hAe]; exact Or.inr h
  have hS : va_S A s.heap s.heap [] := va_S.rf
  have hl := lv_entry ([.ref h0]) (n := 1) (Nat.le_of_ble_eq_true rfl)
  rw [lg_entry_eq]
  generalize (lg_sl ([.ref h0]) ++ List.replicate (1 - (lg_sl ([.ref h0])).length) Slot.unset).toArray = ls at hl ⊢
  have hl : lv_has ls 1 [(0, .ref h0)] := hl
  refine lv_aload_n hx hb dX1_init_0 rfl (lv_at hl 0 rfl) ?_
  refine W.objInit hx hb hown (hts (.methodLink RX1 3 objectInit) (by decide +kernel)) (hts (.instanceMethod objectInit) (by decide +kernel)) (hts (.code objectInit ⟨#[0xb1]⟩ 1 none) (by decide +kernel)) rfl (by rw [hml]; exact hl.1) rfl dX1_init_1 (Nat.le_of_ble_eq_true rfl) (Nat.le_of_ble_eq_true rfl) ?_
  refine W.eq (g2 := F0 m 4 ls []) rfl ?_
  refine lv_aload_n hx hb dX1_init_4 rfl (lv_at hl 0 rfl) ?_
  refine lv_bipush (v := 12) hx hb dX1_init_5 (by decide) ?_
  refine pz_newd hx hb (hts (.arrayClass .int) (by decide +kernel)) hK hP hD hS hA 12 (by decide) (by decide) (by decide) (by decide) (by decide) dX1_init_7 (fun q_1 H hP hS => ?_)
  refine W.widen (k := 1) (n := 12) (by omega) (by omega) ?_
  refine va_putF (D := (dC, dI)) (ci := 1) (v := .ref q_1) (ty := .array .int) (C := RX1) (T := TX1) (N := 4) hx hb hts hiX1 tyX1 tyX1_ok nmX1 hown hK hP hD hS 0 rfl rfl 0 (by decide) (hts (.fieldLink RX1 9 "RegisterMill$Code" "starts" "[I") (by decide +kernel)) (fun _ h9 => h9) rfl hin rfl (by decide +kernel) rfl rfl (Nat.le_of_ble_eq_true rfl) dX1_init_9 (fun H locs hP hD hS => ?_)
  have hP : va_P (dC, dI) vwCl [(h0, .inr (1, [.ref q_1, .null, .int 0, .null]))] H := hP
  have hD : va_D A [(h0, .inr (1, [.ref q_1, .null, .int 0, .null]))] := hD
  refine lv_aload_n hx hb dX1_init_12 rfl (lv_at hl 0 rfl) ?_
  refine lv_bipush (v := 12) hx hb dX1_init_13 (by decide) ?_
  refine pz_newd hx hb (hts (.arrayClass .int) (by decide +kernel)) hK hP hD hS hA 12 (by decide) (by decide) (by decide) (by decide) (by decide) dX1_init_15 (fun q_2 H hP hS => ?_)
  refine W.widen (k := 2) (n := 24) (by omega) (by omega) ?_
  refine va_putF (D := (dC, dI)) (ci := 1) (v := .ref q_2) (ty := .array .int) (C := RX1) (T := TX1) (N := 4) hx hb hts hiX1 tyX1 tyX1_ok nmX1 hown hK hP hD hS 0 rfl rfl 1 (by decide) (hts (.fieldLink RX1 15 "RegisterMill$Code" "sizes" "[I") (by decide +kernel)) (fun _ h9 => h9) rfl hin rfl (by decide +kernel) rfl rfl (Nat.le_of_ble_eq_true rfl) dX1_init_17 (fun H locs hP hD hS => ?_)
  have hP : va_P (dC, dI) vwCl [(h0, .inr (1, [.ref q_1, .ref q_2, .int 0, .null]))] H := hP
  have hD : va_D A [(h0, .inr (1, [.ref q_1, .ref q_2, .int 0, .null]))] := hD
  refine lv_aload_n hx hb dX1_init_20 rfl (lv_at hl 0 rfl) ?_
  refine lv_sipush (v := 2000) hx hb dX1_init_21 (by decide) ?_
  refine pz_newd hx hb (hts (.arrayClass .int) (by decide +kernel)) hK hP hD hS hA 2000 (by decide) (by decide) (by decide) (by decide) (by decide) dX1_init_24 (fun q_3 H hP hS => ?_)
  refine W.widen (k := 3) (n := 2024) (by omega) (by omega) ?_
  refine va_put (D := (dC, dI)) (ci := 1) (v := .ref q_3) (ty := .array .int) (C := RX1) (T := TX1) (N := 4) hx hb hts hiX1 tyX1 tyX1_ok nmX1 hown hK hP hD hS 0 rfl rfl 3 (by decide) (hts (.fieldLink RX1 18 "RegisterMill$Code" "parts" "[I") (by decide +kernel)) (fun _ h9 => h9) rfl (by decide +kernel) rfl rfl (Nat.le_of_ble_eq_true rfl) dX1_init_26 (fun H locs hP hD hS => ?_)
  have hP : va_P (dC, dI) vwCl [(h0, .inr (1, [.ref q_1, .ref q_2, .int 0, .ref q_3]))] H := hP
  have hD : va_D A [(h0, .inr (1, [.ref q_1, .ref q_2, .int 0, .ref q_3]))] := hD
  refine W.widen (k := 3) (n := 2024) (by decide) (by decide) ?_
  have hP9 := hP.sub (ws' := [(h0, .inr (1, [.ref q_1, .ref q_2, .int 0, .ref q_3]))]) [0] rfl
  have hD9 := hD.sub (ws' := [(h0, .inr (1, [.ref q_1, .ref q_2, .int 0, .ref q_3]))]) [0] (by decide) rfl
  exact W.vret hx hb hr (fun t ht hW => ⟨⟨(), rfl, trivial, ⟨q_1, q_2, q_3, pz_Bof hP9 hK hD9 ht hW⟩⟩, hS.F ht⟩) hS.2.2 dX1_init_29

def wq_X2_init : List Cond := .code yX2_init cX2_init 1 none :: ([.methodLink RX2 3 objectInit, .instanceMethod objectInit, .code objectInit ⟨#[0xb1]⟩ 1 none, .arrayClass .int, .fieldLink RX2 9 "RegisterMill$Homes" "firsts" "[I", .fieldLink RX2 15 "RegisterMill$Homes" "lasts" "[I", .fieldLink RX2 18 "RegisterMill$Homes" "registers" "[I", .fieldLink RX2 21 "RegisterMill$Homes" "slotNumbers" "[I", .fieldLink RX2 24 "RegisterMill$Homes" "slotCounts" "[I", .fieldLink RX2 27 "RegisterMill$Homes" "holders" "[I"] ++ wsX20)
set_option maxHeartbeats 4000000 in
set_option maxRecDepth 100000 in
/-- Homes(): six rows -/
theorem c_X2_init (l : Launch) (dC : Nat → ClassId) (dI : Nat → Nat → Nat) (cyI : ClassId) (sz : Nat) (h0 : Nat) : Met l yX2_init wq_X2_init ({ frames := 1, cells := 6, slots := 1084, locals := 12 }) (va_Pc [.ref h0] (pz_pre dC dI [(cyI, .int)] [(h0, .inr (2, [.null, .null, .null, .null, .null, .null]))] sz)) (va_Qv (S := Unit) (fun _ => True) (fun _ t => ∃ a_firsts a_lasts a_registers a_slotNumbers a_slotCounts a_holders : Nat, pz_B dC dI [(cyI, .int)] (va_A [(h0, .inr (2, [.null, .null, .null, .null, .null, .null]))] sz) [(h0, .inr (2, [.ref a_firsts, .ref a_lasts, .ref a_registers, .ref a_slotNumbers, .ref a_slotCounts, .ref a_holders]))] t) (va_A [(h0, .inr (2, [.null, .null, .null, .null, .null, .null]))] sz)) 6 1084 (va_A [(h0, .inr (2, [.null, .null, .null, .null, .null, .null]))] sz) := by
  refine Met.ofW (cc := cX2_init) (maxL := 1) (ret := none) (by decide) rfl ?_
  intro p e s m args below meth c s₁ B hml hv
  obtain ⟨rfl, hsz, hP, hK, hD0, hNW⟩ := hv
  have hx := B.exec
  have hb := B.bytes
  have hr := B.returns
  have hts := atoms_spec (ws := wq_X2_init) B.pre
  have hown : s.vm.findClass RX2 = some m.cls := findClass_of_methodNamed B.named
  have hlocks := B.notSynchronized
  have hin : meth.name = "<init>" := (name_of_methodNamed B.named B.method).1
  have hiX2 : ∀ w ∈ wsX20, w ∈ wq_X2_init := by decide +kernel
  subst hsz
  have hD := hD0.self (sz := s.heap.size)
  generalize hAe : va_A [(h0, .inr (2, [.null, .null, .null, .null, .null, .null]))] s.heap.size = A at hD ⊢
  have hA : ∀ q : Nat, s.heap.size ≤ q → A q := fun q h => by rw [← hAe]; exact Or.inr h
  have hS : va_S A s.heap s.heap [] := va_S.rf
  have hl := lv_entry ([.ref h0]) (n := 1) (Nat.le_of_ble_eq_true rfl)
  rw [lg_entry_eq]
  generalize (lg_sl ([.ref h0]) ++ List.replicate (1 - (lg_sl ([.ref h0])).length) Slot.unset).toArray = ls at hl ⊢
  have hl : lv_has ls 1 [(0, .ref h0)] := hl
  refine lv_aload_n hx hb dX2_init_0 rfl (lv_at hl 0 rfl) ?_
  refine W.objInit hx hb hown (hts (.methodLink RX2 3 objectInit) (by decide +kernel)) (hts (.instanceMethod objectInit) (by decide +kernel)) (hts (.code objectInit ⟨#[0xb1]⟩ 1 none) (by decide +kernel)) rfl (by rw [hml]; exact hl.1) rfl dX2_init_1 (Nat.le_of_ble_eq_true rfl) (Nat.le_of_ble_eq_true rfl) ?_
  refine W.eq (g2 := F0 m 4 ls []) rfl ?_
  refine lv_aload_n hx hb dX2_init_4 rfl (lv_at hl 0 rfl) ?_
  refine lv_sipush (v := 264) hx hb dX2_init_5 (by decide) ?_
  refine pz_newd hx hb (hts (.arrayClass .int) (by decide +kernel)) hK hP hD hS hA 264 (by decide) (by decide) (by decide) (by decide) (by decide) dX2_init_8 (fun q_1 H hP hS => ?_)
  refine W.widen (k := 1) (n := 264) (by omega) (by omega) ?_
  refine va_putF (D := (dC, dI)) (ci := 2) (v := .ref q_1) (ty := .array .int) (C := RX2) (T := TX2) (N := 6) hx hb hts hiX2 tyX2 tyX2_ok nmX2 hown hK hP hD hS 0 rfl rfl 0 (by decide) (hts (.fieldLink RX2 9 "RegisterMill$Homes" "firsts" "[I") (by decide +kernel)) (fun _ h9 => h9) rfl hin rfl (by decide +kernel) rfl rfl (Nat.le_of_ble_eq_true rfl) dX2_init_10 (fun H locs hP hD hS => ?_)
  have hP : va_P (dC, dI) vwCl [(h0, .inr (2, [.ref q_1, .null, .null, .null, .null, .null]))] H := hP
  have hD : va_D A [(h0, .inr (2, [.ref q_1, .null, .null, .null, .null, .null]))] := hD
  refine lv_aload_n hx hb dX2_init_13 rfl (lv_at hl 0 rfl) ?_
  refine lv_sipush (v := 264) hx hb dX2_init_14 (by decide) ?_
  refine pz_newd hx hb (hts (.arrayClass .int) (by decide +kernel)) hK hP hD hS hA 264 (by decide) (by decide) (by decide) (by decide) (by decide) dX2_init_17 (fun q_2 H hP hS => ?_)
  refine W.widen (k := 2) (n := 528) (by omega) (by omega) ?_
  refine va_putF (D := (dC, dI)) (ci := 2) (v := .ref q_2) (ty := .array .int) (C := RX2) (T := TX2) (N := 6) hx hb hts hiX2 tyX2 tyX2_ok nmX2 hown hK hP hD hS 0 rfl rfl 1 (by decide) (hts (.fieldLink RX2 15 "RegisterMill$Homes" "lasts" "[I") (by decide +kernel)) (fun _ h9 => h9) rfl hin rfl (by decide +kernel) rfl rfl (Nat.le_of_ble_eq_true rfl) dX2_init_19 (fun H locs hP hD hS => ?_)
  have hP : va_P (dC, dI) vwCl [(h0, .inr (2, [.ref q_1, .ref q_2, .null, .null, .null, .null]))] H := hP
  have hD : va_D A [(h0, .inr (2, [.ref q_1, .ref q_2, .null, .null, .null, .null]))] := hD
  refine lv_aload_n hx hb dX2_init_22 rfl (lv_at hl 0 rfl) ?_
  refine lv_sipush (v := 264) hx hb dX2_init_23 (by decide) ?_
  refine pz_newd hx hb (hts (.arrayClass .int) (by decide +kernel)) hK hP hD hS hA 264 (by decide) (by decide) (by decide) (by decide) (by decide) dX2_init_26 (fun q_3 H hP hS => ?_)
  refine W.widen (k := 3) (n := 792) (by omega) (by omega) ?_
  refine va_putF (D := (dC, dI)) (ci := 2) (v := .ref q_3) (ty := .array .int) (C := RX2) (T := TX2) (N := 6) hx hb hts hiX2 tyX2 tyX2_ok nmX2 hown hK hP hD hS 0 rfl rfl 2 (by decide) (hts (.fieldLink RX2 18 "RegisterMill$Homes" "registers" "[I") (by decide +kernel)) (fun _ h9 => h9) rfl hin rfl (by decide +kernel) rfl rfl (Nat.le_of_ble_eq_true rfl) dX2_init_28 (fun H locs hP hD hS => ?_)
  have hP : va_P (dC, dI) vwCl [(h0, .inr (2, [.ref q_1, .ref q_2, .ref q_3, .null, .null, .null]))] H := hP
  have hD : va_D A [(h0, .inr (2, [.ref q_1, .ref q_2, .ref q_3, .null, .null, .null]))] := hD
  refine lv_aload_n hx hb dX2_init_31 rfl (lv_at hl 0 rfl) ?_
  refine lv_sipush (v := 264) hx hb dX2_init_32 (by decide) ?_
  refine pz_newd hx hb (hts (.arrayClass .int) (by decide +kernel)) hK hP hD hS hA 264 (by decide) (by decide) (by decide) (by decide) (by decide) dX2_init_35 (fun q_4 H hP hS => ?_)
  refine W.widen (k := 4) (n := 1056) (by omega) (by omega) ?_
  refine va_putF (D := (dC, dI)) (ci := 2) (v := .ref q_4) (ty := .array .int) (C := RX2) (T := TX2) (N := 6) hx hb hts hiX2 tyX2 tyX2_ok nmX2 hown hK hP hD hS 0 rfl rfl 3 (by decide) (hts (.fieldLink RX2 21 "RegisterMill$Homes" "slotNumbers" "[I") (by decide +kernel)) (fun _ h9 => h9) rfl hin rfl (by decide +kernel) rfl rfl (Nat.le_of_ble_eq_true rfl) dX2_init_37 (fun H locs hP hD hS => ?_)
  have hP : va_P (dC, dI) vwCl [(h0, .inr (2, [.ref q_1, .ref q_2, .ref q_3, .ref q_4, .null, .null]))] H := hP
  have hD : va_D A [(h0, .inr (2, [.ref q_1, .ref q_2, .ref q_3, .ref q_4, .null, .null]))] := hD
  refine lv_aload_n hx hb dX2_init_40 rfl (lv_at hl 0 rfl) ?_
  refine lv_bipush (v := 12) hx hb dX2_init_41 (by decide) ?_
  refine pz_newd hx hb (hts (.arrayClass .int) (by decide +kernel)) hK hP hD hS hA 12 (by decide) (by decide) (by decide) (by decide) (by decide) dX2_init_43 (fun q_5 H hP hS => ?_)
  refine W.widen (k := 5) (n := 1068) (by omega) (by omega) ?_
  refine va_putF (D := (dC, dI)) (ci := 2) (v := .ref q_5) (ty := .array .int) (C := RX2) (T := TX2) (N := 6) hx hb hts hiX2 tyX2 tyX2_ok nmX2 hown hK hP hD hS 0 rfl rfl 4 (by decide) (hts (.fieldLink RX2 24 "RegisterMill$Homes" "slotCounts" "[I") (by decide +kernel)) (fun _ h9 => h9) rfl hin rfl (by decide +kernel) rfl rfl (Nat.le_of_ble_eq_true rfl) dX2_init_45 (fun H locs hP hD hS => ?_)
  have hP : va_P (dC, dI) vwCl [(h0, .inr (2, [.ref q_1, .ref q_2, .ref q_3, .ref q_4, .ref q_5, .null]))] H := hP
  have hD : va_D A [(h0, .inr (2, [.ref q_1, .ref q_2, .ref q_3, .ref q_4, .ref q_5, .null]))] := hD
  refine lv_aload_n hx hb dX2_init_48 rfl (lv_at hl 0 rfl) ?_
  refine lv_bipush (v := 16) hx hb dX2_init_49 (by decide) ?_
  refine pz_newd hx hb (hts (.arrayClass .int) (by decide +kernel)) hK hP hD hS hA 16 (by decide) (by decide) (by decide) (by decide) (by decide) dX2_init_51 (fun q_6 H hP hS => ?_)
  refine W.widen (k := 6) (n := 1084) (by omega) (by omega) ?_
  refine va_putF (D := (dC, dI)) (ci := 2) (v := .ref q_6) (ty := .array .int) (C := RX2) (T := TX2) (N := 6) hx hb hts hiX2 tyX2 tyX2_ok nmX2 hown hK hP hD hS 0 rfl rfl 5 (by decide) (hts (.fieldLink RX2 27 "RegisterMill$Homes" "holders" "[I") (by decide +kernel)) (fun _ h9 => h9) rfl hin rfl (by decide +kernel) rfl rfl (Nat.le_of_ble_eq_true rfl) dX2_init_53 (fun H locs hP hD hS => ?_)
  have hP : va_P (dC, dI) vwCl [(h0, .inr (2, [.ref q_1, .ref q_2, .ref q_3, .ref q_4, .ref q_5, .ref q_6]))] H := hP
  have hD : va_D A [(h0, .inr (2, [.ref q_1, .ref q_2, .ref q_3, .ref q_4, .ref q_5, .ref q_6]))] := hD
  refine W.widen (k := 6) (n := 1084) (by decide) (by decide) ?_
  have hP9 := hP.sub (ws' := [(h0, .inr (2, [.ref q_1, .ref q_2, .ref q_3, .ref q_4, .ref q_5, .ref q_6]))]) [0] rfl
  have hD9 := hD.sub (ws' := [(h0, .inr (2, [.ref q_1, .ref q_2, .ref q_3, .ref q_4, .ref q_5, .ref q_6]))]) [0] (by decide) rfl
  exact W.vret hx hb hr (fun t ht hW => ⟨⟨(), rfl, trivial, ⟨q_1, q_2, q_3, q_4, q_5, q_6, pz_Bof hP9 hK hD9 ht hW⟩⟩, hS.F ht⟩) hS.2.2 dX2_init_56

def wq_X3_init : List Cond := .code yX3_init cX3_init 1 none :: ([.methodLink RX3 3 objectInit, .instanceMethod objectInit, .code objectInit ⟨#[0xb1]⟩ 1 none, .arrayClass .int, .fieldLink RX3 9 "RegisterMill$Live" "ahead" "[I", .fieldLink RX3 15 "RegisterMill$Live" "behind" "[I"] ++ wsX30)
set_option maxHeartbeats 4000000 in
set_option maxRecDepth 100000 in
/-- Live(): two rows -/
theorem c_X3_init (l : Launch) (dC : Nat → ClassId) (dI : Nat → Nat → Nat) (cyI : ClassId) (sz : Nat) (h0 : Nat) : Met l yX3_init wq_X3_init ({ frames := 1, cells := 2, slots := 600, locals := 12 }) (va_Pc [.ref h0] (pz_pre dC dI [(cyI, .int)] [(h0, .inr (3, [.null, .null]))] sz)) (va_Qv (S := Unit) (fun _ => True) (fun _ t => ∃ a_ahead a_behind : Nat, pz_B dC dI [(cyI, .int)] (va_A [(h0, .inr (3, [.null, .null]))] sz) [(h0, .inr (3, [.ref a_ahead, .ref a_behind]))] t) (va_A [(h0, .inr (3, [.null, .null]))] sz)) 2 600 (va_A [(h0, .inr (3, [.null, .null]))] sz) := by
  refine Met.ofW (cc := cX3_init) (maxL := 1) (ret := none) (by decide) rfl ?_
  intro p e s m args below meth c s₁ B hml hv
  obtain ⟨rfl, hsz, hP, hK, hD0, hNW⟩ := hv
  have hx := B.exec
  have hb := B.bytes
  have hr := B.returns
  have hts := atoms_spec (ws := wq_X3_init) B.pre
  have hown : s.vm.findClass RX3 = some m.cls := findClass_of_methodNamed B.named
  have hlocks := B.notSynchronized
  have hin : meth.name = "<init>" := (name_of_methodNamed B.named B.method).1
  have hiX3 : ∀ w ∈ wsX30, w ∈ wq_X3_init := by decide +kernel
  subst hsz
  have hD := hD0.self (sz := s.heap.size)
  generalize hAe : va_A [(h0, .inr (3, [.null, .null]))] s.heap.size = A at hD ⊢
  have hA : ∀ q : Nat, s.heap.size ≤ q → A q := fun q h => by rw [← hAe]; exact Or.inr h
  have hS : va_S A s.heap s.heap [] := va_S.rf
  have hl := lv_entry ([.ref h0]) (n := 1) (Nat.le_of_ble_eq_true rfl)
  rw [lg_entry_eq]
  generalize (lg_sl ([.ref h0]) ++ List.replicate (1 - (lg_sl ([.ref h0])).length) Slot.unset).toArray = ls at hl ⊢
  have hl : lv_has ls 1 [(0, .ref h0)] := hl
  refine lv_aload_n hx hb dX3_init_0 rfl (lv_at hl 0 rfl) ?_
  refine W.objInit hx hb hown (hts (.methodLink RX3 3 objectInit) (by decide +kernel)) (hts (.instanceMethod objectInit) (by decide +kernel)) (hts (.code objectInit ⟨#[0xb1]⟩ 1 none) (by decide +kernel)) rfl (by rw [hml]; exact hl.1) rfl dX3_init_1 (Nat.le_of_ble_eq_true rfl) (Nat.le_of_ble_eq_true rfl) ?_
  refine W.eq (g2 := F0 m 4 ls []) rfl ?_
  refine lv_aload_n hx hb dX3_init_4 rfl (lv_at hl 0 rfl) ?_
  refine lv_sipush (v := 300) hx hb dX3_init_5 (by decide) ?_
  refine pz_newd hx hb (hts (.arrayClass .int) (by decide +kernel)) hK hP hD hS hA 300 (by decide) (by decide) (by decide) (by decide) (by decide) dX3_init_8 (fun q_1 H hP hS => ?_)
  refine W.widen (k := 1) (n := 300) (by omega) (by omega) ?_
  refine va_putF (D := (dC, dI)) (ci := 3) (v := .ref q_1) (ty := .array .int) (C := RX3) (T := TX3) (N := 2) hx hb hts hiX3 tyX3 tyX3_ok nmX3 hown hK hP hD hS 0 rfl rfl 0 (by decide) (hts (.fieldLink RX3 9 "RegisterMill$Live" "ahead" "[I") (by decide +kernel)) (fun _ h9 => h9) rfl hin rfl (by decide +kernel) rfl rfl (Nat.le_of_ble_eq_true rfl) dX3_init_10 (fun H locs hP hD hS => ?_)
  have hP : va_P (dC, dI) vwCl [(h0, .inr (3, [.ref q_1, .null]))] H := hP
  have hD : va_D A [(h0, .inr (3, [.ref q_1, .null]))] := hD
  refine lv_aload_n hx hb dX3_init_13 rfl (lv_at hl 0 rfl) ?_
  refine lv_sipush (v := 300) hx hb dX3_init_14 (by decide) ?_
  refine pz_newd hx hb (hts (.arrayClass .int) (by decide +kernel)) hK hP hD hS hA 300 (by decide) (by decide) (by decide) (by decide) (by decide) dX3_init_17 (fun q_2 H hP hS => ?_)
  refine W.widen (k := 2) (n := 600) (by omega) (by omega) ?_
  refine va_putF (D := (dC, dI)) (ci := 3) (v := .ref q_2) (ty := .array .int) (C := RX3) (T := TX3) (N := 2) hx hb hts hiX3 tyX3 tyX3_ok nmX3 hown hK hP hD hS 0 rfl rfl 1 (by decide) (hts (.fieldLink RX3 15 "RegisterMill$Live" "behind" "[I") (by decide +kernel)) (fun _ h9 => h9) rfl hin rfl (by decide +kernel) rfl rfl (Nat.le_of_ble_eq_true rfl) dX3_init_19 (fun H locs hP hD hS => ?_)
  have hP : va_P (dC, dI) vwCl [(h0, .inr (3, [.ref q_1, .ref q_2]))] H := hP
  have hD : va_D A [(h0, .inr (3, [.ref q_1, .ref q_2]))] := hD
  refine W.widen (k := 2) (n := 600) (by decide) (by decide) ?_
  have hP9 := hP.sub (ws' := [(h0, .inr (3, [.ref q_1, .ref q_2]))]) [0] rfl
  have hD9 := hD.sub (ws' := [(h0, .inr (3, [.ref q_1, .ref q_2]))]) [0] (by decide) rfl
  exact W.vret hx hb hr (fun t ht hW => ⟨⟨(), rfl, trivial, ⟨q_1, q_2, pz_Bof hP9 hK hD9 ht hW⟩⟩, hS.F ht⟩) hS.2.2 dX3_init_22
