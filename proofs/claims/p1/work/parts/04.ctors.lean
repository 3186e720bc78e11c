def wq_X1_init : List Cond := .code yX1_init cX1_init 1 none :: ([.methodLink RX1 3 objectInit, .instanceMethod objectInit, .code objectInit ⟨#[0xb1]⟩ 1 none, .arrayClass .int, .fieldLink RX1 9 "RegisterMill$Code" "starts" "[I", .fieldLink RX1 15 "RegisterMill$Code" "sizes" "[I", .fieldLink RX1 18 "RegisterMill$Code" "parts" "[I"] ++ wsX10)
set_option maxHeartbeats 4000000 in
set_option maxRecDepth 100000 in
/-- Code(): three rows -/
theorem c_X1_init (l : Launch) (dC : Nat → ClassId) (dI : Nat → Nat → Nat) (cyI : ClassId) (sz : Nat) (h0 : Nat) : Met l yX1_init wq_X1_init ({ frames := 1, cells := 3, slots := 2024, locals := 12 }) (va_Pc [.ref h0] (pz_pre dC dI [(cyI, .int)] [(h0, .inr (1, [.null, .null, .int 0, .null]))] sz)) (va_Qv (S := Unit) (fun _ => True) (fun _ t => ∃ a_starts a_sizes a_parts : Nat, pz_B dC dI [(cyI, .int)] (va_A [(h0, .inr (1, [.null, .null, .int 0, .null]))] sz) [(h0, .inr (1, [.ref a_starts, .ref a_sizes, .int 0, .ref a_parts]))] t) (va_A [(h0, .inr (1, [.null, .null, .int 0, .null]))] sz)) 3 2024 (va_A [(h0, .inr (1, [.null, .null, .int 0, .null]))] sz) := by
  refine Met.ofW (cc := cX1_init) (maxL := 1) (ret := none) (by decide) rfl ?_
  intro p e s m args below meth c s₁ B hml hv
  obtain ⟨rfl, hsz, hP, hK, hD0, hNW⟩ := hv
  have hx := B.exec
  have hb := B.bytes
  have hr := B.returns
  have hts := atoms_spec (ws := wq_X1_init) B.pre
  have hown : s.vm.findClass RX1 = some m.cls := findClass_of_methodNamed B.named
  have hlocks := B.notSynchronized
  have hin : meth.name = "<init>" := (name_of_methodNamed B.named B.method).1
  have hiX1 : ∀ w ∈ wsX10, w ∈ wq_X1_init := by decide +kernel
  subst hsz
  have hD := hD0.self (sz := s.heap.size)
  generalize hAe : va_A [(h0, .inr (1, [.null, .null, .int 0, .null]))] s.heap.size = A at hD ⊢
  have hA : ∀ q : Nat, s.heap.size ≤ q → A q := fun q h => by rw [← hAe]; exact Or.inr h
  have hS : va_S A s.heap s.heap [] := va_S.rf
  have hl := lv_entry ([.ref h0]) (n := 1) (Nat.le_of_ble_eq_true rfl)
  rw [lg_entry_eq]
  generalize (lg_sl ([.ref h0]) ++ List.replicate (1 - (lg_sl ([.ref h0])).length) Slot.unset).toArray = ls at hl ⊢
  have hl : lv_has ls 1 [(0, .ref h0)] := hl
  refine lv_aload_n hx hb dX1_init_0 rfl (lv_at hl 0 rfl) ?_
  refine W.objInit hx hb hown (hts (.methodLink RX1 3 objectInit) (by decide +kernel)) (hts (.instanceMethod objectInit) (by decide +kernel)) (hts (.code objectInit ⟨#[0xb1]⟩ 1 none) (by decide +kernel)) rfl (by rw [hml]; exact hl.1) rfl dX1_init_1 (Nat.le_of_ble_eq_true rfl) (Nat.le_of_ble_eq_true rfl) ?_
  refine W.eq (g2 := F0 m 4 ls []) rfl ?_
  refine lv_aload_n hx hb dX1_init_4 rfl (lv_at hl 0 rfl) ?_
  refine lv_bipush (v := 12) hx hb dX1_init_5 (by decide) ?_
  refine pz_newd hx hb (hts (.arrayClass .int) (by decide +kernel)) hK hP hD hS hA 12 (by decide) (by decide) (by decide) (by decide) (by decide) dX1_init_7 (fun q_1 H hP hS => ?_)
  refine W.widen (k := 1) (n := 12) (by omega) (by omega) ?_
  refine va_putF (D := (dC, dI)) (ci := 1) (v := .ref q_1) (ty := .array .int) (C := RX1) (T := TX1) (N := 4) hx hb hts hiX1 tyX1 tyX1_ok nmX1 hown hK hP hD hS 0 rfl rfl 0 (by decide) (hts (.fieldLink RX1 9 "RegisterMill$Code" "starts" "[I") (by decide +kernel)) (fun _ h9 => h9) rfl hin rfl (by decide +kernel) rfl rfl (Nat.le_of_ble_eq_true rfl) dX1_init_9 (fun H locs hP hD hS => ?_)
  have hP : va_P (dC, dI) vwCl [(h0, .inr (1, [.ref q_1, .null, .int 0, .null]))] H := hP
  have hD : va_D A [(h0, .inr (1, [.ref q_1, .null, .int 0, .null]))] := hD
  refine lv_aload_n hx hb dX1_init_12 rfl (lv_at hl 0 rfl) ?_
  refine lv_bipush (v := 12) hx hb dX1_init_13 (by decide) ?_
  refine pz_newd hx hb (hts (.arrayClass .int) (by decide +kernel)) hK hP hD hS hA 12 (by decide) (by decide) (by decide) (by decide) (by decide) dX1_init_15 (fun q_2 H hP hS => ?_)
  refine W.widen (k := 2) (n := 24) (by omega) (by omega) ?_
  refine va_putF (D := (dC, dI)) (ci := 1) (v := .ref q_2) (ty := .array .int) (C := RX1) (T := TX1) (N := 4) hx hb hts hiX1 tyX1 tyX1_ok nmX1 hown hK hP hD hS 0 rfl rfl 1 (by decide) (hts (.fieldLink RX1 15 "RegisterMill$Code" "sizes" "[I") (by decide +kernel)) (fun _ h9 => h9) rfl hin rfl (by decide +kernel) rfl rfl (Nat.le_of_ble_eq_true rfl) dX1_init_17 (fun H locs hP hD hS => ?_)
  have hP : va_P (dC, dI) vwCl [(h0, .inr (1, [.ref q_1, .ref q_2, .int 0, .null]))] H := hP
  have hD : va_D A [(h0, .inr (1, [.ref q_1, .ref q_2, .int 0, .null]))] := hD
  refine lv_aload_n hx hb dX1_init_20 rfl (lv_at hl 0 rfl) ?_
  refine lv_sipush (v := 2000) hx hb dX1_init_21 (by decide) ?_
  refine pz_newd hx hb (hts (.arrayClass .int) (by decide +kernel)) hK hP hD hS hA 2000 (by decide) (by decide) (by decide) (by decide) (by decide) dX1_init_24 (fun q_3 H hP hS => ?_)
  refine W.widen (k := 3) (n := 2024) (by omega) (by omega) ?_
  refine va_put (D := (dC, dI)) (ci := 1) (v := .ref q_3) (ty := .array .int) (C := RX1) (T := TX1) (N := 4) hx hb hts hiX1 tyX1 tyX1_ok nmX1 hown hK hP hD hS 0 rfl rfl 3 (by decide) (hts (.fieldLink RX1 18 "RegisterMill$Code" "parts" "[I") (by decide +kernel)) (fun _ h9 => h9) rfl (by decide +kernel) rfl rfl (Nat.le_of_ble_eq_true rfl) dX1_init_26 (fun H locs hP hD hS => ?_)
  have hP : va_P (dC, dI) vwCl [(h0, .inr (1, [.ref q_1, .ref q_2, .int 0, .ref q_3]))] H := hP
  have hD : va_D A [(h0, .inr (1, [.ref q_1, .ref q_2, .int 0, .ref q_3]))] := hD
  refine W.widen (k := 3) (n := 2024) (by decide) (by decide) ?_
  have hP9 := hP.sub (ws' := [(h0, .inr (1, [.ref q_1, .ref q_2, .int 0, .ref q_3]))]) [0] rfl
  have hD9 := hD.sub (ws' := [(h0, .inr (1, [.ref q_1, .ref q_2, .int 0, .ref q_3]))]) [0] (by decide) rfl
  exact W.vret hx hb hr (fun t ht hW => ⟨⟨(), rfl, trivial, ⟨q_1, q_2, q_3, pz_Bof hP9 hK hD9 ht hW⟩⟩, hS.F ht⟩) hS.2.2 dX1_init_29

def wq_X2_init : List Cond := .code yX2_init cX2_init 1 none :: ([.methodLink RX2 3 objectInit, .instanceMethod objectInit, .code objectInit ⟨#[0xb1]⟩ 1 none, .arrayClass .int, .fieldLink RX2 9 "RegisterMill$Homes" "firsts" "[I", .fieldLink RX2 15 "RegisterMill$Homes" "lasts" "[I", .fieldLink RX2 18 "RegisterMill$Homes" "registers" "[I", .fieldLink RX2 21 "RegisterMill$Homes" "slotNumbers" "[I", .fieldLink RX2 24 "RegisterMill$Homes" "slotCounts" "[I", .fieldLink RX2 27 "RegisterMill$Homes" "holders" "[I"] ++ wsX20)
set_option maxHeartbeats 4000000 in
set_option maxRecDepth 100000 in
/-- Homes(): six rows -/
theorem c_X2_init (l : Launch) (dC : Nat → ClassId) (dI : Nat → Nat → Nat) (cyI : ClassId) (sz : Nat) (h0 : Nat) : Met l yX2_init wq_X2_init ({ frames := 1, cells := 6, slots := 1084, locals := 12 }) (va_Pc [.ref h0] (pz_pre dC dI [(cyI, .int)] [(h0, .inr (2, [.null, .null, .null, .null, .null, .null]))] sz)) (va_Qv (S := Unit) (fun _ => True) (fun _ t => ∃ a_firsts a_lasts a_registers a_slotNumbers a_slotCounts a_holders : Nat, pz_B dC dI [(cyI, .int)] (va_A [(h0, .inr (2, [.null, .null, .null, .null, .null, .null]))] sz) [(h0, .inr (2, [.ref a_firsts, .ref a_lasts, .ref a_registers, .ref a_slotNumbers, .ref a_slotCounts, .ref a_holders]))] t) (va_A [(h0, .inr (2, [.null, .null, .null, .null, .null, .null]))] sz)) 6 1084 (va_A [(h0, .inr (2, [.null, .null, .null, .null, .null, .null]))] sz) := by
  refine Met.ofW (cc := cX2_init) (maxL := 1) (ret := none) (by decide) rfl ?_
  intro p e s m args below meth c s₁ B hml hv
  obtain ⟨rfl, hsz, hP, hK, hD0, hNW⟩ := hv
  have hx := B.exec
  have hb := B.bytes
  have hr := B.returns
  have hts := atoms_spec (ws := wq_X2_init) B.pre
  have hown : s.vm.findClass RX2 = some m.cls := findClass_of_methodNamed B.named
  have hlocks := B.notSynchronized
  have hin : meth.name = "<init>" := (name_of_methodNamed B.named B.method).1
  have hiX2 : ∀ w ∈ wsX20, w ∈ wq_X2_init := by decide +kernel
  subst hsz
  have hD := hD0.self (sz := s.heap.size)
  generalize hAe : va_A [(h0, .inr (2, [.null, .null, .null, .null, .null, .null]))] s.heap.size = A at hD ⊢
  have hA : ∀ q : Nat, s.heap.size ≤ q → A q := fun q h => by rw [← hAe]; exact Or.inr h
  have hS : va_S A s.heap s.heap [] := va_S.rf
  have hl := lv_entry ([.ref h0]) (n := 1) (Nat.le_of_ble_eq_true rfl)
  rw [lg_entry_eq]
  generalize (lg_sl ([.ref h0]) ++ List.replicate (1 - (lg_sl ([.ref h0])).length) Slot.unset).toArray = ls at hl ⊢
  have hl : lv_has ls 1 [(0, .ref h0)] := hl
  refine lv_aload_n hx hb dX2_init_0 rfl (lv_at hl 0 rfl) ?_
  refine W.objInit hx hb hown (hts (.methodLink RX2 3 objectInit) (by decide +kernel)) (hts (.instanceMethod objectInit) (by decide +kernel)) (hts (.code objectInit ⟨#[0xb1]⟩ 1 none) (by decide +kernel)) rfl (by rw [hml]; exact hl.1) rfl dX2_init_1 (Nat.le_of_ble_eq_true rfl) (Nat.le_of_ble_eq_true rfl) ?_
  refine W.eq (g2 := F0 m 4 ls []) rfl ?_
  refine lv_aload_n hx hb dX2_init_4 rfl (lv_at hl 0 rfl) ?_
  refine lv_sipush (v := 264) hx hb dX2_init_5 (by decide) ?_
  refine pz_newd hx hb (hts (.arrayClass .int) (by decide +kernel)) hK hP hD hS hA 264 (by decide) (by decide) (by decide) (by decide) (by decide) dX2_init_8 (fun q_1 H hP hS => ?_)
  refine W.widen (k := 1) (n := 264) (by omega) (by omega) ?_
  refine va_putF (D := (dC, dI)) (ci := 2) (v := .ref q_1) (ty := .array .int) (C := RX2) (T := TX2) (N := 6) hx hb hts hiX2 tyX2 tyX2_ok nmX2 hown hK hP hD hS 0 rfl rfl 0 (by decide) (hts (.fieldLink RX2 9 "RegisterMill$Homes" "firsts" "[I") (by decide +kernel)) (fun _ h9 => h9) rfl hin rfl (by decide +kernel) rfl rfl (Nat.le_of_ble_eq_true rfl) dX2_init_10 (fun H locs hP hD hS => ?_)
  have hP : va_P (dC, dI) vwCl [(h0, .inr (2, [.ref q_1, .null, .null, .null, .null, .null]))] H := hP
  have hD : va_D A [(h0, .inr (2, [.ref q_1, .null, .null, .null, .null, .null]))] := hD
  refine lv_aload_n hx hb dX2_init_13 rfl (lv_at hl 0 rfl) ?_
  refine lv_sipush (v := 264) hx hb dX2_init_14 (by decide) ?_
  refine pz_newd hx hb (hts (.arrayClass .int) (by decide +kernel)) hK hP hD hS hA 264 (by decide) (by decide) (by decide) (by decide) (by decide) dX2_init_17 (fun q_2 H hP hS => ?_)
  refine W.widen (k := 2) (n := 528) (by omega) (by omega) ?_
  refine va_putF (D := (dC, dI)) (ci := 2) (v := .ref q_2) (ty := .array .int) (C := RX2) (T := TX2) (N := 6) hx hb hts hiX2 tyX2 tyX2_ok nmX2 hown hK hP hD hS 0 rfl rfl 1 (by decide) (hts (.fieldLink RX2 15 "RegisterMill$Homes" "lasts" "[I") (by decide +kernel)) (fun _ h9 => h9) rfl hin rfl (by decide +kernel) rfl rfl (Nat.le_of_ble_eq_true rfl) dX2_init_19 (fun H locs hP hD hS => ?_)
  have hP : va_P (dC, dI) vwCl [(h0, .inr (2, [.ref q_1, .ref q_2, .null, .null, .null, .null]))] H := hP
  have hD : va_D A [(h0, .inr (2, [.ref q_1, .ref q_2, .null, .null, .null, .null]))] := hD
  refine lv_aload_n hx hb dX2_init_22 rfl (lv_at hl 0 rfl) ?_
  refine lv_sipush (v := 264) hx hb dX2_init_23 (by decide) ?_
  refine pz_newd hx hb (hts (.arrayClass .int) (by decide +kernel)) hK hP hD hS hA 264 (by decide) (by decide) (by decide) (by decide) (by decide) dX2_init_26 (fun q_3 H hP hS => ?_)
  refine W.widen (k := 3) (n := 792) (by omega) (by omega) ?_
  refine va_putF (D := (dC, dI)) (ci := 2) (v := .ref q_3) (ty := .array .int) (C := RX2) (T := TX2) (N := 6) hx hb hts hiX2 tyX2 tyX2_ok nmX2 hown hK hP hD hS 0 rfl rfl 2 (by decide) (hts (.fieldLink RX2 18 "RegisterMill$Homes" "registers" "[I") (by decide +kernel)) (fun _ h9 => h9) rfl hin rfl (by decide +kernel) rfl rfl (Nat.le_of_ble_eq_true rfl) dX2_init_28 (fun H locs hP hD hS => ?_)
  have hP : va_P (dC, dI) vwCl [(h0, .inr (2, [.ref q_1, .ref q_2, .ref q_3, .null, .null, .null]))] H := hP
  have hD : va_D A [(h0, .inr (2, [.ref q_1, .ref q_2, .ref q_3, .null, .null, .null]))] := hD
  refine lv_aload_n hx hb dX2_init_31 rfl (lv_at hl 0 rfl) ?_
  refine lv_sipush (v := 264) hx hb dX2_init_32 (by decide) ?_
  refine pz_newd hx hb (hts (.arrayClass .int) (by decide +kernel)) hK hP hD hS hA 264 (by decide) (by decide) (by decide) (by decide) (by decide) dX2_init_35 (fun q_4 H hP hS => ?_)
  refine W.widen (k := 4) (n := 1056) (by omega) (by omega) ?_
  refine va_putF (D := (dC, dI)) (ci := 2) (v := .ref q_4) (ty := .array .int) (C := RX2) (T := TX2) (N := 6) hx hb hts hiX2 tyX2 tyX2_ok nmX2 hown hK hP hD hS 0 rfl rfl 3 (by decide) (hts (.fieldLink RX2 21 "RegisterMill$Homes" "slotNumbers" "[I") (by decide +kernel)) (fun _ h9 => h9) rfl hin rfl (by decide +kernel) rfl rfl (Nat.le_of_ble_eq_true rfl) dX2_init_37 (fun H locs hP hD hS => ?_)
  have hP : va_P (dC, dI) vwCl [(h0, .inr (2, [.ref q_1, .ref q_2, .ref q_3, .ref q_4, .null, .null]))] H := hP
  have hD : va_D A [(h0, .inr (2, [.ref q_1, .ref q_2, .ref q_3, .ref q_4, .null, .null]))] := hD
  refine lv_aload_n hx hb dX2_init_40 rfl (lv_at hl 0 rfl) ?_
  refine lv_bipush (v := 12) hx hb dX2_init_41 (by decide) ?_
  refine pz_newd hx hb (hts (.arrayClass .int) (by decide +kernel)) hK hP hD hS hA 12 (by decide) (by decide) (by decide) (by decide) (by decide) dX2_init_43 (fun q_5 H hP hS => ?_)
  refine W.widen (k := 5) (n := 1068) (by omega) (by omega) ?_
  refine va_putF (D := (dC, dI)) (ci := 2) (v := .ref q_5) (ty := .array .int) (C := RX2) (T := TX2) (N := 6) hx hb hts hiX2 tyX2 tyX2_ok nmX2 hown hK hP hD hS 0 rfl rfl 4 (by decide) (hts (.fieldLink RX2 24 "RegisterMill$Homes" "slotCounts" "[I") (by decide +kernel)) (fun _ h9 => h9) rfl hin rfl (by decide +kernel) rfl rfl (Nat.le_of_ble_eq_true rfl) dX2_init_45 (fun H locs hP hD hS => ?_)
  have hP : va_P (dC, dI) vwCl [(h0, .inr (2, [.ref q_1, .ref q_2, .ref q_3, .ref q_4, .ref q_5, .null]))] H := hP
  have hD : va_D A [(h0, .inr (2, [.ref q_1, .ref q_2, .ref q_3, .ref q_4, .ref q_5, .null]))] := hD
  refine lv_aload_n hx hb dX2_init_48 rfl (lv_at hl 0 rfl) ?_
  refine lv_bipush (v := 16) hx hb dX2_init_49 (by decide) ?_
  refine pz_newd hx hb (hts (.arrayClass .int) (by decide +kernel)) hK hP hD hS hA 16 (by decide) (by decide) (by decide) (by decide) (by decide) dX2_init_51 (fun q_6 H hP hS => ?_)
  refine W.widen (k := 6) (n := 1084) (by omega) (by omega) ?_
  refine va_putF (D := (dC, dI)) (ci := 2) (v := .ref q_6) (ty := .array .int) (C := RX2) (T := TX2) (N := 6) hx hb hts hiX2 tyX2 tyX2_ok nmX2 hown hK hP hD hS 0 rfl rfl 5 (by decide) (hts (.fieldLink RX2 27 "RegisterMill$Homes" "holders" "[I") (by decide +kernel)) (fun _ h9 => h9) rfl hin rfl (by decide +kernel) rfl rfl (Nat.le_of_ble_eq_true rfl) dX2_init_53 (fun H locs hP hD hS => ?_)
  have hP : va_P (dC, dI) vwCl [(h0, .inr (2, [.ref q_1, .ref q_2, .ref q_3, .ref q_4, .ref q_5, .ref q_6]))] H := hP
  have hD : va_D A [(h0, .inr (2, [.ref q_1, .ref q_2, .ref q_3, .ref q_4, .ref q_5, .ref q_6]))] := hD
  refine W.widen (k := 6) (n := 1084) (by decide) (by decide) ?_
  have hP9 := hP.sub (ws' := [(h0, .inr (2, [.ref q_1, .ref q_2, .ref q_3, .ref q_4, .ref q_5, .ref q_6]))]) [0] rfl
  have hD9 := hD.sub (ws' := [(h0, .inr (2, [.ref q_1, .ref q_2, .ref q_3, .ref q_4, .ref q_5, .ref q_6]))]) [0] (by decide) rfl
  exact W.vret hx hb hr (fun t ht hW => ⟨⟨(), rfl, trivial, ⟨q_1, q_2, q_3, q_4, q_5, q_6, pz_Bof hP9 hK hD9 ht hW⟩⟩, hS.F ht⟩) hS.2.2 dX2_init_56

def wq_X3_init : List Cond := .code yX3_init cX3_init 1 none :: ([.methodLink RX3 3 objectInit, .instanceMethod objectInit, .code objectInit ⟨#[0xb1]⟩ 1 none, .arrayClass .int, .fieldLink RX3 9 "RegisterMill$Live" "ahead" "[I", .fieldLink RX3 15 "RegisterMill$Live" "behind" "[I"] ++ wsX30)
set_option maxHeartbeats 4000000 in
set_option maxRecDepth 100000 in
/-- Live(): two rows -/
theorem c_X3_init (l : Launch) (dC : Nat → ClassId) (dI : Nat → Nat → Nat) (cyI : ClassId) (sz : Nat) (h0 : Nat) : Met l yX3_init wq_X3_init ({ frames := 1, cells := 2, slots := 600, locals := 12 }) (va_Pc [.ref h0] (pz_pre dC dI [(cyI, .int)] [(h0, .inr (3, [.null, .null]))] sz)) (va_Qv (S := Unit) (fun _ => True) (fun _ t => ∃ a_ahead a_behind : Nat, pz_B dC dI [(cyI, .int)] (va_A [(h0, .inr (3, [.null, .null]))] sz) [(h0, .inr (3, [.ref a_ahead, .ref a_behind]))] t) (va_A [(h0, .inr (3, [.null, .null]))] sz)) 2 600 (va_A [(h0, .inr (3, [.null, .null]))] sz) := by
  refine Met.ofW (cc := cX3_init) (maxL := 1) (ret := none) (by decide) rfl ?_
  intro p e s m args below meth c s₁ B hml hv
  obtain ⟨rfl, hsz, hP, hK, hD0, hNW⟩ := hv
  have hx := B.exec
  have hb := B.bytes
  have hr := B.returns
  have hts := atoms_spec (ws := wq_X3_init) B.pre
  have hown : s.vm.findClass RX3 = some m.cls := findClass_of_methodNamed B.named
  have hlocks := B.notSynchronized
  have hin : meth.name = "<init>" := (name_of_methodNamed B.named B.method).1
  have hiX3 : ∀ w ∈ wsX30, w ∈ wq_X3_init := by decide +kernel
  subst hsz
  have hD := hD0.self (sz := s.heap.size)
  generalize hAe : va_A [(h0, .inr (3, [.null, .null]))] s.heap.size = A at hD ⊢
  have hA : ∀ q : Nat, s.heap.size ≤ q → A q := fun q h => by rw [← hAe]; exact Or.inr h
  have hS : va_S A s.heap s.heap [] := va_S.rf
  have hl := lv_entry ([.ref h0]) (n := 1) (Nat.le_of_ble_eq_true rfl)
  rw [lg_entry_eq]
  generalize (lg_sl ([.ref h0]) ++ List.replicate (1 - (lg_sl ([.ref h0])).length) Slot.unset).toArray = ls at hl ⊢
  have hl : lv_has ls 1 [(0, .ref h0)] := hl
  refine lv_aload_n hx hb dX3_init_0 rfl (lv_at hl 0 rfl) ?_
  refine W.objInit hx hb hown (hts (.methodLink RX3 3 objectInit) (by decide +kernel)) (hts (.instanceMethod objectInit) (by decide +kernel)) (hts (.code objectInit ⟨#[0xb1]⟩ 1 none) (by decide +kernel)) rfl (by rw [hml]; exact hl.1) rfl dX3_init_1 (Nat.le_of_ble_eq_true rfl) (Nat.le_of_ble_eq_true rfl) ?_
  refine W.eq (g2 := F0 m 4 ls []) rfl ?_
  refine lv_aload_n hx hb dX3_init_4 rfl (lv_at hl 0 rfl) ?_
  refine lv_sipush (v := 300) hx hb dX3_init_5 (by decide) ?_
  refine pz_newd hx hb (hts (.arrayClass .int) (by decide +kernel)) hK hP hD hS hA 300 (by decide) (by decide) (by decide) (by decide) (by decide) dX3_init_8 (fun q_1 H hP hS => ?_)
  refine W.widen (k := 1) (n := 300) (by omega) (by omega) ?_
  refine va_putF (D := (dC, dI)) (ci := 3) (v := .ref q_1) (ty := .array .int) (C := RX3) (T := TX3) (N := 2) hx hb hts hiX3 tyX3 tyX3_ok nmX3 hown hK hP hD hS 0 rfl rfl 0 (by decide) (hts (.fieldLink RX3 9 "RegisterMill$Live" "ahead" "[I") (by decide +kernel)) (fun _ h9 => h9) rfl hin rfl (by decide +kernel) rfl rfl (Nat.le_of_ble_eq_true rfl) dX3_init_10 (fun H locs hP hD hS => ?_)
  have hP : va_P (dC, dI) vwCl [(h0, .inr (3, [.ref q_1, .null]))] H := hP
  have hD : va_D A [(h0, .inr (3, [.ref q_1, .null]))] := hD
  refine lv_aload_n hx hb dX3_init_13 rfl (lv_at hl 0 rfl) ?_
  refine lv_sipush (v := 300) hx hb dX3_init_14 (by decide) ?_
  refine pz_newd hx hb (hts (.arrayClass .int) (by decide +kernel)) hK hP hD hS hA 300 (by decide) (by decide) (by decide) (by decide) (by decide) dX3_init_17 (fun q_2 H hP hS => ?_)
  refine W.widen (k := 2) (n := 600) (by omega) (by omega) ?_
  refine va_putF (D := (dC, dI)) (ci := 3) (v := .ref q_2) (ty := .array .int) (C := RX3) (T := TX3) (N := 2) hx hb hts hiX3 tyX3 tyX3_ok nmX3 hown hK hP hD hS 0 rfl rfl 1 (by decide) (hts (.fieldLink RX3 15 "RegisterMill$Live" "behind" "[I") (by decide +kernel)) (fun _ h9 => h9) rfl hin rfl (by decide +kernel) rfl rfl (Nat.le_of_ble_eq_true rfl) dX3_init_19 (fun H locs hP hD hS => ?_)
  have hP : va_P (dC, dI) vwCl [(h0, .inr (3, [.ref q_1, .ref q_2]))] H := hP
  have hD : va_D A [(h0, .inr (3, [.ref q_1, .ref q_2]))] := hD
  refine W.widen (k := 2) (n := 600) (by decide) (by decide) ?_
  have hP9 := hP.sub (ws' := [(h0, .inr (3, [.ref q_1, .ref q_2]))]) [0] rfl
  have hD9 := hD.sub (ws' := [(h0, .inr (3, [.ref q_1, .ref q_2]))]) [0] (by decide) rfl
  exact W.vret hx hb hr (fun t ht hW => ⟨⟨(), rfl, trivial, ⟨q_1, q_2, pz_Bof hP9 hK hD9 ht hW⟩⟩, hS.F ht⟩) hS.2.2 dX3_init_22

def wq_X5_init : List Cond := .code yX5_init cX5_init 1 none :: ([.methodLink RX5 3 objectInit, .instanceMethod objectInit, .code objectInit ⟨#[0xb1]⟩ 1 none, .arrayClass .int, .fieldLink RX5 9 "RegisterMill$Places" "kinds" "[I", .fieldLink RX5 15 "RegisterMill$Places" "numbers" "[I", .fieldLink RX5 18 "RegisterMill$Places" "goals" "[I", .fieldLink RX5 21 "RegisterMill$Places" "written" "[I", .fieldLink RX5 24 "RegisterMill$Places" "readCounts" "[I", .classLink RX5 27 "[[I", .fieldLink RX5 29 "RegisterMill$Places" "reads" "[[I", .fieldLink RX5 32 "RegisterMill$Places" "newNumbers" "[I", .arrayClass .boolean, .fieldLink RX5 35 "RegisterMill$Places" "blockStarts" "[Z", .fieldLink RX5 39 "RegisterMill$Places" "copyOf" "[I"] ++ wsX50)
set_option maxHeartbeats 4000000 in
set_option maxRecDepth 100000 in
/-- Places(): its rows, and six rows in one -/
theorem c_X5_init (l : Launch) (dC : Nat → ClassId) (dI : Nat → Nat → Nat) (cyI : ClassId) (sz : Nat) (h0 : Nat) : Met l yX5_init wq_X5_init ({ frames := 1, cells := 15, slots := 3928, locals := 12 }) (va_Pc [.ref h0] (pz_pre dC dI [(cyI, .int)] [(h0, .inr (4, [.null, .null, .null, .null, .null, .null, .int 0, .null, .null, .null]))] sz)) (va_Qv (S := Unit) (fun _ => True) (fun _ t => ∃ a_kinds a_numbers a_goals a_written a_readCounts a_reads a_newNumbers a_blockStarts a_copyOf : Nat, pz_B dC dI [(cyI, .int)] (va_A [(h0, .inr (4, [.null, .null, .null, .null, .null, .null, .int 0, .null, .null, .null]))] sz) [(h0, .inr (4, [.ref a_kinds, .ref a_numbers, .ref a_goals, .ref a_written, .ref a_readCounts, .ref a_reads, .int 0, .ref a_newNumbers, .ref a_blockStarts, .ref a_copyOf]))] t) (va_A [(h0, .inr (4, [.null, .null, .null, .null, .null, .null, .int 0, .null, .null, .null]))] sz)) 15 3928 (va_A [(h0, .inr (4, [.null, .null, .null, .null, .null, .null, .int 0, .null, .null, .null]))] sz) := by
  refine Met.ofW (cc := cX5_init) (maxL := 1) (ret := none) (by decide) rfl ?_
  intro p e s m args below meth c s₁ B hml hv
  obtain ⟨rfl, hsz, hP, hK, hD0, hNW⟩ := hv
  have hx := B.exec
  have hb := B.bytes
  have hr := B.returns
  have hts := atoms_spec (ws := wq_X5_init) B.pre
  have hown : s.vm.findClass RX5 = some m.cls := findClass_of_methodNamed B.named
  have hlocks := B.notSynchronized
  have hin : meth.name = "<init>" := (name_of_methodNamed B.named B.method).1
  have hiX5 : ∀ w ∈ wsX50, w ∈ wq_X5_init := by decide +kernel
  subst hsz
  have hD := hD0.self (sz := s.heap.size)
  generalize hAe : va_A [(h0, .inr (4, [.null, .null, .null, .null, .null, .null, .int 0, .null, .null, .null]))] s.heap.size = A at hD ⊢
  have hA : ∀ q : Nat, s.heap.size ≤ q → A q := fun q h => by rw [← hAe]; exact Or.inr h
  have hS : va_S A s.heap s.heap [] := va_S.rf
  have hl := lv_entry ([.ref h0]) (n := 1) (Nat.le_of_ble_eq_true rfl)
  rw [lg_entry_eq]
  generalize (lg_sl ([.ref h0]) ++ List.replicate (1 - (lg_sl ([.ref h0])).length) Slot.unset).toArray = ls at hl ⊢
  have hl : lv_has ls 1 [(0, .ref h0)] := hl
  refine lv_aload_n hx hb dX5_init_0 rfl (lv_at hl 0 rfl) ?_
  refine W.objInit hx hb hown (hts (.methodLink RX5 3 objectInit) (by decide +kernel)) (hts (.instanceMethod objectInit) (by decide +kernel)) (hts (.code objectInit ⟨#[0xb1]⟩ 1 none) (by decide +kernel)) rfl (by rw [hml]; exact hl.1) rfl dX5_init_1 (Nat.le_of_ble_eq_true rfl) (Nat.le_of_ble_eq_true rfl) ?_
  refine W.eq (g2 := F0 m 4 ls []) rfl ?_
  refine lv_aload_n hx hb dX5_init_4 rfl (lv_at hl 0 rfl) ?_
  refine lv_sipush (v := 300) hx hb dX5_init_5 (by decide) ?_
  refine pz_newd hx hb (hts (.arrayClass .int) (by decide +kernel)) hK hP hD hS hA 300 (by decide) (by decide) (by decide) (by decide) (by decide) dX5_init_8 (fun q_1 H hP hS => ?_)
  refine W.widen (k := 1) (n := 300) (by omega) (by omega) ?_
  refine va_putF (D := (dC, dI)) (ci := 4) (v := .ref q_1) (ty := .array .int) (C := RX5) (T := TX5) (N := 10) hx hb hts hiX5 tyX5 tyX5_ok nmX5 hown hK hP hD hS 0 rfl rfl 0 (by decide) (hts (.fieldLink RX5 9 "RegisterMill$Places" "kinds" "[I") (by decide +kernel)) (fun _ h9 => h9) rfl hin rfl (by decide +kernel) rfl rfl (Nat.le_of_ble_eq_true rfl) dX5_init_10 (fun H locs hP hD hS => ?_)
  have hP : va_P (dC, dI) vwCl [(h0, .inr (4, [.ref q_1, .null, .null, .null, .null, .null, .int 0, .null, .null, .null]))] H := hP
  have hD : va_D A [(h0, .inr (4, [.ref q_1, .null, .null, .null, .null, .null, .int 0, .null, .null, .null]))] := hD
  refine lv_aload_n hx hb dX5_init_13 rfl (lv_at hl 0 rfl) ?_
  refine lv_sipush (v := 300) hx hb dX5_init_14 (by decide) ?_
  refine pz_newd hx hb (hts (.arrayClass .int) (by decide +kernel)) hK hP hD hS hA 300 (by decide) (by decide) (by decide) (by decide) (by decide) dX5_init_17 (fun q_2 H hP hS => ?_)
  refine W.widen (k := 2) (n := 600) (by omega) (by omega) ?_
  refine va_putF (D := (dC, dI)) (ci := 4) (v := .ref q_2) (ty := .array .int) (C := RX5) (T := TX5) (N := 10) hx hb hts hiX5 tyX5 tyX5_ok nmX5 hown hK hP hD hS 0 rfl rfl 1 (by decide) (hts (.fieldLink RX5 15 "RegisterMill$Places" "numbers" "[I") (by decide +kernel)) (fun _ h9 => h9) rfl hin rfl (by decide +kernel) rfl rfl (Nat.le_of_ble_eq_true rfl) dX5_init_19 (fun H locs hP hD hS => ?_)
  have hP : va_P (dC, dI) vwCl [(h0, .inr (4, [.ref q_1, .ref q_2, .null, .null, .null, .null, .int 0, .null, .null, .null]))] H := hP
  have hD : va_D A [(h0, .inr (4, [.ref q_1, .ref q_2, .null, .null, .null, .null, .int 0, .null, .null, .null]))] := hD
  refine lv_aload_n hx hb dX5_init_22 rfl (lv_at hl 0 rfl) ?_
  refine lv_sipush (v := 300) hx hb dX5_init_23 (by decide) ?_
  refine pz_newd hx hb (hts (.arrayClass .int) (by decide +kernel)) hK hP hD hS hA 300 (by decide) (by decide) (by decide) (by decide) (by decide) dX5_init_26 (fun q_3 H hP hS => ?_)
  refine W.widen (k := 3) (n := 900) (by omega) (by omega) ?_
  refine va_putF (D := (dC, dI)) (ci := 4) (v := .ref q_3) (ty := .array .int) (C := RX5) (T := TX5) (N := 10) hx hb hts hiX5 tyX5 tyX5_ok nmX5 hown hK hP hD hS 0 rfl rfl 2 (by decide) (hts (.fieldLink RX5 18 "RegisterMill$Places" "goals" "[I") (by decide +kernel)) (fun _ h9 => h9) rfl hin rfl (by decide +kernel) rfl rfl (Nat.le_of_ble_eq_true rfl) dX5_init_28 (fun H locs hP hD hS => ?_)
  have hP : va_P (dC, dI) vwCl [(h0, .inr (4, [.ref q_1, .ref q_2, .ref q_3, .null, .null, .null, .int 0, .null, .null, .null]))] H := hP
  have hD : va_D A [(h0, .inr (4, [.ref q_1, .ref q_2, .ref q_3, .null, .null, .null, .int 0, .null, .null, .null]))] := hD
  refine lv_aload_n hx hb dX5_init_31 rfl (lv_at hl 0 rfl) ?_
  refine lv_sipush (v := 300) hx hb dX5_init_32 (by decide) ?_
  refine pz_newd hx hb (hts (.arrayClass .int) (by decide +kernel)) hK hP hD hS hA 300 (by decide) (by decide) (by decide) (by decide) (by decide) dX5_init_35 (fun q_4 H hP hS => ?_)
  refine W.widen (k := 4) (n := 1200) (by omega) (by omega) ?_
  refine va_putF (D := (dC, dI)) (ci := 4) (v := .ref q_4) (ty := .array .int) (C := RX5) (T := TX5) (N := 10) hx hb hts hiX5 tyX5 tyX5_ok nmX5 hown hK hP hD hS 0 rfl rfl 3 (by decide) (hts (.fieldLink RX5 21 "RegisterMill$Places" "written" "[I") (by decide +kernel)) (fun _ h9 => h9) rfl hin rfl (by decide +kernel) rfl rfl (Nat.le_of_ble_eq_true rfl) dX5_init_37 (fun H locs hP hD hS => ?_)
  have hP : va_P (dC, dI) vwCl [(h0, .inr (4, [.ref q_1, .ref q_2, .ref q_3, .ref q_4, .null, .null, .int 0, .null, .null, .null]))] H := hP
  have hD : va_D A [(h0, .inr (4, [.ref q_1, .ref q_2, .ref q_3, .ref q_4, .null, .null, .int 0, .null, .null, .null]))] := hD
  refine lv_aload_n hx hb dX5_init_40 rfl (lv_at hl 0 rfl) ?_
  refine lv_sipush (v := 300) hx hb dX5_init_41 (by decide) ?_
  refine pz_newd hx hb (hts (.arrayClass .int) (by decide +kernel)) hK hP hD hS hA 300 (by decide) (by decide) (by decide) (by decide) (by decide) dX5_init_44 (fun q_5 H hP hS => ?_)
  refine W.widen (k := 5) (n := 1500) (by omega) (by omega) ?_
  refine va_putF (D := (dC, dI)) (ci := 4) (v := .ref q_5) (ty := .array .int) (C := RX5) (T := TX5) (N := 10) hx hb hts hiX5 tyX5 tyX5_ok nmX5 hown hK hP hD hS 0 rfl rfl 4 (by decide) (hts (.fieldLink RX5 24 "RegisterMill$Places" "readCounts" "[I") (by decide +kernel)) (fun _ h9 => h9) rfl hin rfl (by decide +kernel) rfl rfl (Nat.le_of_ble_eq_true rfl) dX5_init_46 (fun H locs hP hD hS => ?_)
  have hP : va_P (dC, dI) vwCl [(h0, .inr (4, [.ref q_1, .ref q_2, .ref q_3, .ref q_4, .ref q_5, .null, .int 0, .null, .null, .null]))] H := hP
  have hD : va_D A [(h0, .inr (4, [.ref q_1, .ref q_2, .ref q_3, .ref q_4, .ref q_5, .null, .int 0, .null, .null, .null]))] := hD
  refine lv_aload_n hx hb dX5_init_49 rfl (lv_at hl 0 rfl) ?_
  refine lv_bipush (v := 6) hx hb dX5_init_50 (by decide) ?_
  refine lv_sipush (v := 300) hx hb dX5_init_52 (by decide) ?_
  refine mz_multi (n := 6) (k := 300) (N := 6) (K := 300) hx hb hown (hts (.classLink RX5 27 "[[I") (by decide +kernel)) hNW.1 (hts (.arrayClass .int) (by decide +kernel)) hP hD hS hA (by decide) (by decide) (by decide) (by decide) (by decide) (by decide) (by decide) (by decide) dX5_init_55 (fun q_6 H hP hD hS => ?_)
  have hP : va_P (dC, dI) vwCl [(h0, .inr (4, [.ref q_1, .ref q_2, .ref q_3, .ref q_4, .ref q_5, .null, .int 0, .null, .null, .null]))] H := hP
  have hD : va_D A [(h0, .inr (4, [.ref q_1, .ref q_2, .ref q_3, .ref q_4, .ref q_5, .null, .int 0, .null, .null, .null]))] := hD
  refine W.widen (k := 12) (n := 3306) (by omega) (by omega) ?_
  refine va_putF (D := (dC, dI)) (ci := 4) (v := .ref q_6) (ty := .array (.array .int)) (C := RX5) (T := TX5) (N := 10) hx hb hts hiX5 tyX5 tyX5_ok nmX5 hown hK hP hD hS 0 rfl rfl 5 (by decide) (hts (.fieldLink RX5 29 "RegisterMill$Places" "reads" "[[I") (by decide +kernel)) (fun _ h9 => h9) rfl hin rfl (by decide +kernel) rfl rfl (Nat.le_of_ble_eq_true rfl) dX5_init_59 (fun H locs hP hD hS => ?_)
  have hP : va_P (dC, dI) vwCl [(h0, .inr (4, [.ref q_1, .ref q_2, .ref q_3, .ref q_4, .ref q_5, .ref q_6, .int 0, .null, .null, .null]))] H := hP
  have hD : va_D A [(h0, .inr (4, [.ref q_1, .ref q_2, .ref q_3, .ref q_4, .ref q_5, .ref q_6, .int 0, .null, .null, .null]))] := hD
  refine lv_aload_n hx hb dX5_init_62 rfl (lv_at hl 0 rfl) ?_
  refine lv_sipush (v := 300) hx hb dX5_init_63 (by decide) ?_
  refine pz_newd hx hb (hts (.arrayClass .int) (by decide +kernel)) hK hP hD hS hA 300 (by decide) (by decide) (by decide) (by decide) (by decide) dX5_init_66 (fun q_7 H hP hS => ?_)
  refine W.widen (k := 13) (n := 3606) (by omega) (by omega) ?_
  refine va_putF (D := (dC, dI)) (ci := 4) (v := .ref q_7) (ty := .array .int) (C := RX5) (T := TX5) (N := 10) hx hb hts hiX5 tyX5 tyX5_ok nmX5 hown hK hP hD hS 0 rfl rfl 7 (by decide) (hts (.fieldLink RX5 32 "RegisterMill$Places" "newNumbers" "[I") (by decide +kernel)) (fun _ h9 => h9) rfl hin rfl (by decide +kernel) rfl rfl (Nat.le_of_ble_eq_true rfl) dX5_init_68 (fun H locs hP hD hS => ?_)
  have hP : va_P (dC, dI) vwCl [(h0, .inr (4, [.ref q_1, .ref q_2, .ref q_3, .ref q_4, .ref q_5, .ref q_6, .int 0, .ref q_7, .null, .null]))] H := hP
  have hD : va_D A [(h0, .inr (4, [.ref q_1, .ref q_2, .ref q_3, .ref q_4, .ref q_5, .ref q_6, .int 0, .ref q_7, .null, .null]))] := hD
  refine lv_aload_n hx hb dX5_init_71 rfl (lv_at hl 0 rfl) ?_
  refine lv_sipush (v := 300) hx hb dX5_init_72 (by decide) ?_
  refine pz_newz hx hb (hts (.arrayClass .boolean) (by decide +kernel)) hK hP hD hS hA 300 (by decide) (by decide) (by decide) (by decide) (by decide) dX5_init_75 (fun q_8 H hP hS => ?_)
  refine W.widen (k := 14) (n := 3906) (by omega) (by omega) ?_
  refine va_putF (D := (dC, dI)) (ci := 4) (v := .ref q_8) (ty := .array .boolean) (C := RX5) (T := TX5) (N := 10) hx hb hts hiX5 tyX5 tyX5_ok nmX5 hown hK hP hD hS 0 rfl rfl 8 (by decide) (hts (.fieldLink RX5 35 "RegisterMill$Places" "blockStarts" "[Z") (by decide +kernel)) (fun _ h9 => h9) rfl hin rfl (by decide +kernel) rfl rfl (Nat.le_of_ble_eq_true rfl) dX5_init_77 (fun H locs hP hD hS => ?_)
  have hP : va_P (dC, dI) vwCl [(h0, .inr (4, [.ref q_1, .ref q_2, .ref q_3, .ref q_4, .ref q_5, .ref q_6, .int 0, .ref q_7, .ref q_8, .null]))] H := hP
  have hD : va_D A [(h0, .inr (4, [.ref q_1, .ref q_2, .ref q_3, .ref q_4, .ref q_5, .ref q_6, .int 0, .ref q_7, .ref q_8, .null]))] := hD
  refine lv_aload_n hx hb dX5_init_80 rfl (lv_at hl 0 rfl) ?_
  refine lv_bipush (v := 22) hx hb dX5_init_81 (by decide) ?_
  refine pz_newd hx hb (hts (.arrayClass .int) (by decide +kernel)) hK hP hD hS hA 22 (by decide) (by decide) (by decide) (by decide) (by decide) dX5_init_83 (fun q_9 H hP hS => ?_)
  refine W.widen (k := 15) (n := 3928) (by omega) (by omega) ?_
  refine va_putF (D := (dC, dI)) (ci := 4) (v := .ref q_9) (ty := .array .int) (C := RX5) (T := TX5) (N := 10) hx hb hts hiX5 tyX5 tyX5_ok nmX5 hown hK hP hD hS 0 rfl rfl 9 (by decide) (hts (.fieldLink RX5 39 "RegisterMill$Places" "copyOf" "[I") (by decide +kernel)) (fun _ h9 => h9) rfl hin rfl (by decide +kernel) rfl rfl (Nat.le_of_ble_eq_true rfl) dX5_init_85 (fun H locs hP hD hS => ?_)
  have hP : va_P (dC, dI) vwCl [(h0, .inr (4, [.ref q_1, .ref q_2, .ref q_3, .ref q_4, .ref q_5, .ref q_6, .int 0, .ref q_7, .ref q_8, .ref q_9]))] H := hP
  have hD : va_D A [(h0, .inr (4, [.ref q_1, .ref q_2, .ref q_3, .ref q_4, .ref q_5, .ref q_6, .int 0, .ref q_7, .ref q_8, .ref q_9]))] := hD
  refine W.widen (k := 15) (n := 3928) (by decide) (by decide) ?_
  have hP9 := hP.sub (ws' := [(h0, .inr (4, [.ref q_1, .ref q_2, .ref q_3, .ref q_4, .ref q_5, .ref q_6, .int 0, .ref q_7, .ref q_8, .ref q_9]))]) [0] rfl
  have hD9 := hD.sub (ws' := [(h0, .inr (4, [.ref q_1, .ref q_2, .ref q_3, .ref q_4, .ref q_5, .ref q_6, .int 0, .ref q_7, .ref q_8, .ref q_9]))]) [0] (by decide) rfl
  exact W.vret hx hb hr (fun t ht hW => ⟨⟨(), rfl, trivial, ⟨q_1, q_2, q_3, q_4, q_5, q_6, q_7, q_8, q_9, pz_Bof hP9 hK hD9 ht hW⟩⟩, hS.F ht⟩) hS.2.2 dX5_init_88

def wq_X6_init : List Cond := .code yX6_init cX6_init 1 none :: ([.methodLink RX6 3 objectInit, .instanceMethod objectInit, .code objectInit ⟨#[0xb1]⟩ 1 none, .arrayClass .int, .fieldLink RX6 9 "RegisterMill$Program" "args" "[I", .fieldLink RX6 15 "RegisterMill$Program" "locals" "[I", .fieldLink RX6 18 "RegisterMill$Program" "starts" "[I", .fieldLink RX6 21 "RegisterMill$Program" "lengths" "[I", .fieldLink RX6 24 "RegisterMill$Program" "ops" "[I", .fieldLink RX6 27 "RegisterMill$Program" "numbers" "[I", .fieldLink RX6 30 "RegisterMill$Program" "depths" "[I"] ++ wsX60)
set_option maxHeartbeats 4000000 in
set_option maxRecDepth 100000 in
/-- Program(): seven rows -/
theorem c_X6_init (l : Launch) (dC : Nat → ClassId) (dI : Nat → Nat → Nat) (cyI : ClassId) (sz : Nat) (h0 : Nat) : Met l yX6_init wq_X6_init ({ frames := 1, cells := 7, slots := 948, locals := 12 }) (va_Pc [.ref h0] (pz_pre dC dI [(cyI, .int)] [(h0, .inr (5, [.null, .null, .null, .null, .null, .null, .null, .int 0, .int 0, .int 0]))] sz)) (va_Qv (S := Unit) (fun _ => True) (fun _ t => ∃ a_args a_locals a_starts a_lengths a_ops a_numbers a_depths : Nat, pz_B dC dI [(cyI, .int)] (va_A [(h0, .inr (5, [.null, .null, .null, .null, .null, .null, .null, .int 0, .int 0, .int 0]))] sz) [(h0, .inr (5, [.ref a_args, .ref a_locals, .ref a_starts, .ref a_lengths, .ref a_ops, .ref a_numbers, .ref a_depths, .int 0, .int 0, .int 0])), (a_args, .inl (cyI, 12, .inl (fun _ => 0))), (a_locals, .inl (cyI, 12, .inl (fun _ => 0))), (a_starts, .inl (cyI, 12, .inl (fun _ => 0))), (a_lengths, .inl (cyI, 12, .inl (fun _ => 0)))] t) (va_A [(h0, .inr (5, [.null, .null, .null, .null, .null, .null, .null, .int 0, .int 0, .int 0]))] sz)) 7 948 (va_A [(h0, .inr (5, [.null, .null, .null, .null, .null, .null, .null, .int 0, .int 0, .int 0]))] sz) := by
  refine Met.ofW (cc := cX6_init) (maxL := 1) (ret := none) (by decide) rfl ?_
  intro p e s m args below meth c s₁ B hml hv
  obtain ⟨rfl, hsz, hP, hK, hD0, hNW⟩ := hv
  have hx := B.exec
  have hb := B.bytes
  have hr := B.returns
  have hts := atoms_spec (ws := wq_X6_init) B.pre
  have hown : s.vm.findClass RX6 = some m.cls := findClass_of_methodNamed B.named
  have hlocks := B.notSynchronized
  have hin : meth.name = "<init>" := (name_of_methodNamed B.named B.method).1
  have hiX6 : ∀ w ∈ wsX60, w ∈ wq_X6_init := by decide +kernel
  subst hsz
  have hD := hD0.self (sz := s.heap.size)
  generalize hAe : va_A [(h0, .inr (5, [.null, .null, .null, .null, .null, .null, .null, .int 0, .int 0, .int 0]))] s.heap.size = A at hD ⊢
  have hA : ∀ q : Nat, s.heap.size ≤ q → A q := fun q h => by rw [← hAe]; exact Or.inr h
  have hS : va_S A s.heap s.heap [] := va_S.rf
  have hl := lv_entry ([.ref h0]) (n := 1) (Nat.le_of_ble_eq_true rfl)
  rw [lg_entry_eq]
  generalize (lg_sl ([.ref h0]) ++ List.replicate (1 - (lg_sl ([.ref h0])).length) Slot.unset).toArray = ls at hl ⊢
  have hl : lv_has ls 1 [(0, .ref h0)] := hl
  refine lv_aload_n hx hb dX6_init_0 rfl (lv_at hl 0 rfl) ?_
  refine W.objInit hx hb hown (hts (.methodLink RX6 3 objectInit) (by decide +kernel)) (hts (.instanceMethod objectInit) (by decide +kernel)) (hts (.code objectInit ⟨#[0xb1]⟩ 1 none) (by decide +kernel)) rfl (by rw [hml]; exact hl.1) rfl dX6_init_1 (Nat.le_of_ble_eq_true rfl) (Nat.le_of_ble_eq_true rfl) ?_
  refine W.eq (g2 := F0 m 4 ls []) rfl ?_
  refine lv_aload_n hx hb dX6_init_4 rfl (lv_at hl 0 rfl) ?_
  refine lv_bipush (v := 12) hx hb dX6_init_5 (by decide) ?_
  refine pz_newa hx hb (hts (.arrayClass .int) (by decide +kernel)) hK hP hD hS hA 12 (by decide) (by decide) (by decide) (by decide) (by decide) dX6_init_7 (fun q_1 H hP hD hS => ?_)
  have hP : va_P (dC, dI) vwCl [(h0, .inr (5, [.null, .null, .null, .null, .null, .null, .null, .int 0, .int 0, .int 0])), (q_1, .inl (cyI, 12, .inl (fun _ => 0)))] H := hP
  have hD : va_D A [(h0, .inr (5, [.null, .null, .null, .null, .null, .null, .null, .int 0, .int 0, .int 0])), (q_1, .inl (cyI, 12, .inl (fun _ => 0)))] := hD
  refine W.widen (k := 1) (n := 12) (by omega) (by omega) ?_
  refine va_putF (D := (dC, dI)) (ci := 5) (v := .ref q_1) (ty := .array .int) (C := RX6) (T := TX6) (N := 10) hx hb hts hiX6 tyX6 tyX6_ok nmX6 hown hK hP hD hS 0 rfl rfl 0 (by decide) (hts (.fieldLink RX6 9 "RegisterMill$Program" "args" "[I") (by decide +kernel)) (fun _ h9 => h9) rfl hin rfl (by decide +kernel) rfl rfl (Nat.le_of_ble_eq_true rfl) dX6_init_9 (fun H locs hP hD hS => ?_)
  have hP : va_P (dC, dI) vwCl [(h0, .inr (5, [.ref q_1, .null, .null, .null, .null, .null, .null, .int 0, .int 0, .int 0])), (q_1, .inl (cyI, 12, .inl (fun _ => 0)))] H := hP
  have hD : va_D A [(h0, .inr (5, [.ref q_1, .null, .null, .null, .null, .null, .null, .int 0, .int 0, .int 0])), (q_1, .inl (cyI, 12, .inl (fun _ => 0)))] := hD
  refine lv_aload_n hx hb dX6_init_12 rfl (lv_at hl 0 rfl) ?_
  refine lv_bipush (v := 12) hx hb dX6_init_13 (by decide) ?_
  refine pz_newa hx hb (hts (.arrayClass .int) (by decide +kernel)) hK hP hD hS hA 12 (by decide) (by decide) (by decide) (by decide) (by decide) dX6_init_15 (fun q_2 H hP hD hS => ?_)
  have hP : va_P (dC, dI) vwCl [(h0, .inr (5, [.ref q_1, .null, .null, .null, .null, .null, .null, .int 0, .int 0, .int 0])), (q_1, .inl (cyI, 12, .inl (fun _ => 0))), (q_2, .inl (cyI, 12, .inl (fun _ => 0)))] H := hP
  have hD : va_D A [(h0, .inr (5, [.ref q_1, .null, .null, .null, .null, .null, .null, .int 0, .int 0, .int 0])), (q_1, .inl (cyI, 12, .inl (fun _ => 0))), (q_2, .inl (cyI, 12, .inl (fun _ => 0)))] := hD
  refine W.widen (k := 2) (n := 24) (by omega) (by omega) ?_
  refine va_putF (D := (dC, dI)) (ci := 5) (v := .ref q_2) (ty := .array .int) (C := RX6) (T := TX6) (N := 10) hx hb hts hiX6 tyX6 tyX6_ok nmX6 hown hK hP hD hS 0 rfl rfl 1 (by decide) (hts (.fieldLink RX6 15 "RegisterMill$Program" "locals" "[I") (by decide +kernel)) (fun _ h9 => h9) rfl hin rfl (by decide +kernel) rfl rfl (Nat.le_of_ble_eq_true rfl) dX6_init_17 (fun H locs hP hD hS => ?_)
  have hP : va_P (dC, dI) vwCl [(h0, .inr (5, [.ref q_1, .ref q_2, .null, .null, .null, .null, .null, .int 0, .int 0, .int 0])), (q_1, .inl (cyI, 12, .inl (fun _ => 0))), (q_2, .inl (cyI, 12, .inl (fun _ => 0)))] H := hP
  have hD : va_D A [(h0, .inr (5, [.ref q_1, .ref q_2, .null, .null, .null, .null, .null, .int 0, .int 0, .int 0])), (q_1, .inl (cyI, 12, .inl (fun _ => 0))), (q_2, .inl (cyI, 12, .inl (fun _ => 0)))] := hD
  refine lv_aload_n hx hb dX6_init_20 rfl (lv_at hl 0 rfl) ?_
  refine lv_bipush (v := 12) hx hb dX6_init_21 (by decide) ?_
  refine pz_newa hx hb (hts (.arrayClass .int) (by decide +kernel)) hK hP hD hS hA 12 (by decide) (by decide) (by decide) (by decide) (by decide) dX6_init_23 (fun q_3 H hP hD hS => ?_)
  have hP : va_P (dC, dI) vwCl [(h0, .inr (5, [.ref q_1, .ref q_2, .null, .null, .null, .null, .null, .int 0, .int 0, .int 0])), (q_1, .inl (cyI, 12, .inl (fun _ => 0))), (q_2, .inl (cyI, 12, .inl (fun _ => 0))), (q_3, .inl (cyI, 12, .inl (fun _ => 0)))] H := hP
  have hD : va_D A [(h0, .inr (5, [.ref q_1, .ref q_2, .null, .null, .null, .null, .null, .int 0, .int 0, .int 0])), (q_1, .inl (cyI, 12, .inl (fun _ => 0))), (q_2, .inl (cyI, 12, .inl (fun _ => 0))), (q_3, .inl (cyI, 12, .inl (fun _ => 0)))] := hD
  refine W.widen (k := 3) (n := 36) (by omega) (by omega) ?_
  refine va_putF (D := (dC, dI)) (ci := 5) (v := .ref q_3) (ty := .array .int) (C := RX6) (T := TX6) (N := 10) hx hb hts hiX6 tyX6 tyX6_ok nmX6 hown hK hP hD hS 0 rfl rfl 2 (by decide) (hts (.fieldLink RX6 18 "RegisterMill$Program" "starts" "[I") (by decide +kernel)) (fun _ h9 => h9) rfl hin rfl (by decide +kernel) rfl rfl (Nat.le_of_ble_eq_true rfl) dX6_init_25 (fun H locs hP hD hS => ?_)
  have hP : va_P (dC, dI) vwCl [(h0, .inr (5, [.ref q_1, .ref q_2, .ref q_3, .null, .null, .null, .null, .int 0, .int 0, .int 0])), (q_1, .inl (cyI, 12, .inl (fun _ => 0))), (q_2, .inl (cyI, 12, .inl (fun _ => 0))), (q_3, .inl (cyI, 12, .inl (fun _ => 0)))] H := hP
  have hD : va_D A [(h0, .inr (5, [.ref q_1, .ref q_2, .ref q_3, .null, .null, .null, .null, .int 0, .int 0, .int 0])), (q_1, .inl (cyI, 12, .inl (fun _ => 0))), (q_2, .inl (cyI, 12, .inl (fun _ => 0))), (q_3, .inl (cyI, 12, .inl (fun _ => 0)))] := hD
  refine lv_aload_n hx hb dX6_init_28 rfl (lv_at hl 0 rfl) ?_
  refine lv_bipush (v := 12) hx hb dX6_init_29 (by decide) ?_
  refine pz_newa hx hb (hts (.arrayClass .int) (by decide +kernel)) hK hP hD hS hA 12 (by decide) (by decide) (by decide) (by decide) (by decide) dX6_init_31 (fun q_4 H hP hD hS => ?_)
  have hP : va_P (dC, dI) vwCl [(h0, .inr (5, [.ref q_1, .ref q_2, .ref q_3, .null, .null, .null, .null, .int 0, .int 0, .int 0])), (q_1, .inl (cyI, 12, .inl (fun _ => 0))), (q_2, .inl (cyI, 12, .inl (fun _ => 0))), (q_3, .inl (cyI, 12, .inl (fun _ => 0))), (q_4, .inl (cyI, 12, .inl (fun _ => 0)))] H := hP
  have hD : va_D A [(h0, .inr (5, [.ref q_1, .ref q_2, .ref q_3, .null, .null, .null, .null, .int 0, .int 0, .int 0])), (q_1, .inl (cyI, 12, .inl (fun _ => 0))), (q_2, .inl (cyI, 12, .inl (fun _ => 0))), (q_3, .inl (cyI, 12, .inl (fun _ => 0))), (q_4, .inl (cyI, 12, .inl (fun _ => 0)))] := hD
  refine W.widen (k := 4) (n := 48) (by omega) (by omega) ?_
  refine va_putF (D := (dC, dI)) (ci := 5) (v := .ref q_4) (ty := .array .int) (C := RX6) (T := TX6) (N := 10) hx hb hts hiX6 tyX6 tyX6_ok nmX6 hown hK hP hD hS 0 rfl rfl 3 (by decide) (hts (.fieldLink RX6 21 "RegisterMill$Program" "lengths" "[I") (by decide +kernel)) (fun _ h9 => h9) rfl hin rfl (by decide +kernel) rfl rfl (Nat.le_of_ble_eq_true rfl) dX6_init_33 (fun H locs hP hD hS => ?_)
  have hP : va_P (dC, dI) vwCl [(h0, .inr (5, [.ref q_1, .ref q_2, .ref q_3, .ref q_4, .null, .null, .null, .int 0, .int 0, .int 0])), (q_1, .inl (cyI, 12, .inl (fun _ => 0))), (q_2, .inl (cyI, 12, .inl (fun _ => 0))), (q_3, .inl (cyI, 12, .inl (fun _ => 0))), (q_4, .inl (cyI, 12, .inl (fun _ => 0)))] H := hP
  have hD : va_D A [(h0, .inr (5, [.ref q_1, .ref q_2, .ref q_3, .ref q_4, .null, .null, .null, .int 0, .int 0, .int 0])), (q_1, .inl (cyI, 12, .inl (fun _ => 0))), (q_2, .inl (cyI, 12, .inl (fun _ => 0))), (q_3, .inl (cyI, 12, .inl (fun _ => 0))), (q_4, .inl (cyI, 12, .inl (fun _ => 0)))] := hD
  refine lv_aload_n hx hb dX6_init_36 rfl (lv_at hl 0 rfl) ?_
  refine lv_sipush (v := 300) hx hb dX6_init_37 (by decide) ?_
  refine pz_newd hx hb (hts (.arrayClass .int) (by decide +kernel)) hK hP hD hS hA 300 (by decide) (by decide) (by decide) (by decide) (by decide) dX6_init_40 (fun q_5 H hP hS => ?_)
  refine W.widen (k := 5) (n := 348) (by omega) (by omega) ?_
  refine va_putF (D := (dC, dI)) (ci := 5) (v := .ref q_5) (ty := .array .int) (C := RX6) (T := TX6) (N := 10) hx hb hts hiX6 tyX6 tyX6_ok nmX6 hown hK hP hD hS 0 rfl rfl 4 (by decide) (hts (.fieldLink RX6 24 "RegisterMill$Program" "ops" "[I") (by decide +kernel)) (fun _ h9 => h9) rfl hin rfl (by decide +kernel) rfl rfl (Nat.le_of_ble_eq_true rfl) dX6_init_42 (fun H locs hP hD hS => ?_)
  have hP : va_P (dC, dI) vwCl [(h0, .inr (5, [.ref q_1, .ref q_2, .ref q_3, .ref q_4, .ref q_5, .null, .null, .int 0, .int 0, .int 0])), (q_1, .inl (cyI, 12, .inl (fun _ => 0))), (q_2, .inl (cyI, 12, .inl (fun _ => 0))), (q_3, .inl (cyI, 12, .inl (fun _ => 0))), (q_4, .inl (cyI, 12, .inl (fun _ => 0)))] H := hP
  have hD : va_D A [(h0, .inr (5, [.ref q_1, .ref q_2, .ref q_3, .ref q_4, .ref q_5, .null, .null, .int 0, .int 0, .int 0])), (q_1, .inl (cyI, 12, .inl (fun _ => 0))), (q_2, .inl (cyI, 12, .inl (fun _ => 0))), (q_3, .inl (cyI, 12, .inl (fun _ => 0))), (q_4, .inl (cyI, 12, .inl (fun _ => 0)))] := hD
  refine lv_aload_n hx hb dX6_init_45 rfl (lv_at hl 0 rfl) ?_
  refine lv_sipush (v := 300) hx hb dX6_init_46 (by decide) ?_
  refine pz_newd hx hb (hts (.arrayClass .int) (by decide +kernel)) hK hP hD hS hA 300 (by decide) (by decide) (by decide) (by decide) (by decide) dX6_init_49 (fun q_6 H hP hS => ?_)
  refine W.widen (k := 6) (n := 648) (by omega) (by omega) ?_
  refine va_putF (D := (dC, dI)) (ci := 5) (v := .ref q_6) (ty := .array .int) (C := RX6) (T := TX6) (N := 10) hx hb hts hiX6 tyX6 tyX6_ok nmX6 hown hK hP hD hS 0 rfl rfl 5 (by decide) (hts (.fieldLink RX6 27 "RegisterMill$Program" "numbers" "[I") (by decide +kernel)) (fun _ h9 => h9) rfl hin rfl (by decide +kernel) rfl rfl (Nat.le_of_ble_eq_true rfl) dX6_init_51 (fun H locs hP hD hS => ?_)
  have hP : va_P (dC, dI) vwCl [(h0, .inr (5, [.ref q_1, .ref q_2, .ref q_3, .ref q_4, .ref q_5, .ref q_6, .null, .int 0, .int 0, .int 0])), (q_1, .inl (cyI, 12, .inl (fun _ => 0))), (q_2, .inl (cyI, 12, .inl (fun _ => 0))), (q_3, .inl (cyI, 12, .inl (fun _ => 0))), (q_4, .inl (cyI, 12, .inl (fun _ => 0)))] H := hP
  have hD : va_D A [(h0, .inr (5, [.ref q_1, .ref q_2, .ref q_3, .ref q_4, .ref q_5, .ref q_6, .null, .int 0, .int 0, .int 0])), (q_1, .inl (cyI, 12, .inl (fun _ => 0))), (q_2, .inl (cyI, 12, .inl (fun _ => 0))), (q_3, .inl (cyI, 12, .inl (fun _ => 0))), (q_4, .inl (cyI, 12, .inl (fun _ => 0)))] := hD
  refine lv_aload_n hx hb dX6_init_54 rfl (lv_at hl 0 rfl) ?_
  refine lv_sipush (v := 300) hx hb dX6_init_55 (by decide) ?_
  refine pz_newd hx hb (hts (.arrayClass .int) (by decide +kernel)) hK hP hD hS hA 300 (by decide) (by decide) (by decide) (by decide) (by decide) dX6_init_58 (fun q_7 H hP hS => ?_)
  refine W.widen (k := 7) (n := 948) (by omega) (by omega) ?_
  refine va_putF (D := (dC, dI)) (ci := 5) (v := .ref q_7) (ty := .array .int) (C := RX6) (T := TX6) (N := 10) hx hb hts hiX6 tyX6 tyX6_ok nmX6 hown hK hP hD hS 0 rfl rfl 6 (by decide) (hts (.fieldLink RX6 30 "RegisterMill$Program" "depths" "[I") (by decide +kernel)) (fun _ h9 => h9) rfl hin rfl (by decide +kernel) rfl rfl (Nat.le_of_ble_eq_true rfl) dX6_init_60 (fun H locs hP hD hS => ?_)
  have hP : va_P (dC, dI) vwCl [(h0, .inr (5, [.ref q_1, .ref q_2, .ref q_3, .ref q_4, .ref q_5, .ref q_6, .ref q_7, .int 0, .int 0, .int 0])), (q_1, .inl (cyI, 12, .inl (fun _ => 0))), (q_2, .inl (cyI, 12, .inl (fun _ => 0))), (q_3, .inl (cyI, 12, .inl (fun _ => 0))), (q_4, .inl (cyI, 12, .inl (fun _ => 0)))] H := hP
  have hD : va_D A [(h0, .inr (5, [.ref q_1, .ref q_2, .ref q_3, .ref q_4, .ref q_5, .ref q_6, .ref q_7, .int 0, .int 0, .int 0])), (q_1, .inl (cyI, 12, .inl (fun _ => 0))), (q_2, .inl (cyI, 12, .inl (fun _ => 0))), (q_3, .inl (cyI, 12, .inl (fun _ => 0))), (q_4, .inl (cyI, 12, .inl (fun _ => 0)))] := hD
  refine W.widen (k := 7) (n := 948) (by decide) (by decide) ?_
  have hP9 := hP.sub (ws' := [(h0, .inr (5, [.ref q_1, .ref q_2, .ref q_3, .ref q_4, .ref q_5, .ref q_6, .ref q_7, .int 0, .int 0, .int 0])), (q_1, .inl (cyI, 12, .inl (fun _ => 0))), (q_2, .inl (cyI, 12, .inl (fun _ => 0))), (q_3, .inl (cyI, 12, .inl (fun _ => 0))), (q_4, .inl (cyI, 12, .inl (fun _ => 0)))]) [0, 1, 2, 3, 4] rfl
  have hD9 := hD.sub (ws' := [(h0, .inr (5, [.ref q_1, .ref q_2, .ref q_3, .ref q_4, .ref q_5, .ref q_6, .ref q_7, .int 0, .int 0, .int 0])), (q_1, .inl (cyI, 12, .inl (fun _ => 0))), (q_2, .inl (cyI, 12, .inl (fun _ => 0))), (q_3, .inl (cyI, 12, .inl (fun _ => 0))), (q_4, .inl (cyI, 12, .inl (fun _ => 0)))]) [0, 1, 2, 3, 4] (by decide) rfl
  exact W.vret hx hb hr (fun t ht hW => ⟨⟨(), rfl, trivial, ⟨q_1, q_2, q_3, q_4, q_5, q_6, q_7, pz_Bof hP9 hK hD9 ht hW⟩⟩, hS.F ht⟩) hS.2.2 dX6_init_63

def wq_X0_init : List Cond := .code yX0_init cX0_init 2 none :: ([.methodLink RX0 3 objectInit, .instanceMethod objectInit, .code objectInit ⟨#[0xb1]⟩ 1 none, .arrayClass .boolean, .fieldLink RX0 9 "RegisterMill$Checker" "passed" "[Z", .fieldLink RX0 15 "RegisterMill$Checker" "program" "LRegisterMill$Program;"] ++ wsX00)
set_option maxHeartbeats 4000000 in
set_option maxRecDepth 100000 in
/-- Checker(program) -/
theorem c_X0_init (l : Launch) (dC : Nat → ClassId) (dI : Nat → Nat → Nat) (cyI : ClassId) (sz : Nat) (h0 : Nat) (pr : Nat) : Met l yX0_init wq_X0_init ({ frames := 1, cells := 1, slots := 300, locals := 12 }) (va_Pc [.ref h0, .ref pr] (pz_pre dC dI [(cyI, .int)] [(h0, .inr (0, [.null, .null, .int 0]))] sz)) (va_Qv (S := Unit) (fun _ => True) (fun _ t => ∃ a_passed : Nat, pz_B dC dI [(cyI, .int)] (va_A [(h0, .inr (0, [.null, .null, .int 0]))] sz) [(h0, .inr (0, [.ref pr, .ref a_passed, .int 0]))] t) (va_A [(h0, .inr (0, [.null, .null, .int 0]))] sz)) 1 300 (va_A [(h0, .inr (0, [.null, .null, .int 0]))] sz) := by
  refine Met.ofW (cc := cX0_init) (maxL := 2) (ret := none) (by decide) rfl ?_
  intro p e s m args below meth c s₁ B hml hv
  obtain ⟨rfl, hsz, hP, hK, hD0, hNW⟩ := hv
  have hx := B.exec
  have hb := B.bytes
  have hr := B.returns
  have hts := atoms_spec (ws := wq_X0_init) B.pre
  have hown : s.vm.findClass RX0 = some m.cls := findClass_of_methodNamed B.named
  have hlocks := B.notSynchronized
  have hin : meth.name = "<init>" := (name_of_methodNamed B.named B.method).1
  have hiX0 : ∀ w ∈ wsX00, w ∈ wq_X0_init := by decide +kernel
  subst hsz
  have hD := hD0.self (sz := s.heap.size)
  generalize hAe : va_A [(h0, .inr (0, [.null, .null, .int 0]))] s.heap.size = A at hD ⊢
  have hA : ∀ q : Nat, s.heap.size ≤ q → A q := fun q h => by rw [← hAe]; exact Or.inr h
  have hS : va_S A s.heap s.heap [] := va_S.rf
  have hl := lv_entry ([.ref h0, .ref pr]) (n := 2) (Nat.le_of_ble_eq_true rfl)
  rw [lg_entry_eq]
  generalize (lg_sl ([.ref h0, .ref pr]) ++ List.replicate (2 - (lg_sl ([.ref h0, .ref pr])).length) Slot.unset).toArray = ls at hl ⊢
  have hl : lv_has ls 2 [(0, .ref h0), (1, .ref pr)] := hl
  refine lv_aload_n hx hb dX0_init_0 rfl (lv_at hl 0 rfl) ?_
  refine W.objInit hx hb hown (hts (.methodLink RX0 3 objectInit) (by decide +kernel)) (hts (.instanceMethod objectInit) (by decide +kernel)) (hts (.code objectInit ⟨#[0xb1]⟩ 1 none) (by decide +kernel)) rfl (by rw [hml]; exact hl.1) rfl dX0_init_1 (Nat.le_of_ble_eq_true rfl) (Nat.le_of_ble_eq_true rfl) ?_
  refine W.eq (g2 := F0 m 4 ls []) rfl ?_
  refine lv_aload_n hx hb dX0_init_4 rfl (lv_at hl 0 rfl) ?_
  refine lv_sipush (v := 300) hx hb dX0_init_5 (by decide) ?_
  refine pz_newz hx hb (hts (.arrayClass .boolean) (by decide +kernel)) hK hP hD hS hA 300 (by decide) (by decide) (by decide) (by decide) (by decide) dX0_init_8 (fun q_1 H hP hS => ?_)
  refine W.widen (k := 1) (n := 300) (by omega) (by omega) ?_
  refine va_putF (D := (dC, dI)) (ci := 0) (v := .ref q_1) (ty := .array .boolean) (C := RX0) (T := TX0) (N := 3) hx hb hts hiX0 tyX0 tyX0_ok nmX0 hown hK hP hD hS 0 rfl rfl 1 (by decide) (hts (.fieldLink RX0 9 "RegisterMill$Checker" "passed" "[Z") (by decide +kernel)) (fun _ h9 => h9) rfl hin rfl (by decide +kernel) rfl rfl (Nat.le_of_ble_eq_true rfl) dX0_init_10 (fun H locs hP hD hS => ?_)
  have hP : va_P (dC, dI) vwCl [(h0, .inr (0, [.null, .ref q_1, .int 0]))] H := hP
  have hD : va_D A [(h0, .inr (0, [.null, .ref q_1, .int 0]))] := hD
  refine lv_aload_n hx hb dX0_init_13 rfl (lv_at hl 0 rfl) ?_
  refine lv_aload_n hx hb dX0_init_14 rfl (lv_at hl 1 rfl) ?_
  refine va_putF (D := (dC, dI)) (ci := 0) (v := .ref pr) (ty := .object "RegisterMill$Program") (C := RX0) (T := TX0) (N := 3) hx hb hts hiX0 tyX0 tyX0_ok nmX0 hown hK hP hD hS 0 rfl rfl 0 (by decide) (hts (.fieldLink RX0 15 "RegisterMill$Checker" "program" "LRegisterMill$Program;") (by decide +kernel)) (fun _ h9 => h9) rfl hin rfl (by decide +kernel) rfl rfl (Nat.le_of_ble_eq_true rfl) dX0_init_15 (fun H locs hP hD hS => ?_)
  have hP : va_P (dC, dI) vwCl [(h0, .inr (0, [.ref pr, .ref q_1, .int 0]))] H := hP
  have hD : va_D A [(h0, .inr (0, [.ref pr, .ref q_1, .int 0]))] := hD
  refine W.widen (k := 1) (n := 300) (by decide) (by decide) ?_
  have hP9 := hP.sub (ws' := [(h0, .inr (0, [.ref pr, .ref q_1, .int 0]))]) [0] rfl
  have hD9 := hD.sub (ws' := [(h0, .inr (0, [.ref pr, .ref q_1, .int 0]))]) [0] (by decide) rfl
  exact W.vret hx hb hr (fun t ht hW => ⟨⟨(), rfl, trivial, ⟨q_1, pz_Bof hP9 hK hD9 ht hW⟩⟩, hS.F ht⟩) hS.2.2 dX0_init_18

def wq_X10_init : List Cond := .code yX10_init cX10_init 4 none :: ([.methodLink RX10 3 objectInit, .instanceMethod objectInit, .code objectInit ⟨#[0xb1]⟩ 1 none, .arrayClass .int, .fieldLink RX10 9 "RegisterMill$Writer" "firstOps" "[I", .fieldLink RX10 15 "RegisterMill$Writer" "places" "LRegisterMill$Places;", .fieldLink RX10 19 "RegisterMill$Writer" "homes" "LRegisterMill$Homes;", .fieldLink RX10 23 "RegisterMill$Writer" "code" "LRegisterMill$Code;"] ++ wsX100)
set_option maxHeartbeats 4000000 in
set_option maxRecDepth 100000 in
/-- Writer(places, homes, code) -/
theorem c_X10_init (l : Launch) (dC : Nat → ClassId) (dI : Nat → Nat → Nat) (cyI : ClassId) (sz : Nat) (h0 : Nat) (pl : Nat) (ho : Nat) (co : Nat) : Met l yX10_init wq_X10_init ({ frames := 1, cells := 1, slots := 300, locals := 12 }) (va_Pc [.ref h0, .ref pl, .ref ho, .ref co] (pz_pre dC dI [(cyI, .int)] [(h0, .inr (9, [.null, .null, .null, .null, .int 0, .int 0, .int 0]))] sz)) (va_Qv (S := Unit) (fun _ => True) (fun _ t => ∃ a_firstOps : Nat, pz_B dC dI [(cyI, .int)] (va_A [(h0, .inr (9, [.null, .null, .null, .null, .int 0, .int 0, .int 0]))] sz) [(h0, .inr (9, [.ref pl, .ref ho, .ref co, .ref a_firstOps, .int 0, .int 0, .int 0]))] t) (va_A [(h0, .inr (9, [.null, .null, .null, .null, .int 0, .int 0, .int 0]))] sz)) 1 300 (va_A [(h0, .inr (9, [.null, .null, .null, .null, .int 0, .int 0, .int 0]))] sz) := by
  refine Met.ofW (cc := cX10_init) (maxL := 4) (ret := none) (by decide) rfl ?_
  intro p e s m args below meth c s₁ B hml hv
  obtain ⟨rfl, hsz, hP, hK, hD0, hNW⟩ := hv
  have hx := B.exec
  have hb := B.bytes
  have hr := B.returns
  have hts := atoms_spec (ws := wq_X10_init) B.pre
  have hown : s.vm.findClass RX10 = some m.cls := findClass_of_methodNamed B.named
  have hlocks := B.notSynchronized
  have hin : meth.name = "<init>" := (name_of_methodNamed B.named B.method).1
  have hiX10 : ∀ w ∈ wsX100, w ∈ wq_X10_init := by decide +kernel
  subst hsz
  have hD := hD0.self (sz := s.heap.size)
  generalize hAe : va_A [(h0, .inr (9, [.null, .null, .null, .null, .int 0, .int 0, .int 0]))] s.heap.size = A at hD ⊢
  have hA : ∀ q : Nat, s.heap.size ≤ q → A q := fun q h => by rw [← hAe]; exact Or.inr h
  have hS : va_S A s.heap s.heap [] := va_S.rf
  have hl := lv_entry ([.ref h0, .ref pl, .ref ho, .ref co]) (n := 4) (Nat.le_of_ble_eq_true rfl)
  rw [lg_entry_eq]
  generalize (lg_sl ([.ref h0, .ref pl, .ref ho, .ref co]) ++ List.replicate (4 - (lg_sl ([.ref h0, .ref pl, .ref ho, .ref co])).length) Slot.unset).toArray = ls at hl ⊢
  have hl : lv_has ls 4 [(0, .ref h0), (1, .ref pl), (2, .ref ho), (3, .ref co)] := hl
  refine lv_aload_n hx hb dX10_init_0 rfl (lv_at hl 0 rfl) ?_
  refine W.objInit hx hb hown (hts (.methodLink RX10 3 objectInit) (by decide +kernel)) (hts (.instanceMethod objectInit) (by decide +kernel)) (hts (.code objectInit ⟨#[0xb1]⟩ 1 none) (by decide +kernel)) rfl (by rw [hml]; exact hl.1) rfl dX10_init_1 (Nat.le_of_ble_eq_true rfl) (Nat.le_of_ble_eq_true rfl) ?_
  refine W.eq (g2 := F0 m 4 ls []) rfl ?_
  refine lv_aload_n hx hb dX10_init_4 rfl (lv_at hl 0 rfl) ?_
  refine lv_sipush (v := 300) hx hb dX10_init_5 (by decide) ?_
  refine pz_newd hx hb (hts (.arrayClass .int) (by decide +kernel)) hK hP hD hS hA 300 (by decide) (by decide) (by decide) (by decide) (by decide) dX10_init_8 (fun q_1 H hP hS => ?_)
  refine W.widen (k := 1) (n := 300) (by omega) (by omega) ?_
  refine va_putF (D := (dC, dI)) (ci := 9) (v := .ref q_1) (ty := .array .int) (C := RX10) (T := TX10) (N := 7) hx hb hts hiX10 tyX10 tyX10_ok nmX10 hown hK hP hD hS 0 rfl rfl 3 (by decide) (hts (.fieldLink RX10 9 "RegisterMill$Writer" "firstOps" "[I") (by decide +kernel)) (fun _ h9 => h9) rfl hin rfl (by decide +kernel) rfl rfl (Nat.le_of_ble_eq_true rfl) dX10_init_10 (fun H locs hP hD hS => ?_)
  have hP : va_P (dC, dI) vwCl [(h0, .inr (9, [.null, .null, .null, .ref q_1, .int 0, .int 0, .int 0]))] H := hP
  have hD : va_D A [(h0, .inr (9, [.null, .null, .null, .ref q_1, .int 0, .int 0, .int 0]))] := hD
  refine lv_aload_n hx hb dX10_init_13 rfl (lv_at hl 0 rfl) ?_
  refine lv_aload_n hx hb dX10_init_14 rfl (lv_at hl 1 rfl) ?_
  refine va_putF (D := (dC, dI)) (ci := 9) (v := .ref pl) (ty := .object "RegisterMill$Places") (C := RX10) (T := TX10) (N := 7) hx hb hts hiX10 tyX10 tyX10_ok nmX10 hown hK hP hD hS 0 rfl rfl 0 (by decide) (hts (.fieldLink RX10 15 "RegisterMill$Writer" "places" "LRegisterMill$Places;") (by decide +kernel)) (fun _ h9 => h9) rfl hin rfl (by decide +kernel) rfl rfl (Nat.le_of_ble_eq_true rfl) dX10_init_15 (fun H locs hP hD hS => ?_)
  have hP : va_P (dC, dI) vwCl [(h0, .inr (9, [.ref pl, .null, .null, .ref q_1, .int 0, .int 0, .int 0]))] H := hP
  have hD : va_D A [(h0, .inr (9, [.ref pl, .null, .null, .ref q_1, .int 0, .int 0, .int 0]))] := hD
  refine lv_aload_n hx hb dX10_init_18 rfl (lv_at hl 0 rfl) ?_
  refine lv_aload_n hx hb dX10_init_19 rfl (lv_at hl 2 rfl) ?_
  refine va_putF (D := (dC, dI)) (ci := 9) (v := .ref ho) (ty := .object "RegisterMill$Homes") (C := RX10) (T := TX10) (N := 7) hx hb hts hiX10 tyX10 tyX10_ok nmX10 hown hK hP hD hS 0 rfl rfl 1 (by decide) (hts (.fieldLink RX10 19 "RegisterMill$Writer" "homes" "LRegisterMill$Homes;") (by decide +kernel)) (fun _ h9 => h9) rfl hin rfl (by decide +kernel) rfl rfl (Nat.le_of_ble_eq_true rfl) dX10_init_20 (fun H locs hP hD hS => ?_)
  have hP : va_P (dC, dI) vwCl [(h0, .inr (9, [.ref pl, .ref ho, .null, .ref q_1, .int 0, .int 0, .int 0]))] H := hP
  have hD : va_D A [(h0, .inr (9, [.ref pl, .ref ho, .null, .ref q_1, .int 0, .int 0, .int 0]))] := hD
  refine lv_aload_n hx hb dX10_init_23 rfl (lv_at hl 0 rfl) ?_
  refine lv_aload_n hx hb dX10_init_24 rfl (lv_at hl 3 rfl) ?_
  refine va_putF (D := (dC, dI)) (ci := 9) (v := .ref co) (ty := .object "RegisterMill$Code") (C := RX10) (T := TX10) (N := 7) hx hb hts hiX10 tyX10 tyX10_ok nmX10 hown hK hP hD hS 0 rfl rfl 2 (by decide) (hts (.fieldLink RX10 23 "RegisterMill$Writer" "code" "LRegisterMill$Code;") (by decide +kernel)) (fun _ h9 => h9) rfl hin rfl (by decide +kernel) rfl rfl (Nat.le_of_ble_eq_true rfl) dX10_init_25 (fun H locs hP hD hS => ?_)
  have hP : va_P (dC, dI) vwCl [(h0, .inr (9, [.ref pl, .ref ho, .ref co, .ref q_1, .int 0, .int 0, .int 0]))] H := hP
  have hD : va_D A [(h0, .inr (9, [.ref pl, .ref ho, .ref co, .ref q_1, .int 0, .int 0, .int 0]))] := hD
  refine W.widen (k := 1) (n := 300) (by decide) (by decide) ?_
  have hP9 := hP.sub (ws' := [(h0, .inr (9, [.ref pl, .ref ho, .ref co, .ref q_1, .int 0, .int 0, .int 0]))]) [0] rfl
  have hD9 := hD.sub (ws' := [(h0, .inr (9, [.ref pl, .ref ho, .ref co, .ref q_1, .int 0, .int 0, .int 0]))]) [0] (by decide) rfl
  exact W.vret hx hb hr (fun t ht hW => ⟨⟨(), rfl, trivial, ⟨q_1, pz_Bof hP9 hK hD9 ht hW⟩⟩, hS.F ht⟩) hS.2.2 dX10_init_28
