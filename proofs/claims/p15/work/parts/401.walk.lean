def f_X2_slotOf (N n : Nat) (σ : Sg) (p0 : Int32) (p1 : Int32) : Option (Int32 × Sg) := gb ((p0 * 22) + p1) 264 (some (σ 36 (ix ((p0 * 22) + p1)), σ))
set_option maxHeartbeats 4000000 in
set_option maxRecDepth 100000 in
theorem c_X2_slotOf {l : Launch} {g : GG} {q : Nat} (N n : Nat) {σ : Sg} {p0 : Int32} {p1 : Int32} {r : Int32} {σ' : Sg} (hm : f_X2_slotOf N n σ p0 p1 = some (r, σ')) : CTi l yX2_slotOf cX2_slotOf 3 (some .int) 0 0 g q n [.ref (ga g 32), .int p0, .int p1] σ r σ' := by
  refine e_i (r := r) (by decide) (Nat.le_of_ble_eq_true rfl) ?_
  intro p e s m args below meth c A Q ls hC hl hI
  obtain ⟨hX, hK, hN, hZ, hA, hR⟩ := id hC
  have hx : p.tables.exec = Jvm.exec := hX.1
  have hb : c.code = cX2_slotOf := hX.2.1
  have hml : c.maxLocals = 3 := hX.2.2.1
  have hown : s.vm.findClass RX2 = some m.cls := hX.2.2.2.1
  have ht : ∀ w ∈ BIG, w.before args s = true := hX.2.2.2.2
  have hl : lv_has ls 3 [(0, .ref (ga g 32)), (1, .int p0), (2, .int p1)] := hl
  unfold f_X2_slotOf at hm
  refine lv_aload_n hx hb dX2_slotOf_0 rfl (lv_at hl 0 rfl) ?_
  refine gf_32_3 hx hb ht hK hI mw_103 (fun _ h9 => h9) hown dX2_slotOf_1 ?_
  refine lv_iload_n hx hb dX2_slotOf_4 rfl (lv_at hl 1 rfl) ?_
  refine lv_bipush (v := 22) hx hb dX2_slotOf_5 (by decide) ?_
  refine lv_imul hx hb dX2_slotOf_7 ?_
  refine lv_iload_n hx hb dX2_slotOf_8 rfl (lv_at hl 2 rfl) ?_
  refine lv_iadd hx hb dX2_slotOf_9 ?_
  obtain ⟨g1, hm⟩ := gb_some hm
  refine ld_36 hx hb hK hI g1 (v := σ 36 (ix ((p0 * 22) + p1))) rfl dX2_slotOf_10 ?_
  exact hR _ _ _ _ _ _ hm hI dX2_slotOf_11
def f_X1_add (N n : Nat) (σ : Sg) (p0 : Int32) (p1 : Int32) (p2 : Int32) (p3 : Int32) : Option (Int32 × Sg) := gb ((σ 39 2) * 5) n (gb (((σ 39 2) * 5) + 1) n (gb (((σ 39 2) * 5) + 2) n (gb (((σ 39 2) * 5) + 3) n (gb (((σ 39 2) * 5) + 4) n (gb p0 12 (gb p0 12 (some (0, sg (sg (sg (sg (sg (sg (sg σ 42 (ix ((σ 39 2) * 5)) p1) 42 (ix (((σ 39 2) * 5) + 1)) p2) 42 (ix (((σ 39 2) * 5) + 2)) p3) 42 (ix (((σ 39 2) * 5) + 3)) 0) 42 (ix (((σ 39 2) * 5) + 4)) 0) 39 2 ((σ 39 2) + 1)) 41 (ix p0) ((σ 41 (ix p0)) + 1)))))))))
set_option maxHeartbeats 4000000 in
set_option maxRecDepth 100000 in
theorem c_X1_add {l : Launch} {g : GG} {q : Nat} (N n : Nat) {σ : Sg} {p0 : Int32} {p1 : Int32} {p2 : Int32} {p3 : Int32} {r : Int32} {σ' : Sg} (hm : f_X1_add N n σ p0 p1 p2 p3 = some (r, σ')) : CTv l yX1_add cX1_add 6 none 0 0 g q n [.ref (ga g 39), .int p0, .int p1, .int p2, .int p3] σ σ' := by
  refine e_v (r := r) (by decide) (Nat.le_of_ble_eq_true rfl) ?_
  intro p e s m args below meth c A Q ls hC hl hI
  obtain ⟨hX, hK, hN, hZ, hA, hR⟩ := id hC
  have hx : p.tables.exec = Jvm.exec := hX.1
  have hb : c.code = cX1_add := hX.2.1
  have hml : c.maxLocals = 6 := hX.2.2.1
  have hown : s.vm.findClass RX1 = some m.cls := hX.2.2.2.1
  have ht : ∀ w ∈ BIG, w.before args s = true := hX.2.2.2.2
  have hl : lv_has ls 6 [(0, .ref (ga g 39)), (1, .int p0), (2, .int p1), (3, .int p2), (4, .int p3)] := hl
  unfold f_X1_add at hm
  refine lv_aload_n hx hb dX1_add_0 rfl (lv_at hl 0 rfl) ?_
  refine gf_39_2 hx hb ht hK hI (v := σ 39 2) rfl mw_83 (fun _ h9 => h9) hown dX1_add_1 ?_
  refine lv_iconst (v := 5) hx hb dX1_add_4 (by decide) ?_
  refine lv_imul hx hb dX1_add_5 ?_
  refine lv_istore (lv' := [(5, .int ((σ 39 2) * 5)), (0, .ref (ga g 39)), (1, .int p0), (2, .int p1), (3, .int p2), (4, .int p3)]) hx hb dX1_add_6 hl (by decide) rfl (fun ls hl => ?_)
  refine lv_aload_n hx hb dX1_add_8 rfl (lv_at hl 1 rfl) ?_
  refine gf_39_3 hx hb ht hK hI mw_69 (fun _ h9 => h9) hown dX1_add_9 ?_
  refine lv_iload hx hb dX1_add_12 (lv_at hl 0 rfl) ?_
  refine lv_iload_n hx hb dX1_add_14 rfl (lv_at hl 3 rfl) ?_
  obtain ⟨g1, hm⟩ := gb_some hm
  refine sv_42 hx hb hK hI g1 dX1_add_15 (fun H locs hI => ?_)
  refine lv_aload_n hx hb dX1_add_16 rfl (lv_at hl 1 rfl) ?_
  refine gf_39_3 hx hb ht hK hI mw_69 (fun _ h9 => h9) hown dX1_add_17 ?_
  refine lv_iload hx hb dX1_add_20 (lv_at hl 0 rfl) ?_
  refine lv_iconst (v := 1) hx hb dX1_add_22 (by decide) ?_
  refine lv_iadd hx hb dX1_add_23 ?_
  refine lv_iload_n hx hb dX1_add_24 rfl (lv_at hl 4 rfl) ?_
  obtain ⟨g2, hm⟩ := gb_some hm
  refine sv_42 hx hb hK hI g2 dX1_add_25 (fun H locs hI => ?_)
  refine lv_aload_n hx hb dX1_add_26 rfl (lv_at hl 1 rfl) ?_
  refine gf_39_3 hx hb ht hK hI mw_69 (fun _ h9 => h9) hown dX1_add_27 ?_
  refine lv_iload hx hb dX1_add_30 (lv_at hl 0 rfl) ?_
  refine lv_iconst (v := 2) hx hb dX1_add_32 (by decide) ?_
  refine lv_iadd hx hb dX1_add_33 ?_
  refine lv_iload hx hb dX1_add_34 (lv_at hl 5 rfl) ?_
  obtain ⟨g3, hm⟩ := gb_some hm
  refine sv_42 hx hb hK hI g3 dX1_add_36 (fun H locs hI => ?_)
  refine lv_aload_n hx hb dX1_add_37 rfl (lv_at hl 1 rfl) ?_
  refine gf_39_3 hx hb ht hK hI mw_69 (fun _ h9 => h9) hown dX1_add_38 ?_
  refine lv_iload hx hb dX1_add_41 (lv_at hl 0 rfl) ?_
  refine lv_iconst (v := 3) hx hb dX1_add_43 (by decide) ?_
  refine lv_iadd hx hb dX1_add_44 ?_
  refine lv_iconst (v := 0) hx hb dX1_add_45 (by decide) ?_
  obtain ⟨g4, hm⟩ := gb_some hm
  refine sv_42 hx hb hK hI g4 dX1_add_46 (fun H locs hI => ?_)
  refine lv_aload_n hx hb dX1_add_47 rfl (lv_at hl 1 rfl) ?_
  refine gf_39_3 hx hb ht hK hI mw_69 (fun _ h9 => h9) hown dX1_add_48 ?_
  refine lv_iload hx hb dX1_add_51 (lv_at hl 0 rfl) ?_
  refine lv_iconst (v := 4) hx hb dX1_add_53 (by decide) ?_
  refine lv_iadd hx hb dX1_add_54 ?_
  refine lv_iconst (v := 0) hx hb dX1_add_55 (by decide) ?_
  obtain ⟨g5, hm⟩ := gb_some hm
  refine sv_42 hx hb hK hI g5 dX1_add_56 (fun H locs hI => ?_)
  refine lv_aload_n hx hb dX1_add_57 rfl (lv_at hl 1 rfl) ?_
  refine lv_dup hx hb dX1_add_58 rfl ?_
  refine gf_39_2 hx hb ht hK hI (v := σ 39 2) rfl mw_83 (fun _ h9 => h9) hown dX1_add_59 ?_
  refine lv_iconst (v := 1) hx hb dX1_add_62 (by decide) ?_
  refine lv_iadd hx hb dX1_add_63 ?_
  refine pf_39_2 hx hb ht hK hI mw_83 (fun _ h9 => h9) hown dX1_add_64 (fun H locs hI => ?_)
  refine lv_aload_n hx hb dX1_add_67 rfl (lv_at hl 1 rfl) ?_
  refine gf_39_1 hx hb ht hK hI mw_68 (fun _ h9 => h9) hown dX1_add_68 ?_
  refine lv_iload_n hx hb dX1_add_71 rfl (lv_at hl 2 rfl) ?_
  refine lv_dup2_11 hx hb dX1_add_72 rfl rfl ?_
  obtain ⟨g6, hm⟩ := gb_some hm
  refine ld_41 hx hb hK hI g6 (v := σ 41 (ix p0)) rfl dX1_add_73 ?_
  refine lv_iconst (v := 1) hx hb dX1_add_74 (by decide) ?_
  refine lv_iadd hx hb dX1_add_75 ?_
  obtain ⟨g7, hm⟩ := gb_some hm
  refine sv_41 hx hb hK hI g7 dX1_add_76 (fun H locs hI => ?_)
  exact hR _ _ _ _ _ hm hI dX1_add_77
def f_X2_registerOf (N n : Nat) (σ : Sg) (p0 : Int32) (p1 : Int32) : Option (Int32 × Sg) := gb ((p0 * 22) + p1) 264 (some (σ 35 (ix ((p0 * 22) + p1)), σ))
set_option maxHeartbeats 4000000 in
set_option maxRecDepth 100000 in
theorem c_X2_registerOf {l : Launch} {g : GG} {q : Nat} (N n : Nat) {σ : Sg} {p0 : Int32} {p1 : Int32} {r : Int32} {σ' : Sg} (hm : f_X2_registerOf N n σ p0 p1 = some (r, σ')) : CTi l yX2_registerOf cX2_registerOf 3 (some .int) 0 0 g q n [.ref (ga g 32), .int p0, .int p1] σ r σ' := by
  refine e_i (r := r) (by decide) (Nat.le_of_ble_eq_true rfl) ?_
  intro p e s m args below meth c A Q ls hC hl hI
  obtain ⟨hX, hK, hN, hZ, hA, hR⟩ := id hC
  have hx : p.tables.exec = Jvm.exec := hX.1
  have hb : c.code = cX2_registerOf := hX.2.1
  have hml : c.maxLocals = 3 := hX.2.2.1
  have hown : s.vm.findClass RX2 = some m.cls := hX.2.2.2.1
  have ht : ∀ w ∈ BIG, w.before args s = true := hX.2.2.2.2
  have hl : lv_has ls 3 [(0, .ref (ga g 32)), (1, .int p0), (2, .int p1)] := hl
  unfold f_X2_registerOf at hm
  refine lv_aload_n hx hb dX2_registerOf_0 rfl (lv_at hl 0 rfl) ?_
  refine gf_32_2 hx hb ht hK hI mw_102 (fun _ h9 => h9) hown dX2_registerOf_1 ?_
  refine lv_iload_n hx hb dX2_registerOf_4 rfl (lv_at hl 1 rfl) ?_
  refine lv_bipush (v := 22) hx hb dX2_registerOf_5 (by decide) ?_
  refine lv_imul hx hb dX2_registerOf_7 ?_
  refine lv_iload_n hx hb dX2_registerOf_8 rfl (lv_at hl 2 rfl) ?_
  refine lv_iadd hx hb dX2_registerOf_9 ?_
  obtain ⟨g1, hm⟩ := gb_some hm
  refine ld_35 hx hb hK hI g1 (v := σ 35 (ix ((p0 * 22) + p1))) rfl dX2_registerOf_10 ?_
  exact hR _ _ _ _ _ _ hm hI dX2_registerOf_11
def f_X10_loaded (N n : Nat) (σ : Sg) (p0 : Int32) (p1 : Int32) : Option (Int32 × Sg) := bd (f_X2_slotOf N n σ (σ 43 4) p0) (fun r1 σ2 => if r1 = (-1) then (bd (f_X2_registerOf N n σ2 (σ2 43 4) p0) (fun r8 σ9 => some (r8, σ9))) else (bd (f_X1_add N n σ2 (σ2 43 4) 9 p1 r1) (fun r5 σ6 => some (p1, σ6))))
set_option maxHeartbeats 4000000 in
set_option maxRecDepth 100000 in
theorem c_X10_loaded {l : Launch} {g : GG} {q : Nat} (N n : Nat) {σ : Sg} {p0 : Int32} {p1 : Int32} {r : Int32} {σ' : Sg} (hm : f_X10_loaded N n σ p0 p1 = some (r, σ')) : CTi l yX10_loaded cX10_loaded 4 (some .int) 1 25 g q n [.ref (ga g 43), .int p0, .int p1] σ r σ' := by
  refine e_i (r := r) (by decide) (Nat.le_of_ble_eq_true rfl) ?_
  intro p e s m args below meth c A Q ls hC hl hI
  obtain ⟨hX, hK, hN, hZ, hA, hR⟩ := id hC
  have hx : p.tables.exec = Jvm.exec := hX.1
  have hb : c.code = cX10_loaded := hX.2.1
  have hml : c.maxLocals = 4 := hX.2.2.1
  have hown : s.vm.findClass RX10 = some m.cls := hX.2.2.2.1
  have ht : ∀ w ∈ BIG, w.before args s = true := hX.2.2.2.2
  have hl : lv_has ls 4 [(0, .ref (ga g 43)), (1, .int p0), (2, .int p1)] := hl
  unfold f_X10_loaded at hm
  refine lv_aload_n hx hb dX10_loaded_0 rfl (lv_at hl 0 rfl) ?_
  refine gf_43_1 hx hb ht hK hI mw_479 (fun _ h9 => h9) hown dX10_loaded_1 ?_
  refine lv_aload_n hx hb dX10_loaded_4 rfl (lv_at hl 0 rfl) ?_
  refine gf_43_4 hx hb ht hK hI (v := σ 43 4) rfl mw_533 (fun _ h9 => h9) hown dX10_loaded_5 ?_
  refine lv_iload_n hx hb dX10_loaded_8 rfl (lv_at hl 1 rfl) ?_
  obtain ⟨r1, σ2, h3, hm⟩ := bd_some hm
  refine k_i hI hA (va_runV (As := [.int (σ 43 4), .int p0]) (rest := []) hX (c_X2_slotOf N n h3 _) (cwV 2 ht (in_V mw_542 mw_543 mw_544 mw_146 mw_113) rfl rfl rfl pd_X2_slotOf ⟨Nat.le_of_ble_eq_true rfl, Nat.le_of_ble_eq_true rfl⟩) ⟨q_blind, va_recv hK hI.1 (ci := 2) (q0 := 32) rfl rfl, q_to hI hK hN hZ hA⟩ rfl rfl hl.1 rfl (lv_room (Nat.le_of_ble_eq_true rfl)) dX10_loaded_9 (by decide)) (fun H locs hI => ?_)
  refine lv_istore_n (lv' := [(3, .int r1), (0, .ref (ga g 43)), (1, .int p0), (2, .int p1)]) hx hb dX10_loaded_12 rfl hl (by decide) rfl (fun ls hl => ?_)
  refine lv_iload_n hx hb dX10_loaded_13 rfl (lv_at hl 0 rfl) ?_
  refine lv_iconst (v := (-1)) hx hb dX10_loaded_14 (by decide) ?_
  refine lv_icmp_ne (tgt := 31) hx hb dX10_loaded_15 (by decide) (fun c4 => ?_) (fun c4 => ?_)
  · have hm := (if_neg c4).symm.trans hm
    refine lv_aload_n hx hb dX10_loaded_31 rfl (lv_at hl 1 rfl) ?_
    refine gf_43_2 hx hb ht hK hI mw_480 (fun _ h9 => h9) hown dX10_loaded_32 ?_
    refine lv_aload_n hx hb dX10_loaded_35 rfl (lv_at hl 1 rfl) ?_
    refine gf_43_4 hx hb ht hK hI (v := σ2 43 4) rfl mw_533 (fun _ h9 => h9) hown dX10_loaded_36 ?_
    refine lv_bipush (v := 9) hx hb dX10_loaded_39 (by decide) ?_
    refine lv_iload_n hx hb dX10_loaded_41 rfl (lv_at hl 3 rfl) ?_
    refine lv_iload_n hx hb dX10_loaded_42 rfl (lv_at hl 0 rfl) ?_
    obtain ⟨r5, σ6, h7, hm⟩ := bd_some hm
    refine k_v hI hA (va_runV (As := [.int (σ2 43 4), .int 9, .int p1, .int r1]) (rest := []) hX (c_X1_add N n h7 _) (cwV 4 ht (in_V mw_549 mw_93 mw_94 mw_95 mw_90) rfl rfl rfl pd_X1_add ⟨Nat.le_of_ble_eq_true rfl, Nat.le_of_ble_eq_true rfl⟩) ⟨q_blind, va_recv hK hI.1 (ci := 1) (q0 := 39) rfl rfl, q_to hI hK hN hZ hA⟩ rfl rfl hl.1 rfl (lv_room (Nat.le_of_ble_eq_true rfl)) dX10_loaded_43 (by decide)) (fun H locs hI => ?_)
    refine lv_iload_n hx hb dX10_loaded_46 rfl (lv_at hl 3 rfl) ?_
    exact hR _ _ _ _ _ _ hm hI dX10_loaded_47
  · have hm := (if_pos c4).symm.trans hm
    refine lv_aload_n hx hb dX10_loaded_18 rfl (lv_at hl 1 rfl) ?_
    refine gf_43_1 hx hb ht hK hI mw_479 (fun _ h9 => h9) hown dX10_loaded_19 ?_
    refine lv_aload_n hx hb dX10_loaded_22 rfl (lv_at hl 1 rfl) ?_
    refine gf_43_4 hx hb ht hK hI (v := σ2 43 4) rfl mw_533 (fun _ h9 => h9) hown dX10_loaded_23 ?_
    refine lv_iload_n hx hb dX10_loaded_26 rfl (lv_at hl 2 rfl) ?_
    obtain ⟨r8, σ9, h10, hm⟩ := bd_some hm
    refine k_i hI hA (va_runV (As := [.int (σ2 43 4), .int p0]) (rest := []) hX (c_X2_registerOf N n h10 _) (cwV 2 ht (in_V mw_545 mw_546 mw_547 mw_146 mw_112) rfl rfl rfl pd_X2_registerOf ⟨Nat.le_of_ble_eq_true rfl, Nat.le_of_ble_eq_true rfl⟩) ⟨q_blind, va_recv hK hI.1 (ci := 2) (q0 := 32) rfl rfl, q_to hI hK hN hZ hA⟩ rfl rfl hl.1 rfl (lv_room (Nat.le_of_ble_eq_true rfl)) dX10_loaded_27 (by decide)) (fun H locs hI => ?_)
    exact hR _ _ _ _ _ _ hm hI dX10_loaded_30
def f_X10_moveFrom (N n : Nat) (σ : Sg) (p0 : Int32) (p1 : Int32) : Option (Int32 × Sg) := bd (f_X2_slotOf N n σ (σ 43 4) p0) (fun r1 σ2 => if r1 = (-1) then (bd (f_X2_registerOf N n σ2 (σ2 43 4) p0) (fun r5 σ6 => bd (f_X1_add N n σ6 (σ2 43 4) 1 r5 p1) (fun r8 σ9 => some (0, σ9)))) else (bd (f_X1_add N n σ2 (σ2 43 4) 10 r1 p1) (fun r11 σ12 => some (0, σ12))))
set_option maxHeartbeats 4000000 in
set_option maxRecDepth 100000 in
theorem c_X10_moveFrom {l : Launch} {g : GG} {q : Nat} (N n : Nat) {σ : Sg} {p0 : Int32} {p1 : Int32} {r : Int32} {σ' : Sg} (hm : f_X10_moveFrom N n σ p0 p1 = some (r, σ')) : CTv l yX10_moveFrom cX10_moveFrom 4 none 1 25 g q n [.ref (ga g 43), .int p0, .int p1] σ σ' := by
  refine e_v (r := r) (by decide) (Nat.le_of_ble_eq_true rfl) ?_
  intro p e s m args below meth c A Q ls hC hl hI
  obtain ⟨hX, hK, hN, hZ, hA, hR⟩ := id hC
  have hx : p.tables.exec = Jvm.exec := hX.1
  have hb : c.code = cX10_moveFrom := hX.2.1
  have hml : c.maxLocals = 4 := hX.2.2.1
  have hown : s.vm.findClass RX10 = some m.cls := hX.2.2.2.1
  have ht : ∀ w ∈ BIG, w.before args s = true := hX.2.2.2.2
  have hl : lv_has ls 4 [(0, .ref (ga g 43)), (1, .int p0), (2, .int p1)] := hl
  unfold f_X10_moveFrom at hm
  refine lv_aload_n hx hb dX10_moveFrom_0 rfl (lv_at hl 0 rfl) ?_
  refine gf_43_1 hx hb ht hK hI mw_479 (fun _ h9 => h9) hown dX10_moveFrom_1 ?_
  refine lv_aload_n hx hb dX10_moveFrom_4 rfl (lv_at hl 0 rfl) ?_
  refine gf_43_4 hx hb ht hK hI (v := σ 43 4) rfl mw_533 (fun _ h9 => h9) hown dX10_moveFrom_5 ?_
  refine lv_iload_n hx hb dX10_moveFrom_8 rfl (lv_at hl 1 rfl) ?_
  obtain ⟨r1, σ2, h3, hm⟩ := bd_some hm
  refine k_i hI hA (va_runV (As := [.int (σ 43 4), .int p0]) (rest := []) hX (c_X2_slotOf N n h3 _) (cwV 2 ht (in_V mw_542 mw_543 mw_544 mw_146 mw_113) rfl rfl rfl pd_X2_slotOf ⟨Nat.le_of_ble_eq_true rfl, Nat.le_of_ble_eq_true rfl⟩) ⟨q_blind, va_recv hK hI.1 (ci := 2) (q0 := 32) rfl rfl, q_to hI hK hN hZ hA⟩ rfl rfl hl.1 rfl (lv_room (Nat.le_of_ble_eq_true rfl)) dX10_moveFrom_9 (by decide)) (fun H locs hI => ?_)
  refine lv_istore_n (lv' := [(3, .int r1), (0, .ref (ga g 43)), (1, .int p0), (2, .int p1)]) hx hb dX10_moveFrom_12 rfl hl (by decide) rfl (fun ls hl => ?_)
  refine lv_iload_n hx hb dX10_moveFrom_13 rfl (lv_at hl 0 rfl) ?_
  refine lv_iconst (v := (-1)) hx hb dX10_moveFrom_14 (by decide) ?_
  refine lv_icmp_eq (tgt := 36) hx hb dX10_moveFrom_15 (by decide) (fun c4 => ?_) (fun c4 => ?_)
  · have hm := (if_pos c4).symm.trans hm
    refine lv_aload_n hx hb dX10_moveFrom_36 rfl (lv_at hl 1 rfl) ?_
    refine gf_43_2 hx hb ht hK hI mw_480 (fun _ h9 => h9) hown dX10_moveFrom_37 ?_
    refine lv_aload_n hx hb dX10_moveFrom_40 rfl (lv_at hl 1 rfl) ?_
    refine gf_43_4 hx hb ht hK hI (v := σ2 43 4) rfl mw_533 (fun _ h9 => h9) hown dX10_moveFrom_41 ?_
    refine lv_iconst (v := 1) hx hb dX10_moveFrom_44 (by decide) ?_
    refine lv_aload_n hx hb dX10_moveFrom_45 rfl (lv_at hl 1 rfl) ?_
    refine gf_43_1 hx hb ht hK hI mw_479 (fun _ h9 => h9) hown dX10_moveFrom_46 ?_
    refine lv_aload_n hx hb dX10_moveFrom_49 rfl (lv_at hl 1 rfl) ?_
    refine gf_43_4 hx hb ht hK hI (v := σ2 43 4) rfl mw_533 (fun _ h9 => h9) hown dX10_moveFrom_50 ?_
    refine lv_iload_n hx hb dX10_moveFrom_53 rfl (lv_at hl 2 rfl) ?_
    obtain ⟨r5, σ6, h7, hm⟩ := bd_some hm
    refine k_i hI hA (va_runV (As := [.int (σ2 43 4), .int p0]) (rest := [.int 1, .int (σ2 43 4), .ref (ga g 39)]) hX (c_X2_registerOf N n h7 _) (cwV 2 ht (in_V mw_545 mw_546 mw_547 mw_146 mw_112) rfl rfl rfl pd_X2_registerOf ⟨Nat.le_of_ble_eq_true rfl, Nat.le_of_ble_eq_true rfl⟩) ⟨q_blind, va_recv hK hI.1 (ci := 2) (q0 := 32) rfl rfl, q_to hI hK hN hZ hA⟩ rfl rfl hl.1 rfl (lv_room (Nat.le_of_ble_eq_true rfl)) dX10_moveFrom_54 (by decide)) (fun H locs hI => ?_)
    refine lv_iload_n hx hb dX10_moveFrom_57 rfl (lv_at hl 3 rfl) ?_
    obtain ⟨r8, σ9, h10, hm⟩ := bd_some hm
    refine k_v hI hA (va_runV (As := [.int (σ2 43 4), .int 1, .int r5, .int p1]) (rest := []) hX (c_X1_add N n h10 _) (cwV 4 ht (in_V mw_549 mw_93 mw_94 mw_95 mw_90) rfl rfl rfl pd_X1_add ⟨Nat.le_of_ble_eq_true rfl, Nat.le_of_ble_eq_true rfl⟩) ⟨q_blind, va_recv hK hI.1 (ci := 1) (q0 := 39) rfl rfl, q_to hI hK hN hZ hA⟩ rfl rfl hl.1 rfl (lv_room (Nat.le_of_ble_eq_true rfl)) dX10_moveFrom_58 (by decide)) (fun H locs hI => ?_)
    exact hR _ _ _ _ _ hm hI dX10_moveFrom_61
  · have hm := (if_neg c4).symm.trans hm
    refine lv_aload_n hx hb dX10_moveFrom_18 rfl (lv_at hl 1 rfl) ?_
    refine gf_43_2 hx hb ht hK hI mw_480 (fun _ h9 => h9) hown dX10_moveFrom_19 ?_
    refine lv_aload_n hx hb dX10_moveFrom_22 rfl (lv_at hl 1 rfl) ?_
    refine gf_43_4 hx hb ht hK hI (v := σ2 43 4) rfl mw_533 (fun _ h9 => h9) hown dX10_moveFrom_23 ?_
    refine lv_bipush (v := 10) hx hb dX10_moveFrom_26 (by decide) ?_
    refine lv_iload_n hx hb dX10_moveFrom_28 rfl (lv_at hl 0 rfl) ?_
    refine lv_iload_n hx hb dX10_moveFrom_29 rfl (lv_at hl 3 rfl) ?_
    obtain ⟨r11, σ12, h13, hm⟩ := bd_some hm
    refine k_v hI hA (va_runV (As := [.int (σ2 43 4), .int 10, .int r1, .int p1]) (rest := []) hX (c_X1_add N n h13 _) (cwV 4 ht (in_V mw_549 mw_93 mw_94 mw_95 mw_90) rfl rfl rfl pd_X1_add ⟨Nat.le_of_ble_eq_true rfl, Nat.le_of_ble_eq_true rfl⟩) ⟨q_blind, va_recv hK hI.1 (ci := 1) (q0 := 39) rfl rfl, q_to hI hK hN hZ hA⟩ rfl rfl hl.1 rfl (lv_room (Nat.le_of_ble_eq_true rfl)) dX10_moveFrom_30 (by decide)) (fun H locs hI => ?_)
    refine lv_goto (tgt := 61) hx hb dX10_moveFrom_33 (by decide) ?_
    exact hR _ _ _ _ _ hm hI dX10_moveFrom_61
def f_X10_moveInto (N n : Nat) (σ : Sg) (p0 : Int32) (p1 : Int32) : Option (Int32 × Sg) := bd (f_X2_slotOf N n σ (σ 43 4) p1) (fun r1 σ2 => if r1 = (-1) then (bd (f_X2_registerOf N n σ2 (σ2 43 4) p1) (fun r5 σ6 => if p0 = r5 then (some (0, σ6)) else (bd (f_X2_registerOf N n σ6 (σ6 43 4) p1) (fun r9 σ10 => bd (f_X1_add N n σ10 (σ6 43 4) 1 p0 r9) (fun r12 σ13 => some (0, σ13)))))) else (bd (f_X1_add N n σ2 (σ2 43 4) 9 p0 r1) (fun r15 σ16 => some (0, σ16))))
set_option maxHeartbeats 4000000 in
set_option maxRecDepth 100000 in
theorem c_X10_moveInto {l : Launch} {g : GG} {q : Nat} (N n : Nat) {σ : Sg} {p0 : Int32} {p1 : Int32} {r : Int32} {σ' : Sg} (hm : f_X10_moveInto N n σ p0 p1 = some (r, σ')) : CTv l yX10_moveInto cX10_moveInto 4 none 1 25 g q n [.ref (ga g 43), .int p0, .int p1] σ σ' := by
  refine e_v (r := r) (by decide) (Nat.le_of_ble_eq_true rfl) ?_
  intro p e s m args below meth c A Q ls hC hl hI
  obtain ⟨hX, hK, hN, hZ, hA, hR⟩ := id hC
  have hx : p.tables.exec = Jvm.exec := hX.1
  have hb : c.code = cX10_moveInto := hX.2.1
  have hml : c.maxLocals = 4 := hX.2.2.1
  have hown : s.vm.findClass RX10 = some m.cls := hX.2.2.2.1
  have ht : ∀ w ∈ BIG, w.before args s = true := hX.2.2.2.2
  have hl : lv_has ls 4 [(0, .ref (ga g 43)), (1, .int p0), (2, .int p1)] := hl
  unfold f_X10_moveInto at hm
  refine lv_aload_n hx hb dX10_moveInto_0 rfl (lv_at hl 0 rfl) ?_
  refine gf_43_1 hx hb ht hK hI mw_479 (fun _ h9 => h9) hown dX10_moveInto_1 ?_
  refine lv_aload_n hx hb dX10_moveInto_4 rfl (lv_at hl 0 rfl) ?_
  refine gf_43_4 hx hb ht hK hI (v := σ 43 4) rfl mw_533 (fun _ h9 => h9) hown dX10_moveInto_5 ?_
  refine lv_iload_n hx hb dX10_moveInto_8 rfl (lv_at hl 2 rfl) ?_
  obtain ⟨r1, σ2, h3, hm⟩ := bd_some hm
  refine k_i hI hA (va_runV (As := [.int (σ 43 4), .int p1]) (rest := []) hX (c_X2_slotOf N n h3 _) (cwV 2 ht (in_V mw_542 mw_543 mw_544 mw_146 mw_113) rfl rfl rfl pd_X2_slotOf ⟨Nat.le_of_ble_eq_true rfl, Nat.le_of_ble_eq_true rfl⟩) ⟨q_blind, va_recv hK hI.1 (ci := 2) (q0 := 32) rfl rfl, q_to hI hK hN hZ hA⟩ rfl rfl hl.1 rfl (lv_room (Nat.le_of_ble_eq_true rfl)) dX10_moveInto_9 (by decide)) (fun H locs hI => ?_)
  refine lv_istore_n (lv' := [(3, .int r1), (0, .ref (ga g 43)), (1, .int p0), (2, .int p1)]) hx hb dX10_moveInto_12 rfl hl (by decide) rfl (fun ls hl => ?_)
  refine lv_iload_n hx hb dX10_moveInto_13 rfl (lv_at hl 0 rfl) ?_
  refine lv_iconst (v := (-1)) hx hb dX10_moveInto_14 (by decide) ?_
  refine lv_icmp_eq (tgt := 36) hx hb dX10_moveInto_15 (by decide) (fun c4 => ?_) (fun c4 => ?_)
  · have hm := (if_pos c4).symm.trans hm
    refine lv_iload_n hx hb dX10_moveInto_36 rfl (lv_at hl 2 rfl) ?_
    refine lv_aload_n hx hb dX10_moveInto_37 rfl (lv_at hl 1 rfl) ?_
    refine gf_43_1 hx hb ht hK hI mw_479 (fun _ h9 => h9) hown dX10_moveInto_38 ?_
    refine lv_aload_n hx hb dX10_moveInto_41 rfl (lv_at hl 1 rfl) ?_
    refine gf_43_4 hx hb ht hK hI (v := σ2 43 4) rfl mw_533 (fun _ h9 => h9) hown dX10_moveInto_42 ?_
    refine lv_iload_n hx hb dX10_moveInto_45 rfl (lv_at hl 3 rfl) ?_
    obtain ⟨r5, σ6, h7, hm⟩ := bd_some hm
    refine k_i hI hA (va_runV (As := [.int (σ2 43 4), .int p1]) (rest := [.int p0]) hX (c_X2_registerOf N n h7 _) (cwV 2 ht (in_V mw_545 mw_546 mw_547 mw_146 mw_112) rfl rfl rfl pd_X2_registerOf ⟨Nat.le_of_ble_eq_true rfl, Nat.le_of_ble_eq_true rfl⟩) ⟨q_blind, va_recv hK hI.1 (ci := 2) (q0 := 32) rfl rfl, q_to hI hK hN hZ hA⟩ rfl rfl hl.1 rfl (lv_room (Nat.le_of_ble_eq_true rfl)) dX10_moveInto_46 (by decide)) (fun H locs hI => ?_)
    refine lv_icmp_eq (tgt := 77) hx hb dX10_moveInto_49 (by decide) (fun c8 => ?_) (fun c8 => ?_)
    · have hm := (if_pos c8).symm.trans hm
      exact hR _ _ _ _ _ hm hI dX10_moveInto_77
    · have hm := (if_neg c8).symm.trans hm
      refine lv_aload_n hx hb dX10_moveInto_52 rfl (lv_at hl 1 rfl) ?_
      refine gf_43_2 hx hb ht hK hI mw_480 (fun _ h9 => h9) hown dX10_moveInto_53 ?_
      refine lv_aload_n hx hb dX10_moveInto_56 rfl (lv_at hl 1 rfl) ?_
      refine gf_43_4 hx hb ht hK hI (v := σ6 43 4) rfl mw_533 (fun _ h9 => h9) hown dX10_moveInto_57 ?_
      refine lv_iconst (v := 1) hx hb dX10_moveInto_60 (by decide) ?_
      refine lv_iload_n hx hb dX10_moveInto_61 rfl (lv_at hl 2 rfl) ?_
      refine lv_aload_n hx hb dX10_moveInto_62 rfl (lv_at hl 1 rfl) ?_
      refine gf_43_1 hx hb ht hK hI mw_479 (fun _ h9 => h9) hown dX10_moveInto_63 ?_
      refine lv_aload_n hx hb dX10_moveInto_66 rfl (lv_at hl 1 rfl) ?_
      refine gf_43_4 hx hb ht hK hI (v := σ6 43 4) rfl mw_533 (fun _ h9 => h9) hown dX10_moveInto_67 ?_
      refine lv_iload_n hx hb dX10_moveInto_70 rfl (lv_at hl 3 rfl) ?_
      obtain ⟨r9, σ10, h11, hm⟩ := bd_some hm
      refine k_i hI hA (va_runV (As := [.int (σ6 43 4), .int p1]) (rest := [.int p0, .int 1, .int (σ6 43 4), .ref (ga g 39)]) hX (c_X2_registerOf N n h11 _) (cwV 2 ht (in_V mw_545 mw_546 mw_547 mw_146 mw_112) rfl rfl rfl pd_X2_registerOf ⟨Nat.le_of_ble_eq_true rfl, Nat.le_of_ble_eq_true rfl⟩) ⟨q_blind, va_recv hK hI.1 (ci := 2) (q0 := 32) rfl rfl, q_to hI hK hN hZ hA⟩ rfl rfl hl.1 rfl (lv_room (Nat.le_of_ble_eq_true rfl)) dX10_moveInto_71 (by decide)) (fun H locs hI => ?_)
      obtain ⟨r12, σ13, h14, hm⟩ := bd_some hm
      refine k_v hI hA (va_runV (As := [.int (σ6 43 4), .int 1, .int p0, .int r9]) (rest := []) hX (c_X1_add N n h14 _) (cwV 4 ht (in_V mw_549 mw_93 mw_94 mw_95 mw_90) rfl rfl rfl pd_X1_add ⟨Nat.le_of_ble_eq_true rfl, Nat.le_of_ble_eq_true rfl⟩) ⟨q_blind, va_recv hK hI.1 (ci := 1) (q0 := 39) rfl rfl, q_to hI hK hN hZ hA⟩ rfl rfl hl.1 rfl (lv_room (Nat.le_of_ble_eq_true rfl)) dX10_moveInto_74 (by decide)) (fun H locs hI => ?_)
      exact hR _ _ _ _ _ hm hI dX10_moveInto_77
  · have hm := (if_neg c4).symm.trans hm
    refine lv_aload_n hx hb dX10_moveInto_18 rfl (lv_at hl 1 rfl) ?_
    refine gf_43_2 hx hb ht hK hI mw_480 (fun _ h9 => h9) hown dX10_moveInto_19 ?_
    refine lv_aload_n hx hb dX10_moveInto_22 rfl (lv_at hl 1 rfl) ?_
    refine gf_43_4 hx hb ht hK hI (v := σ2 43 4) rfl mw_533 (fun _ h9 => h9) hown dX10_moveInto_23 ?_
    refine lv_bipush (v := 9) hx hb dX10_moveInto_26 (by decide) ?_
    refine lv_iload_n hx hb dX10_moveInto_28 rfl (lv_at hl 2 rfl) ?_
    refine lv_iload_n hx hb dX10_moveInto_29 rfl (lv_at hl 0 rfl) ?_
    obtain ⟨r15, σ16, h17, hm⟩ := bd_some hm
    refine k_v hI hA (va_runV (As := [.int (σ2 43 4), .int 9, .int p0, .int r1]) (rest := []) hX (c_X1_add N n h17 _) (cwV 4 ht (in_V mw_549 mw_93 mw_94 mw_95 mw_90) rfl rfl rfl pd_X1_add ⟨Nat.le_of_ble_eq_true rfl, Nat.le_of_ble_eq_true rfl⟩) ⟨q_blind, va_recv hK hI.1 (ci := 1) (q0 := 39) rfl rfl, q_to hI hK hN hZ hA⟩ rfl rfl hl.1 rfl (lv_room (Nat.le_of_ble_eq_true rfl)) dX10_moveInto_30 (by decide)) (fun H locs hI => ?_)
    refine lv_goto (tgt := 77) hx hb dX10_moveInto_33 (by decide) ?_
    exact hR _ _ _ _ _ hm hI dX10_moveInto_77
def f_X10_saveTarget (N n : Nat) (σ : Sg) (p0 : Int32) : Option (Int32 × Sg) := bd (f_X2_slotOf N n σ (σ 43 4) p0) (fun r1 σ2 => if r1 = (-1) then (some (0, σ2)) else (bd (f_X1_add N n σ2 (σ2 43 4) 10 r1 (σ2 43 5)) (fun r5 σ6 => some (0, σ6))))
set_option maxHeartbeats 4000000 in
set_option maxRecDepth 100000 in
theorem c_X10_saveTarget {l : Launch} {g : GG} {q : Nat} (N n : Nat) {σ : Sg} {p0 : Int32} {r : Int32} {σ' : Sg} (hm : f_X10_saveTarget N n σ p0 = some (r, σ')) : CTv l yX10_saveTarget cX10_saveTarget 3 none 1 25 g q n [.ref (ga g 43), .int p0] σ σ' := by
  refine e_v (r := r) (by decide) (Nat.le_of_ble_eq_true rfl) ?_
  intro p e s m args below meth c A Q ls hC hl hI
  obtain ⟨hX, hK, hN, hZ, hA, hR⟩ := id hC
  have hx : p.tables.exec = Jvm.exec := hX.1
  have hb : c.code = cX10_saveTarget := hX.2.1
  have hml : c.maxLocals = 3 := hX.2.2.1
  have hown : s.vm.findClass RX10 = some m.cls := hX.2.2.2.1
  have ht : ∀ w ∈ BIG, w.before args s = true := hX.2.2.2.2
  have hl : lv_has ls 3 [(0, .ref (ga g 43)), (1, .int p0)] := hl
  unfold f_X10_saveTarget at hm
  refine lv_aload_n hx hb dX10_saveTarget_0 rfl (lv_at hl 0 rfl) ?_
  refine gf_43_1 hx hb ht hK hI mw_479 (fun _ h9 => h9) hown dX10_saveTarget_1 ?_
  refine lv_aload_n hx hb dX10_saveTarget_4 rfl (lv_at hl 0 rfl) ?_
  refine gf_43_4 hx hb ht hK hI (v := σ 43 4) rfl mw_533 (fun _ h9 => h9) hown dX10_saveTarget_5 ?_
  refine lv_iload_n hx hb dX10_saveTarget_8 rfl (lv_at hl 1 rfl) ?_
  obtain ⟨r1, σ2, h3, hm⟩ := bd_some hm
  refine k_i hI hA (va_runV (As := [.int (σ 43 4), .int p0]) (rest := []) hX (c_X2_slotOf N n h3 _) (cwV 2 ht (in_V mw_542 mw_543 mw_544 mw_146 mw_113) rfl rfl rfl pd_X2_slotOf ⟨Nat.le_of_ble_eq_true rfl, Nat.le_of_ble_eq_true rfl⟩) ⟨q_blind, va_recv hK hI.1 (ci := 2) (q0 := 32) rfl rfl, q_to hI hK hN hZ hA⟩ rfl rfl hl.1 rfl (lv_room (Nat.le_of_ble_eq_true rfl)) dX10_saveTarget_9 (by decide)) (fun H locs hI => ?_)
  refine lv_istore_n (lv' := [(2, .int r1), (0, .ref (ga g 43)), (1, .int p0)]) hx hb dX10_saveTarget_12 rfl hl (by decide) rfl (fun ls hl => ?_)
  refine lv_iload_n hx hb dX10_saveTarget_13 rfl (lv_at hl 0 rfl) ?_
  refine lv_iconst (v := (-1)) hx hb dX10_saveTarget_14 (by decide) ?_
  refine lv_icmp_eq (tgt := 36) hx hb dX10_saveTarget_15 (by decide) (fun c4 => ?_) (fun c4 => ?_)
  · have hm := (if_pos c4).symm.trans hm
    exact hR _ _ _ _ _ hm hI dX10_saveTarget_36
  · have hm := (if_neg c4).symm.trans hm
    refine lv_aload_n hx hb dX10_saveTarget_18 rfl (lv_at hl 1 rfl) ?_
    refine gf_43_2 hx hb ht hK hI mw_480 (fun _ h9 => h9) hown dX10_saveTarget_19 ?_
    refine lv_aload_n hx hb dX10_saveTarget_22 rfl (lv_at hl 1 rfl) ?_
    refine gf_43_4 hx hb ht hK hI (v := σ2 43 4) rfl mw_533 (fun _ h9 => h9) hown dX10_saveTarget_23 ?_
    refine lv_bipush (v := 10) hx hb dX10_saveTarget_26 (by decide) ?_
    refine lv_iload_n hx hb dX10_saveTarget_28 rfl (lv_at hl 0 rfl) ?_
    refine lv_aload_n hx hb dX10_saveTarget_29 rfl (lv_at hl 1 rfl) ?_
    refine gf_43_5 hx hb ht hK hI (v := σ2 43 5) rfl mw_534 (fun _ h9 => h9) hown dX10_saveTarget_30 ?_
    obtain ⟨r5, σ6, h7, hm⟩ := bd_some hm
    refine k_v hI hA (va_runV (As := [.int (σ2 43 4), .int 10, .int r1, .int (σ2 43 5)]) (rest := []) hX (c_X1_add N n h7 _) (cwV 4 ht (in_V mw_549 mw_93 mw_94 mw_95 mw_90) rfl rfl rfl pd_X1_add ⟨Nat.le_of_ble_eq_true rfl, Nat.le_of_ble_eq_true rfl⟩) ⟨q_blind, va_recv hK hI.1 (ci := 1) (q0 := 39) rfl rfl, q_to hI hK hN hZ hA⟩ rfl rfl hl.1 rfl (lv_room (Nat.le_of_ble_eq_true rfl)) dX10_saveTarget_33 (by decide)) (fun H locs hI => ?_)
    exact hR _ _ _ _ _ hm hI dX10_saveTarget_36
def f_X10_target (N n : Nat) (σ : Sg) (p0 : Int32) : Option (Int32 × Sg) := bd (f_X2_slotOf N n σ (σ 43 4) p0) (fun r1 σ2 => if r1 = (-1) then (bd (f_X2_registerOf N n σ2 (σ2 43 4) p0) (fun r5 σ6 => some (r5, σ6))) else (some (σ2 43 5, σ2)))
set_option maxHeartbeats 4000000 in
set_option maxRecDepth 100000 in
theorem c_X10_target {l : Launch} {g : GG} {q : Nat} (N n : Nat) {σ : Sg} {p0 : Int32} {r : Int32} {σ' : Sg} (hm : f_X10_target N n σ p0 = some (r, σ')) : CTi l yX10_target cX10_target 2 (some .int) 1 22 g q n [.ref (ga g 43), .int p0] σ r σ' := by
  refine e_i (r := r) (by decide) (Nat.le_of_ble_eq_true rfl) ?_
  intro p e s m args below meth c A Q ls hC hl hI
  obtain ⟨hX, hK, hN, hZ, hA, hR⟩ := id hC
  have hx : p.tables.exec = Jvm.exec := hX.1
  have hb : c.code = cX10_target := hX.2.1
  have hml : c.maxLocals = 2 := hX.2.2.1
  have hown : s.vm.findClass RX10 = some m.cls := hX.2.2.2.1
  have ht : ∀ w ∈ BIG, w.before args s = true := hX.2.2.2.2
  have hl : lv_has ls 2 [(0, .ref (ga g 43)), (1, .int p0)] := hl
  unfold f_X10_target at hm
  refine lv_aload_n hx hb dX10_target_0 rfl (lv_at hl 0 rfl) ?_
  refine gf_43_1 hx hb ht hK hI mw_479 (fun _ h9 => h9) hown dX10_target_1 ?_
  refine lv_aload_n hx hb dX10_target_4 rfl (lv_at hl 0 rfl) ?_
  refine gf_43_4 hx hb ht hK hI (v := σ 43 4) rfl mw_533 (fun _ h9 => h9) hown dX10_target_5 ?_
  refine lv_iload_n hx hb dX10_target_8 rfl (lv_at hl 1 rfl) ?_
  obtain ⟨r1, σ2, h3, hm⟩ := bd_some hm
  refine k_i hI hA (va_runV (As := [.int (σ 43 4), .int p0]) (rest := []) hX (c_X2_slotOf N n h3 _) (cwV 2 ht (in_V mw_542 mw_543 mw_544 mw_146 mw_113) rfl rfl rfl pd_X2_slotOf ⟨Nat.le_of_ble_eq_true rfl, Nat.le_of_ble_eq_true rfl⟩) ⟨q_blind, va_recv hK hI.1 (ci := 2) (q0 := 32) rfl rfl, q_to hI hK hN hZ hA⟩ rfl rfl hl.1 rfl (lv_room (Nat.le_of_ble_eq_true rfl)) dX10_target_9 (by decide)) (fun H locs hI => ?_)
  refine lv_iconst (v := (-1)) hx hb dX10_target_12 (by decide) ?_
  refine lv_icmp_ne (tgt := 31) hx hb dX10_target_13 (by decide) (fun c4 => ?_) (fun c4 => ?_)
  · have hm := (if_neg c4).symm.trans hm
    refine lv_aload_n hx hb dX10_target_31 rfl (lv_at hl 0 rfl) ?_
    refine gf_43_5 hx hb ht hK hI (v := σ2 43 5) rfl mw_534 (fun _ h9 => h9) hown dX10_target_32 ?_
    exact hR _ _ _ _ _ _ hm hI dX10_target_35
  · have hm := (if_pos c4).symm.trans hm
    refine lv_aload_n hx hb dX10_target_16 rfl (lv_at hl 0 rfl) ?_
    refine gf_43_1 hx hb ht hK hI mw_479 (fun _ h9 => h9) hown dX10_target_17 ?_
    refine lv_aload_n hx hb dX10_target_20 rfl (lv_at hl 0 rfl) ?_
    refine gf_43_4 hx hb ht hK hI (v := σ2 43 4) rfl mw_533 (fun _ h9 => h9) hown dX10_target_21 ?_
    refine lv_iload_n hx hb dX10_target_24 rfl (lv_at hl 1 rfl) ?_
    obtain ⟨r5, σ6, h7, hm⟩ := bd_some hm
    refine k_i hI hA (va_runV (As := [.int (σ2 43 4), .int p0]) (rest := []) hX (c_X2_registerOf N n h7 _) (cwV 2 ht (in_V mw_545 mw_546 mw_547 mw_146 mw_112) rfl rfl rfl pd_X2_registerOf ⟨Nat.le_of_ble_eq_true rfl, Nat.le_of_ble_eq_true rfl⟩) ⟨q_blind, va_recv hK hI.1 (ci := 2) (q0 := 32) rfl rfl, q_to hI hK hN hZ hA⟩ rfl rfl hl.1 rfl (lv_room (Nat.le_of_ble_eq_true rfl)) dX10_target_25 (by decide)) (fun H locs hI => ?_)
    refine lv_goto (tgt := 35) hx hb dX10_target_28 (by decide) ?_
    exact hR _ _ _ _ _ _ hm hI dX10_target_35
def lb_X10_writeCall_2 (N n : Nat) (u1 : Int32) (K54 : (Sg → Int32 → Option (Int32 × Sg))) (rec : (Sg → Int32 → Option (Int32 × Sg))) (σ : Sg) (v2 : Int32) : Option (Int32 × Sg) := gb u1 300 (if (σ 18 (ix u1)) ≤ v2 then (K54 σ v2) else (gb v2 6 (gb u1 300 (bd (f_X10_loaded N n σ (σ 19 (ix u1 * 6 + ix v2)) (σ 43 5)) (fun r5 σ6 => bd (f_X1_add N n σ6 (σ 43 4) 12 v2 r5) (fun r8 σ9 => rec σ9 (v2 + 1)))))))
def lf_X10_writeCall_2 (N n : Nat) (u1 : Int32) (K54 : (Sg → Int32 → Option (Int32 × Sg))) : Nat → (Sg → Int32 → Option (Int32 × Sg))
  | 0 => fun _ _ => none
  | k + 1 => lb_X10_writeCall_2 N n u1 K54 (lf_X10_writeCall_2 N n u1 K54 k)
def f_X10_writeCall (N n : Nat) (σ : Sg) (p0 : Int32) : Option (Int32 × Sg) := lf_X10_writeCall_2 N n p0 (fun σ11 w12 => gb p0 300 (bd (f_X1_add N n σ11 (σ11 43 4) 13 (σ11 15 (ix p0)) 0) (fun r14 σ15 => gb p0 300 (bd (f_X10_target N n σ15 (σ15 17 (ix p0))) (fun r18 σ19 => bd (f_X1_add N n σ19 (σ15 43 4) 14 r18 0) (fun r21 σ22 => gb p0 300 (bd (f_X10_saveTarget N n σ22 (σ22 17 (ix p0))) (fun r25 σ26 => some (0, σ26))))))))) N σ 0
set_option maxHeartbeats 4000000 in
set_option maxRecDepth 100000 in
theorem lp_X10_writeCall_2 {p : Program} {l : Launch} {e : Env} {s : State} {m : MethodId} {args : Array Value} {below : List Frame} {meth : Method} {c : Code} {Q : State → Prop} {A : Nat → Prop} {g : GG} {q N n : Nat} {out : Int32 × Sg} {u1 : Int32} {K54 : (Sg → Int32 → Option (Int32 × Sg))}
    (hC : CXv p l e (qR 2 48) s m args below meth c cX10_writeCall 3 RX10 g q n A Q (some out)) :
    ∀ (k : Nat) (σ : Sg) (v2 : Int32) (H : Heap) (locs : List Loc) (ls : Array Slot), lf_X10_writeCall_2 N n u1 K54 k σ v2 = some out → wI g q n σ A s.heap H locs → lv_has ls 3 [(0, .ref (ga g 43)), (1, .int u1), (2, .int v2)] → (∀ (σ : Sg) (v2 : Int32) (H : Heap) (locs : List Loc) (ls : Array Slot), K54 σ v2 = some out → wI g q n σ A s.heap H locs → lv_has ls 3 [(0, .ref (ga g 43)), (1, .int u1)] → W p l e (qR 2 48) s m args below meth c H locs 0 0 Q (F0 m 54 ls [])) → W p l e (qR 2 48) s m args below meth c H locs 0 0 Q (F0 m 2 ls []) := by
  obtain ⟨hX, hK, hN, hZ, hA, hR⟩ := id hC
  have hx : p.tables.exec = Jvm.exec := hX.1
  have hb : c.code = cX10_writeCall := hX.2.1
  have hml : c.maxLocals = 3 := hX.2.2.1
  have hown : s.vm.findClass RX10 = some m.cls := hX.2.2.2.1
  have ht : ∀ w ∈ BIG, w.before args s = true := hX.2.2.2.2
  intro k
  induction k with
  | zero =>
    intro σ v2 H locs ls hm
    have hm : none = some out := hm
    exact nomatch hm
  | succ k ih =>
    intro σ v2 H locs ls hm hI hl hx54
    have hm : lb_X10_writeCall_2 N n u1 K54 (lf_X10_writeCall_2 N n u1 K54 k) σ v2 = some out := hm
    unfold lb_X10_writeCall_2 at hm
    refine lv_iload_n hx hb dX10_writeCall_2 rfl (lv_at hl 2 rfl) ?_
    refine lv_aload_n hx hb dX10_writeCall_3 rfl (lv_at hl 0 rfl) ?_
    refine gf_43_0 hx hb ht hK hI mw_478 (fun _ h9 => h9) hown dX10_writeCall_4 ?_
    refine gf_13_4 hx hb ht hK hI mw_582 (fun _ h9 => h9) hown dX10_writeCall_7 ?_
    refine lv_iload_n hx hb dX10_writeCall_10 rfl (lv_at hl 1 rfl) ?_
    obtain ⟨g1, hm⟩ := gb_some hm
    refine ld_18 hx hb hK hI g1 (v := σ 18 (ix u1)) rfl dX10_writeCall_11 ?_
    refine lv_icmp_ge (tgt := 54) hx hb dX10_writeCall_12 (by decide) (fun c2 => ?_) (fun c2 => ?_)
    · have hm := (if_pos c2).symm.trans hm
      exact hx54 σ v2 _ _ _ hm hI (lv_sub hl [0, 1] rfl)
    · have hm := (if_neg c2).symm.trans hm
      refine lv_aload_n hx hb dX10_writeCall_15 rfl (lv_at hl 0 rfl) ?_
      refine gf_43_2 hx hb ht hK hI mw_480 (fun _ h9 => h9) hown dX10_writeCall_16 ?_
      refine lv_aload_n hx hb dX10_writeCall_19 rfl (lv_at hl 0 rfl) ?_
      refine gf_43_4 hx hb ht hK hI (v := σ 43 4) rfl mw_533 (fun _ h9 => h9) hown dX10_writeCall_20 ?_
      refine lv_bipush (v := 12) hx hb dX10_writeCall_23 (by decide) ?_
      refine lv_iload_n hx hb dX10_writeCall_25 rfl (lv_at hl 2 rfl) ?_
      refine lv_aload_n hx hb dX10_writeCall_26 rfl (lv_at hl 0 rfl) ?_
      refine lv_aload_n hx hb dX10_writeCall_27 rfl (lv_at hl 0 rfl) ?_
      refine gf_43_0 hx hb ht hK hI mw_478 (fun _ h9 => h9) hown dX10_writeCall_28 ?_
      refine gf_13_5 hx hb ht hK hI mw_565 (fun _ h9 => h9) hown dX10_writeCall_31 ?_
      refine lv_iload_n hx hb dX10_writeCall_34 rfl (lv_at hl 2 rfl) ?_
      obtain ⟨g3, hm⟩ := gb_some hm
      refine ld_19 hx hb hK hI g3 dX10_writeCall_35 ?_
      refine lv_iload_n hx hb dX10_writeCall_36 rfl (lv_at hl 1 rfl) ?_
      obtain ⟨g4, hm⟩ := gb_some hm
      refine ld_rd hx hb hK hI g3 g4 (v := σ 19 (ix u1 * 6 + ix v2)) rfl dX10_writeCall_37 ?_
      refine lv_aload_n hx hb dX10_writeCall_38 rfl (lv_at hl 0 rfl) ?_
      refine gf_43_5 hx hb ht hK hI (v := σ 43 5) rfl mw_534 (fun _ h9 => h9) hown dX10_writeCall_39 ?_
      obtain ⟨r5, σ6, h7, hm⟩ := bd_some hm
      refine k_i hI hA (va_runV (As := [.int (σ 19 (ix u1 * 6 + ix v2)), .int (σ 43 5)]) (rest := [.int v2, .int 12, .int (σ 43 4), .ref (ga g 39)]) hX (c_X10_loaded N n h7 _) (cwV 2 ht (in_V mw_568 mw_569 mw_570 mw_505 mw_564) rfl rfl rfl pd_X10_loaded ⟨Nat.le_of_ble_eq_true rfl, Nat.le_of_ble_eq_true rfl⟩) ⟨q_blind, va_recv hK hI.1 (ci := 9) (q0 := 43) rfl rfl, q_to hI hK hN hZ hA⟩ rfl rfl hl.1 rfl (lv_room (Nat.le_of_ble_eq_true rfl)) dX10_writeCall_42 (by decide)) (fun H locs hI => ?_)
      obtain ⟨r8, σ9, h10, hm⟩ := bd_some hm
      refine k_v hI hA (va_runV (As := [.int (σ 43 4), .int 12, .int v2, .int r5]) (rest := []) hX (c_X1_add N n h10 _) (cwV 4 ht (in_V mw_549 mw_93 mw_94 mw_95 mw_90) rfl rfl rfl pd_X1_add ⟨Nat.le_of_ble_eq_true rfl, Nat.le_of_ble_eq_true rfl⟩) ⟨q_blind, va_recv hK hI.1 (ci := 1) (q0 := 39) rfl rfl, q_to hI hK hN hZ hA⟩ rfl rfl hl.1 rfl (lv_room (Nat.le_of_ble_eq_true rfl)) dX10_writeCall_45 (by decide)) (fun H locs hI => ?_)
      refine lv_iinc (v := v2 + 1) (lv' := [(2, .int (v2 + 1)), (0, .ref (ga g 43)), (1, .int u1)]) hx hb dX10_writeCall_48 hl (k := 2) rfl (congrArg (fun z => v2 + z) (show Int32.ofInt 1 = 1 by decide)) (by decide) rfl (fun ls hl => ?_)
      refine lv_goto (tgt := 2) hx hb dX10_writeCall_51 (by decide) ?_
      exact ih σ9 (v2 + 1) _ _ _ hm hI (lv_sub hl [1, 2, 0] rfl) hx54
set_option maxHeartbeats 4000000 in
set_option maxRecDepth 100000 in
theorem c_X10_writeCall {l : Launch} {g : GG} {q : Nat} (N n : Nat) {σ : Sg} {p0 : Int32} {r : Int32} {σ' : Sg} (hm : f_X10_writeCall N n σ p0 = some (r, σ')) : CTv l yX10_writeCall cX10_writeCall 3 none 2 48 g q n [.ref (ga g 43), .int p0] σ σ' := by
  refine e_v (r := r) (by decide) (Nat.le_of_ble_eq_true rfl) ?_
  intro p e s m args below meth c A Q ls hC hl hI
  obtain ⟨hX, hK, hN, hZ, hA, hR⟩ := id hC
  have hx : p.tables.exec = Jvm.exec := hX.1
  have hb : c.code = cX10_writeCall := hX.2.1
  have hml : c.maxLocals = 3 := hX.2.2.1
  have hown : s.vm.findClass RX10 = some m.cls := hX.2.2.2.1
  have ht : ∀ w ∈ BIG, w.before args s = true := hX.2.2.2.2
  have hl : lv_has ls 3 [(0, .ref (ga g 43)), (1, .int p0)] := hl
  unfold f_X10_writeCall at hm
  refine lv_iconst (v := 0) hx hb dX10_writeCall_0 (by decide) ?_
  refine lv_istore_n (lv' := [(2, .int 0), (0, .ref (ga g 43)), (1, .int p0)]) hx hb dX10_writeCall_1 rfl hl (by decide) rfl (fun ls hl => ?_)
  refine lp_X10_writeCall_2 hC N _ _ _ _ _ hm hI (lv_sub hl [1, 2, 0] rfl) ?_
  intro σ11 w12 H locs ls hm hI hl
  refine lv_aload_n hx hb dX10_writeCall_54 rfl (lv_at hl 0 rfl) ?_
  refine gf_43_2 hx hb ht hK hI mw_480 (fun _ h9 => h9) hown dX10_writeCall_55 ?_
  refine lv_aload_n hx hb dX10_writeCall_58 rfl (lv_at hl 0 rfl) ?_
  refine gf_43_4 hx hb ht hK hI (v := σ11 43 4) rfl mw_533 (fun _ h9 => h9) hown dX10_writeCall_59 ?_
  refine lv_bipush (v := 13) hx hb dX10_writeCall_62 (by decide) ?_
  refine lv_aload_n hx hb dX10_writeCall_64 rfl (lv_at hl 0 rfl) ?_
  refine gf_43_0 hx hb ht hK hI mw_478 (fun _ h9 => h9) hown dX10_writeCall_65 ?_
  refine gf_13_1 hx hb ht hK hI mw_567 (fun _ h9 => h9) hown dX10_writeCall_68 ?_
  refine lv_iload_n hx hb dX10_writeCall_71 rfl (lv_at hl 1 rfl) ?_
  obtain ⟨g13, hm⟩ := gb_some hm
  refine ld_15 hx hb hK hI g13 (v := σ11 15 (ix p0)) rfl dX10_writeCall_72 ?_
  refine lv_iconst (v := 0) hx hb dX10_writeCall_73 (by decide) ?_
  obtain ⟨r14, σ15, h16, hm⟩ := bd_some hm
  refine k_v hI hA (va_runV (As := [.int (σ11 43 4), .int 13, .int (σ11 15 (ix p0)), .int 0]) (rest := []) hX (c_X1_add N n h16 _) (cwV 4 ht (in_V mw_549 mw_93 mw_94 mw_95 mw_90) rfl rfl rfl pd_X1_add ⟨Nat.le_of_ble_eq_true rfl, Nat.le_of_ble_eq_true rfl⟩) ⟨q_blind, va_recv hK hI.1 (ci := 1) (q0 := 39) rfl rfl, q_to hI hK hN hZ hA⟩ rfl rfl hl.1 rfl (lv_room (Nat.le_of_ble_eq_true rfl)) dX10_writeCall_74 (by decide)) (fun H locs hI => ?_)
  refine lv_aload_n hx hb dX10_writeCall_77 rfl (lv_at hl 0 rfl) ?_
  refine gf_43_2 hx hb ht hK hI mw_480 (fun _ h9 => h9) hown dX10_writeCall_78 ?_
  refine lv_aload_n hx hb dX10_writeCall_81 rfl (lv_at hl 0 rfl) ?_
  refine gf_43_4 hx hb ht hK hI (v := σ15 43 4) rfl mw_533 (fun _ h9 => h9) hown dX10_writeCall_82 ?_
  refine lv_bipush (v := 14) hx hb dX10_writeCall_85 (by decide) ?_
  refine lv_aload_n hx hb dX10_writeCall_87 rfl (lv_at hl 0 rfl) ?_
  refine lv_aload_n hx hb dX10_writeCall_88 rfl (lv_at hl 0 rfl) ?_
  refine gf_43_0 hx hb ht hK hI mw_478 (fun _ h9 => h9) hown dX10_writeCall_89 ?_
  refine gf_13_3 hx hb ht hK hI mw_566 (fun _ h9 => h9) hown dX10_writeCall_92 ?_
  refine lv_iload_n hx hb dX10_writeCall_95 rfl (lv_at hl 1 rfl) ?_
  obtain ⟨g17, hm⟩ := gb_some hm
  refine ld_17 hx hb hK hI g17 (v := σ15 17 (ix p0)) rfl dX10_writeCall_96 ?_
  obtain ⟨r18, σ19, h20, hm⟩ := bd_some hm
  refine k_i hI hA (va_runV (As := [.int (σ15 17 (ix p0))]) (rest := [.int 14, .int (σ15 43 4), .ref (ga g 39)]) hX (c_X10_target N n h20 _) (cwV 1 ht (in_V mw_552 mw_553 mw_554 mw_505 mw_541) rfl rfl rfl pd_X10_target ⟨Nat.le_of_ble_eq_true rfl, Nat.le_of_ble_eq_true rfl⟩) ⟨q_blind, va_recv hK hI.1 (ci := 9) (q0 := 43) rfl rfl, q_to hI hK hN hZ hA⟩ rfl rfl hl.1 rfl (lv_room (Nat.le_of_ble_eq_true rfl)) dX10_writeCall_97 (by decide)) (fun H locs hI => ?_)
  refine lv_iconst (v := 0) hx hb dX10_writeCall_100 (by decide) ?_
  obtain ⟨r21, σ22, h23, hm⟩ := bd_some hm
  refine k_v hI hA (va_runV (As := [.int (σ15 43 4), .int 14, .int r18, .int 0]) (rest := []) hX (c_X1_add N n h23 _) (cwV 4 ht (in_V mw_549 mw_93 mw_94 mw_95 mw_90) rfl rfl rfl pd_X1_add ⟨Nat.le_of_ble_eq_true rfl, Nat.le_of_ble_eq_true rfl⟩) ⟨q_blind, va_recv hK hI.1 (ci := 1) (q0 := 39) rfl rfl, q_to hI hK hN hZ hA⟩ rfl rfl hl.1 rfl (lv_room (Nat.le_of_ble_eq_true rfl)) dX10_writeCall_101 (by decide)) (fun H locs hI => ?_)
  refine lv_aload_n hx hb dX10_writeCall_104 rfl (lv_at hl 0 rfl) ?_
  refine lv_aload_n hx hb dX10_writeCall_105 rfl (lv_at hl 0 rfl) ?_
  refine gf_43_0 hx hb ht hK hI mw_478 (fun _ h9 => h9) hown dX10_writeCall_106 ?_
  refine gf_13_3 hx hb ht hK hI mw_566 (fun _ h9 => h9) hown dX10_writeCall_109 ?_
  refine lv_iload_n hx hb dX10_writeCall_112 rfl (lv_at hl 1 rfl) ?_
  obtain ⟨g24, hm⟩ := gb_some hm
  refine ld_17 hx hb hK hI g24 (v := σ22 17 (ix p0)) rfl dX10_writeCall_113 ?_
  obtain ⟨r25, σ26, h27, hm⟩ := bd_some hm
  refine k_v hI hA (va_runV (As := [.int (σ22 17 (ix p0))]) (rest := []) hX (c_X10_saveTarget N n h27 _) (cwV 1 ht (in_V mw_555 mw_556 mw_557 mw_505 mw_548) rfl rfl rfl pd_X10_saveTarget ⟨Nat.le_of_ble_eq_true rfl, Nat.le_of_ble_eq_true rfl⟩) ⟨q_blind, va_recv hK hI.1 (ci := 9) (q0 := 43) rfl rfl, q_to hI hK hN hZ hA⟩ rfl rfl hl.1 rfl (lv_room (Nat.le_of_ble_eq_true rfl)) dX10_writeCall_114 (by decide)) (fun H locs hI => ?_)
  exact hR _ _ _ _ _ hm hI dX10_writeCall_117
def lb_X10_writeEntry_2 (N n : Nat) (u2 : Int32) (K87 : (Sg → Int32 → Option (Int32 × Sg))) (rec : (Sg → Int32 → Option (Int32 × Sg))) (σ : Sg) (v3 : Int32) : Option (Int32 × Sg) := gb (σ 43 4) 12 (if (σ 3 (ix (σ 43 4))) ≤ v3 then (K87 σ v3) else (if ((u2 >>> (v3 &&& 31)) &&& 1) = 0 then (rec σ (v3 + 1)) else (gb (σ 43 4) 12 (if (σ 2 (ix (σ 43 4))) ≤ v3 then (bd (f_X10_target N n σ v3) (fun r6 σ7 => bd (f_X1_add N n σ7 (σ 43 4) 0 r6 0) (fun r9 σ10 => bd (f_X10_saveTarget N n σ10 v3) (fun r12 σ13 => rec σ13 (v3 + 1))))) else (bd (f_X10_target N n σ v3) (fun r15 σ16 => bd (f_X1_add N n σ16 (σ 43 4) 11 r15 v3) (fun r18 σ19 => bd (f_X10_saveTarget N n σ19 v3) (fun r21 σ22 => rec σ22 (v3 + 1)))))))))
def lf_X10_writeEntry_2 (N n : Nat) (u2 : Int32) (K87 : (Sg → Int32 → Option (Int32 × Sg))) : Nat → (Sg → Int32 → Option (Int32 × Sg))
  | 0 => fun _ _ => none
  | k + 1 => lb_X10_writeEntry_2 N n u2 K87 (lf_X10_writeEntry_2 N n u2 K87 k)
def f_X10_writeEntry (N n : Nat) (σ : Sg) (p1 : Int32) : Option (Int32 × Sg) := lf_X10_writeEntry_2 N n p1 (fun σ24 w25 => some (0, σ24)) N σ 0
set_option maxHeartbeats 4000000 in
set_option maxRecDepth 100000 in
theorem lp_X10_writeEntry_2 {p : Program} {l : Launch} {e : Env} {s : State} {m : MethodId} {args : Array Value} {below : List Frame} {meth : Method} {c : Code} {Q : State → Prop} {A : Nat → Prop} {g : GG} {q N n : Nat} {out : Int32 × Sg} {u2 : Int32} {K87 : (Sg → Int32 → Option (Int32 × Sg))}
    (hC : CXv p l e (qR 2 47) s m args below meth c cX10_writeEntry 4 RX10 g q n A Q (some out)) :
    ∀ (k : Nat) (σ : Sg) (v3 : Int32) (H : Heap) (locs : List Loc) (ls : Array Slot), lf_X10_writeEntry_2 N n u2 K87 k σ v3 = some out → wI g q n σ A s.heap H locs → lv_has ls 4 [(0, .ref (ga g 43)), (1, .ref (ga g 1)), (2, .int u2), (3, .int v3)] → (∀ (σ : Sg) (v3 : Int32) (H : Heap) (locs : List Loc) (ls : Array Slot), K87 σ v3 = some out → wI g q n σ A s.heap H locs → lv_has ls 4 [] → W p l e (qR 2 47) s m args below meth c H locs 0 0 Q (F0 m 87 ls [])) → W p l e (qR 2 47) s m args below meth c H locs 0 0 Q (F0 m 2 ls []) := by
  obtain ⟨hX, hK, hN, hZ, hA, hR⟩ := id hC
  have hx : p.tables.exec = Jvm.exec := hX.1
  have hb : c.code = cX10_writeEntry := hX.2.1
  have hml : c.maxLocals = 4 := hX.2.2.1
  have hown : s.vm.findClass RX10 = some m.cls := hX.2.2.2.1
  have ht : ∀ w ∈ BIG, w.before args s = true := hX.2.2.2.2
  intro k
  induction k with
  | zero =>
    intro σ v3 H locs ls hm
    have hm : none = some out := hm
    exact nomatch hm
  | succ k ih =>
    intro σ v3 H locs ls hm hI hl hx87
    have hm : lb_X10_writeEntry_2 N n u2 K87 (lf_X10_writeEntry_2 N n u2 K87 k) σ v3 = some out := hm
    unfold lb_X10_writeEntry_2 at hm
    refine lv_iload_n hx hb dX10_writeEntry_2 rfl (lv_at hl 3 rfl) ?_
    refine lv_aload_n hx hb dX10_writeEntry_3 rfl (lv_at hl 1 rfl) ?_
    refine gf_1_1 hx hb ht hK hI mw_550 (fun _ h9 => h9) hown dX10_writeEntry_4 ?_
    refine lv_aload_n hx hb dX10_writeEntry_7 rfl (lv_at hl 0 rfl) ?_
    refine gf_43_4 hx hb ht hK hI (v := σ 43 4) rfl mw_533 (fun _ h9 => h9) hown dX10_writeEntry_8 ?_
    obtain ⟨g1, hm⟩ := gb_some hm
    refine ld_3 hx hb hK hI g1 (v := σ 3 (ix (σ 43 4))) rfl dX10_writeEntry_11 ?_
    refine lv_icmp_ge (tgt := 87) hx hb dX10_writeEntry_12 (by decide) (fun c2 => ?_) (fun c2 => ?_)
    · have hm := (if_pos c2).symm.trans hm
      exact hx87 σ v3 _ _ _ hm hI (lv_sub hl [] rfl)
    · have hm := (if_neg c2).symm.trans hm
      refine lv_iload_n hx hb dX10_writeEntry_15 rfl (lv_at hl 2 rfl) ?_
      refine lv_iload_n hx hb dX10_writeEntry_16 rfl (lv_at hl 3 rfl) ?_
      refine lv_ishr hx hb dX10_writeEntry_17 ?_
      refine lv_iconst (v := 1) hx hb dX10_writeEntry_18 (by decide) ?_
      refine lv_iand hx hb dX10_writeEntry_19 ?_
      refine lv_if_eq (tgt := 81) hx hb dX10_writeEntry_20 (by decide) (fun c3 => ?_) (fun c3 => ?_)
      · have hm := (if_pos c3).symm.trans hm
        refine lv_iinc (v := v3 + 1) (lv' := [(3, .int (v3 + 1)), (0, .ref (ga g 43)), (1, .ref (ga g 1)), (2, .int u2)]) hx hb dX10_writeEntry_81 hl (k := 3) rfl (congrArg (fun z => v3 + z) (show Int32.ofInt 1 = 1 by decide)) (by decide) rfl (fun ls hl => ?_)
        refine lv_goto (tgt := 2) hx hb dX10_writeEntry_84 (by decide) ?_
        exact ih σ (v3 + 1) _ _ _ hm hI (lv_sub hl [1, 2, 3, 0] rfl) hx87
      · have hm := (if_neg c3).symm.trans hm
        refine lv_iload_n hx hb dX10_writeEntry_23 rfl (lv_at hl 3 rfl) ?_
        refine lv_aload_n hx hb dX10_writeEntry_24 rfl (lv_at hl 1 rfl) ?_
        refine gf_1_0 hx hb ht hK hI mw_551 (fun _ h9 => h9) hown dX10_writeEntry_25 ?_
        refine lv_aload_n hx hb dX10_writeEntry_28 rfl (lv_at hl 0 rfl) ?_
        refine gf_43_4 hx hb ht hK hI (v := σ 43 4) rfl mw_533 (fun _ h9 => h9) hown dX10_writeEntry_29 ?_
        obtain ⟨g4, hm⟩ := gb_some hm
        refine ld_2 hx hb hK hI g4 (v := σ 2 (ix (σ 43 4))) rfl dX10_writeEntry_32 ?_
        refine lv_icmp_ge (tgt := 58) hx hb dX10_writeEntry_33 (by decide) (fun c5 => ?_) (fun c5 => ?_)
        · have hm := (if_pos c5).symm.trans hm
          refine lv_aload_n hx hb dX10_writeEntry_58 rfl (lv_at hl 0 rfl) ?_
          refine gf_43_2 hx hb ht hK hI mw_480 (fun _ h9 => h9) hown dX10_writeEntry_59 ?_
          refine lv_aload_n hx hb dX10_writeEntry_62 rfl (lv_at hl 0 rfl) ?_
          refine gf_43_4 hx hb ht hK hI (v := σ 43 4) rfl mw_533 (fun _ h9 => h9) hown dX10_writeEntry_63 ?_
          refine lv_iconst (v := 0) hx hb dX10_writeEntry_66 (by decide) ?_
          refine lv_aload_n hx hb dX10_writeEntry_67 rfl (lv_at hl 0 rfl) ?_
          refine lv_iload_n hx hb dX10_writeEntry_68 rfl (lv_at hl 3 rfl) ?_
          obtain ⟨r6, σ7, h8, hm⟩ := bd_some hm
          refine k_i hI hA (va_runV (As := [.int v3]) (rest := [.int 0, .int (σ 43 4), .ref (ga g 39)]) hX (c_X10_target N n h8 _) (cwV 1 ht (in_V mw_552 mw_553 mw_554 mw_505 mw_541) rfl rfl rfl pd_X10_target ⟨Nat.le_of_ble_eq_true rfl, Nat.le_of_ble_eq_true rfl⟩) ⟨q_blind, va_recv hK hI.1 (ci := 9) (q0 := 43) rfl rfl, q_to hI hK hN hZ hA⟩ rfl rfl hl.1 rfl (lv_room (Nat.le_of_ble_eq_true rfl)) dX10_writeEntry_69 (by decide)) (fun H locs hI => ?_)
          refine lv_iconst (v := 0) hx hb dX10_writeEntry_72 (by decide) ?_
          obtain ⟨r9, σ10, h11, hm⟩ := bd_some hm
          refine k_v hI hA (va_runV (As := [.int (σ 43 4), .int 0, .int r6, .int 0]) (rest := []) hX (c_X1_add N n h11 _) (cwV 4 ht (in_V mw_549 mw_93 mw_94 mw_95 mw_90) rfl rfl rfl pd_X1_add ⟨Nat.le_of_ble_eq_true rfl, Nat.le_of_ble_eq_true rfl⟩) ⟨q_blind, va_recv hK hI.1 (ci := 1) (q0 := 39) rfl rfl, q_to hI hK hN hZ hA⟩ rfl rfl hl.1 rfl (lv_room (Nat.le_of_ble_eq_true rfl)) dX10_writeEntry_73 (by decide)) (fun H locs hI => ?_)
          refine lv_aload_n hx hb dX10_writeEntry_76 rfl (lv_at hl 0 rfl) ?_
          refine lv_iload_n hx hb dX10_writeEntry_77 rfl (lv_at hl 3 rfl) ?_
          obtain ⟨r12, σ13, h14, hm⟩ := bd_some hm
          refine k_v hI hA (va_runV (As := [.int v3]) (rest := []) hX (c_X10_saveTarget N n h14 _) (cwV 1 ht (in_V mw_555 mw_556 mw_557 mw_505 mw_548) rfl rfl rfl pd_X10_saveTarget ⟨Nat.le_of_ble_eq_true rfl, Nat.le_of_ble_eq_true rfl⟩) ⟨q_blind, va_recv hK hI.1 (ci := 9) (q0 := 43) rfl rfl, q_to hI hK hN hZ hA⟩ rfl rfl hl.1 rfl (lv_room (Nat.le_of_ble_eq_true rfl)) dX10_writeEntry_78 (by decide)) (fun H locs hI => ?_)
          refine lv_iinc (v := v3 + 1) (lv' := [(3, .int (v3 + 1)), (0, .ref (ga g 43)), (1, .ref (ga g 1)), (2, .int u2)]) hx hb dX10_writeEntry_81 hl (k := 3) rfl (congrArg (fun z => v3 + z) (show Int32.ofInt 1 = 1 by decide)) (by decide) rfl (fun ls hl => ?_)
          refine lv_goto (tgt := 2) hx hb dX10_writeEntry_84 (by decide) ?_
          exact ih σ13 (v3 + 1) _ _ _ hm hI (lv_sub hl [1, 2, 3, 0] rfl) hx87
        · have hm := (if_neg c5).symm.trans hm
          refine lv_aload_n hx hb dX10_writeEntry_36 rfl (lv_at hl 0 rfl) ?_
          refine gf_43_2 hx hb ht hK hI mw_480 (fun _ h9 => h9) hown dX10_writeEntry_37 ?_
          refine lv_aload_n hx hb dX10_writeEntry_40 rfl (lv_at hl 0 rfl) ?_
          refine gf_43_4 hx hb ht hK hI (v := σ 43 4) rfl mw_533 (fun _ h9 => h9) hown dX10_writeEntry_41 ?_
          refine lv_bipush (v := 11) hx hb dX10_writeEntry_44 (by decide) ?_
          refine lv_aload_n hx hb dX10_writeEntry_46 rfl (lv_at hl 0 rfl) ?_
          refine lv_iload_n hx hb dX10_writeEntry_47 rfl (lv_at hl 3 rfl) ?_
          obtain ⟨r15, σ16, h17, hm⟩ := bd_some hm
          refine k_i hI hA (va_runV (As := [.int v3]) (rest := [.int 11, .int (σ 43 4), .ref (ga g 39)]) hX (c_X10_target N n h17 _) (cwV 1 ht (in_V mw_552 mw_553 mw_554 mw_505 mw_541) rfl rfl rfl pd_X10_target ⟨Nat.le_of_ble_eq_true rfl, Nat.le_of_ble_eq_true rfl⟩) ⟨q_blind, va_recv hK hI.1 (ci := 9) (q0 := 43) rfl rfl, q_to hI hK hN hZ hA⟩ rfl rfl hl.1 rfl (lv_room (Nat.le_of_ble_eq_true rfl)) dX10_writeEntry_48 (by decide)) (fun H locs hI => ?_)
          refine lv_iload_n hx hb dX10_writeEntry_51 rfl (lv_at hl 3 rfl) ?_
          obtain ⟨r18, σ19, h20, hm⟩ := bd_some hm
          refine k_v hI hA (va_runV (As := [.int (σ 43 4), .int 11, .int r15, .int v3]) (rest := []) hX (c_X1_add N n h20 _) (cwV 4 ht (in_V mw_549 mw_93 mw_94 mw_95 mw_90) rfl rfl rfl pd_X1_add ⟨Nat.le_of_ble_eq_true rfl, Nat.le_of_ble_eq_true rfl⟩) ⟨q_blind, va_recv hK hI.1 (ci := 1) (q0 := 39) rfl rfl, q_to hI hK hN hZ hA⟩ rfl rfl hl.1 rfl (lv_room (Nat.le_of_ble_eq_true rfl)) dX10_writeEntry_52 (by decide)) (fun H locs hI => ?_)
          refine lv_goto (tgt := 76) hx hb dX10_writeEntry_55 (by decide) ?_
          refine lv_aload_n hx hb dX10_writeEntry_76 rfl (lv_at hl 0 rfl) ?_
          refine lv_iload_n hx hb dX10_writeEntry_77 rfl (lv_at hl 3 rfl) ?_
          obtain ⟨r21, σ22, h23, hm⟩ := bd_some hm
          refine k_v hI hA (va_runV (As := [.int v3]) (rest := []) hX (c_X10_saveTarget N n h23 _) (cwV 1 ht (in_V mw_555 mw_556 mw_557 mw_505 mw_548) rfl rfl rfl pd_X10_saveTarget ⟨Nat.le_of_ble_eq_true rfl, Nat.le_of_ble_eq_true rfl⟩) ⟨q_blind, va_recv hK hI.1 (ci := 9) (q0 := 43) rfl rfl, q_to hI hK hN hZ hA⟩ rfl rfl hl.1 rfl (lv_room (Nat.le_of_ble_eq_true rfl)) dX10_writeEntry_78 (by decide)) (fun H locs hI => ?_)
          refine lv_iinc (v := v3 + 1) (lv' := [(3, .int (v3 + 1)), (0, .ref (ga g 43)), (1, .ref (ga g 1)), (2, .int u2)]) hx hb dX10_writeEntry_81 hl (k := 3) rfl (congrArg (fun z => v3 + z) (show Int32.ofInt 1 = 1 by decide)) (by decide) rfl (fun ls hl => ?_)
          refine lv_goto (tgt := 2) hx hb dX10_writeEntry_84 (by decide) ?_
          exact ih σ22 (v3 + 1) _ _ _ hm hI (lv_sub hl [1, 2, 3, 0] rfl) hx87
set_option maxHeartbeats 4000000 in
set_option maxRecDepth 100000 in
theorem c_X10_writeEntry {l : Launch} {g : GG} {q : Nat} (N n : Nat) {σ : Sg} {p1 : Int32} {r : Int32} {σ' : Sg} (hm : f_X10_writeEntry N n σ p1 = some (r, σ')) : CTv l yX10_writeEntry cX10_writeEntry 4 none 2 47 g q n [.ref (ga g 43), .ref (ga g 1), .int p1] σ σ' := by
  refine e_v (r := r) (by decide) (Nat.le_of_ble_eq_true rfl) ?_
  intro p e s m args below meth c A Q ls hC hl hI
  obtain ⟨hX, hK, hN, hZ, hA, hR⟩ := id hC
  have hx : p.tables.exec = Jvm.exec := hX.1
  have hb : c.code = cX10_writeEntry := hX.2.1
  have hml : c.maxLocals = 4 := hX.2.2.1
  have hown : s.vm.findClass RX10 = some m.cls := hX.2.2.2.1
  have ht : ∀ w ∈ BIG, w.before args s = true := hX.2.2.2.2
  have hl : lv_has ls 4 [(0, .ref (ga g 43)), (1, .ref (ga g 1)), (2, .int p1)] := hl
  unfold f_X10_writeEntry at hm
  refine lv_iconst (v := 0) hx hb dX10_writeEntry_0 (by decide) ?_
  refine lv_istore_n (lv' := [(3, .int 0), (0, .ref (ga g 43)), (1, .ref (ga g 1)), (2, .int p1)]) hx hb dX10_writeEntry_1 rfl hl (by decide) rfl (fun ls hl => ?_)
  refine lp_X10_writeEntry_2 hC N _ _ _ _ _ hm hI (lv_sub hl [1, 2, 3, 0] rfl) ?_
  intro σ24 w25 H locs ls hm hI hl
  exact hR _ _ _ _ _ hm hI dX10_writeEntry_87
def f_X10_writeMove (N n : Nat) (σ : Sg) (p0 : Int32) (p1 : Int32) : Option (Int32 × Sg) := bd (f_X2_slotOf N n σ (σ 43 4) p0) (fun r1 σ2 => bd (f_X2_slotOf N n σ2 (σ2 43 4) p1) (fun r4 σ5 => if r1 = (-1) then (bd (f_X2_registerOf N n σ5 (σ5 43 4) p0) (fun r22 σ23 => bd (f_X10_moveInto N n σ23 r22 p1) (fun r25 σ26 => some (0, σ26)))) else (if r4 = (-1) then (bd (f_X2_registerOf N n σ5 (σ5 43 4) p1) (fun r16 σ17 => bd (f_X1_add N n σ17 (σ5 43 4) 10 r1 r16) (fun r19 σ20 => some (0, σ20)))) else (if r1 = r4 then (some (0, σ5)) else (bd (f_X1_add N n σ5 (σ5 43 4) 9 (σ5 43 5) r4) (fun r10 σ11 => bd (f_X1_add N n σ11 (σ11 43 4) 10 r1 (σ11 43 5)) (fun r13 σ14 => some (0, σ14))))))))
set_option maxHeartbeats 4000000 in
set_option maxRecDepth 100000 in
theorem c_X10_writeMove {l : Launch} {g : GG} {q : Nat} (N n : Nat) {σ : Sg} {p0 : Int32} {p1 : Int32} {r : Int32} {σ' : Sg} (hm : f_X10_writeMove N n σ p0 p1 = some (r, σ')) : CTv l yX10_writeMove cX10_writeMove 5 none 2 48 g q n [.ref (ga g 43), .int p0, .int p1] σ σ' := by
  refine e_v (r := r) (by decide) (Nat.le_of_ble_eq_true rfl) ?_
  intro p e s m args below meth c A Q ls hC hl hI
  obtain ⟨hX, hK, hN, hZ, hA, hR⟩ := id hC
  have hx : p.tables.exec = Jvm.exec := hX.1
  have hb : c.code = cX10_writeMove := hX.2.1
  have hml : c.maxLocals = 5 := hX.2.2.1
  have hown : s.vm.findClass RX10 = some m.cls := hX.2.2.2.1
  have ht : ∀ w ∈ BIG, w.before args s = true := hX.2.2.2.2
  have hl : lv_has ls 5 [(0, .ref (ga g 43)), (1, .int p0), (2, .int p1)] := hl
  unfold f_X10_writeMove at hm
  refine lv_aload_n hx hb dX10_writeMove_0 rfl (lv_at hl 0 rfl) ?_
  refine gf_43_1 hx hb ht hK hI mw_479 (fun _ h9 => h9) hown dX10_writeMove_1 ?_
  refine lv_aload_n hx hb dX10_writeMove_4 rfl (lv_at hl 0 rfl) ?_
  refine gf_43_4 hx hb ht hK hI (v := σ 43 4) rfl mw_533 (fun _ h9 => h9) hown dX10_writeMove_5 ?_
  refine lv_iload_n hx hb dX10_writeMove_8 rfl (lv_at hl 1 rfl) ?_
  obtain ⟨r1, σ2, h3, hm⟩ := bd_some hm
  refine k_i hI hA (va_runV (As := [.int (σ 43 4), .int p0]) (rest := []) hX (c_X2_slotOf N n h3 _) (cwV 2 ht (in_V mw_542 mw_543 mw_544 mw_146 mw_113) rfl rfl rfl pd_X2_slotOf ⟨Nat.le_of_ble_eq_true rfl, Nat.le_of_ble_eq_true rfl⟩) ⟨q_blind, va_recv hK hI.1 (ci := 2) (q0 := 32) rfl rfl, q_to hI hK hN hZ hA⟩ rfl rfl hl.1 rfl (lv_room (Nat.le_of_ble_eq_true rfl)) dX10_writeMove_9 (by decide)) (fun H locs hI => ?_)
  refine lv_istore_n (lv' := [(3, .int r1), (0, .ref (ga g 43)), (1, .int p0), (2, .int p1)]) hx hb dX10_writeMove_12 rfl hl (by decide) rfl (fun ls hl => ?_)
  refine lv_aload_n hx hb dX10_writeMove_13 rfl (lv_at hl 1 rfl) ?_
  refine gf_43_1 hx hb ht hK hI mw_479 (fun _ h9 => h9) hown dX10_writeMove_14 ?_
  refine lv_aload_n hx hb dX10_writeMove_17 rfl (lv_at hl 1 rfl) ?_
  refine gf_43_4 hx hb ht hK hI (v := σ2 43 4) rfl mw_533 (fun _ h9 => h9) hown dX10_writeMove_18 ?_
  refine lv_iload_n hx hb dX10_writeMove_21 rfl (lv_at hl 3 rfl) ?_
  obtain ⟨r4, σ5, h6, hm⟩ := bd_some hm
  refine k_i hI hA (va_runV (As := [.int (σ2 43 4), .int p1]) (rest := []) hX (c_X2_slotOf N n h6 _) (cwV 2 ht (in_V mw_542 mw_543 mw_544 mw_146 mw_113) rfl rfl rfl pd_X2_slotOf ⟨Nat.le_of_ble_eq_true rfl, Nat.le_of_ble_eq_true rfl⟩) ⟨q_blind, va_recv hK hI.1 (ci := 2) (q0 := 32) rfl rfl, q_to hI hK hN hZ hA⟩ rfl rfl hl.1 rfl (lv_room (Nat.le_of_ble_eq_true rfl)) dX10_writeMove_22 (by decide)) (fun H locs hI => ?_)
  refine lv_istore (lv' := [(4, .int r4), (3, .int r1), (0, .ref (ga g 43)), (1, .int p0), (2, .int p1)]) hx hb dX10_writeMove_25 hl (by decide) rfl (fun ls hl => ?_)
  refine lv_iload_n hx hb dX10_writeMove_27 rfl (lv_at hl 1 rfl) ?_
  refine lv_iconst (v := (-1)) hx hb dX10_writeMove_28 (by decide) ?_
  refine lv_icmp_ne (tgt := 52) hx hb dX10_writeMove_29 (by decide) (fun c7 => ?_) (fun c7 => ?_)
  · have hm := (if_neg c7).symm.trans hm
    refine lv_iload hx hb dX10_writeMove_52 (lv_at hl 0 rfl) ?_
    refine lv_iconst (v := (-1)) hx hb dX10_writeMove_54 (by decide) ?_
    refine lv_icmp_ne (tgt := 87) hx hb dX10_writeMove_55 (by decide) (fun c8 => ?_) (fun c8 => ?_)
    · have hm := (if_neg c8).symm.trans hm
      refine lv_iload_n hx hb dX10_writeMove_87 rfl (lv_at hl 1 rfl) ?_
      refine lv_iload hx hb dX10_writeMove_88 (lv_at hl 0 rfl) ?_
      refine lv_icmp_eq (tgt := 130) hx hb dX10_writeMove_90 (by decide) (fun c9 => ?_) (fun c9 => ?_)
      · have hm := (if_pos c9).symm.trans hm
        exact hR _ _ _ _ _ hm hI dX10_writeMove_130
      · have hm := (if_neg c9).symm.trans hm
        refine lv_aload_n hx hb dX10_writeMove_93 rfl (lv_at hl 2 rfl) ?_
        refine gf_43_2 hx hb ht hK hI mw_480 (fun _ h9 => h9) hown dX10_writeMove_94 ?_
        refine lv_aload_n hx hb dX10_writeMove_97 rfl (lv_at hl 2 rfl) ?_
        refine gf_43_4 hx hb ht hK hI (v := σ5 43 4) rfl mw_533 (fun _ h9 => h9) hown dX10_writeMove_98 ?_
        refine lv_bipush (v := 9) hx hb dX10_writeMove_101 (by decide) ?_
        refine lv_aload_n hx hb dX10_writeMove_103 rfl (lv_at hl 2 rfl) ?_
        refine gf_43_5 hx hb ht hK hI (v := σ5 43 5) rfl mw_534 (fun _ h9 => h9) hown dX10_writeMove_104 ?_
        refine lv_iload hx hb dX10_writeMove_107 (lv_at hl 0 rfl) ?_
        obtain ⟨r10, σ11, h12, hm⟩ := bd_some hm
        refine k_v hI hA (va_runV (As := [.int (σ5 43 4), .int 9, .int (σ5 43 5), .int r4]) (rest := []) hX (c_X1_add N n h12 _) (cwV 4 ht (in_V mw_549 mw_93 mw_94 mw_95 mw_90) rfl rfl rfl pd_X1_add ⟨Nat.le_of_ble_eq_true rfl, Nat.le_of_ble_eq_true rfl⟩) ⟨q_blind, va_recv hK hI.1 (ci := 1) (q0 := 39) rfl rfl, q_to hI hK hN hZ hA⟩ rfl rfl hl.1 rfl (lv_room (Nat.le_of_ble_eq_true rfl)) dX10_writeMove_109 (by decide)) (fun H locs hI => ?_)
        refine lv_aload_n hx hb dX10_writeMove_112 rfl (lv_at hl 2 rfl) ?_
        refine gf_43_2 hx hb ht hK hI mw_480 (fun _ h9 => h9) hown dX10_writeMove_113 ?_
        refine lv_aload_n hx hb dX10_writeMove_116 rfl (lv_at hl 2 rfl) ?_
        refine gf_43_4 hx hb ht hK hI (v := σ11 43 4) rfl mw_533 (fun _ h9 => h9) hown dX10_writeMove_117 ?_
        refine lv_bipush (v := 10) hx hb dX10_writeMove_120 (by decide) ?_
        refine lv_iload_n hx hb dX10_writeMove_122 rfl (lv_at hl 1 rfl) ?_
        refine lv_aload_n hx hb dX10_writeMove_123 rfl (lv_at hl 2 rfl) ?_
        refine gf_43_5 hx hb ht hK hI (v := σ11 43 5) rfl mw_534 (fun _ h9 => h9) hown dX10_writeMove_124 ?_
        obtain ⟨r13, σ14, h15, hm⟩ := bd_some hm
        refine k_v hI hA (va_runV (As := [.int (σ11 43 4), .int 10, .int r1, .int (σ11 43 5)]) (rest := []) hX (c_X1_add N n h15 _) (cwV 4 ht (in_V mw_549 mw_93 mw_94 mw_95 mw_90) rfl rfl rfl pd_X1_add ⟨Nat.le_of_ble_eq_true rfl, Nat.le_of_ble_eq_true rfl⟩) ⟨q_blind, va_recv hK hI.1 (ci := 1) (q0 := 39) rfl rfl, q_to hI hK hN hZ hA⟩ rfl rfl hl.1 rfl (lv_room (Nat.le_of_ble_eq_true rfl)) dX10_writeMove_127 (by decide)) (fun H locs hI => ?_)
        exact hR _ _ _ _ _ hm hI dX10_writeMove_130
    · have hm := (if_pos c8).symm.trans hm
      refine lv_aload_n hx hb dX10_writeMove_58 rfl (lv_at hl 2 rfl) ?_
      refine gf_43_2 hx hb ht hK hI mw_480 (fun _ h9 => h9) hown dX10_writeMove_59 ?_
      refine lv_aload_n hx hb dX10_writeMove_62 rfl (lv_at hl 2 rfl) ?_
      refine gf_43_4 hx hb ht hK hI (v := σ5 43 4) rfl mw_533 (fun _ h9 => h9) hown dX10_writeMove_63 ?_
      refine lv_bipush (v := 10) hx hb dX10_writeMove_66 (by decide) ?_
      refine lv_iload_n hx hb dX10_writeMove_68 rfl (lv_at hl 1 rfl) ?_
      refine lv_aload_n hx hb dX10_writeMove_69 rfl (lv_at hl 2 rfl) ?_
      refine gf_43_1 hx hb ht hK hI mw_479 (fun _ h9 => h9) hown dX10_writeMove_70 ?_
      refine lv_aload_n hx hb dX10_writeMove_73 rfl (lv_at hl 2 rfl) ?_
      refine gf_43_4 hx hb ht hK hI (v := σ5 43 4) rfl mw_533 (fun _ h9 => h9) hown dX10_writeMove_74 ?_
      refine lv_iload_n hx hb dX10_writeMove_77 rfl (lv_at hl 4 rfl) ?_
      obtain ⟨r16, σ17, h18, hm⟩ := bd_some hm
      refine k_i hI hA (va_runV (As := [.int (σ5 43 4), .int p1]) (rest := [.int r1, .int 10, .int (σ5 43 4), .ref (ga g 39)]) hX (c_X2_registerOf N n h18 _) (cwV 2 ht (in_V mw_545 mw_546 mw_547 mw_146 mw_112) rfl rfl rfl pd_X2_registerOf ⟨Nat.le_of_ble_eq_true rfl, Nat.le_of_ble_eq_true rfl⟩) ⟨q_blind, va_recv hK hI.1 (ci := 2) (q0 := 32) rfl rfl, q_to hI hK hN hZ hA⟩ rfl rfl hl.1 rfl (lv_room (Nat.le_of_ble_eq_true rfl)) dX10_writeMove_78 (by decide)) (fun H locs hI => ?_)
      obtain ⟨r19, σ20, h21, hm⟩ := bd_some hm
      refine k_v hI hA (va_runV (As := [.int (σ5 43 4), .int 10, .int r1, .int r16]) (rest := []) hX (c_X1_add N n h21 _) (cwV 4 ht (in_V mw_549 mw_93 mw_94 mw_95 mw_90) rfl rfl rfl pd_X1_add ⟨Nat.le_of_ble_eq_true rfl, Nat.le_of_ble_eq_true rfl⟩) ⟨q_blind, va_recv hK hI.1 (ci := 1) (q0 := 39) rfl rfl, q_to hI hK hN hZ hA⟩ rfl rfl hl.1 rfl (lv_room (Nat.le_of_ble_eq_true rfl)) dX10_writeMove_81 (by decide)) (fun H locs hI => ?_)
      refine lv_goto (tgt := 130) hx hb dX10_writeMove_84 (by decide) ?_
      exact hR _ _ _ _ _ hm hI dX10_writeMove_130
  · have hm := (if_pos c7).symm.trans hm
    refine lv_aload_n hx hb dX10_writeMove_32 rfl (lv_at hl 2 rfl) ?_
    refine lv_aload_n hx hb dX10_writeMove_33 rfl (lv_at hl 2 rfl) ?_
    refine gf_43_1 hx hb ht hK hI mw_479 (fun _ h9 => h9) hown dX10_writeMove_34 ?_
    refine lv_aload_n hx hb dX10_writeMove_37 rfl (lv_at hl 2 rfl) ?_
    refine gf_43_4 hx hb ht hK hI (v := σ5 43 4) rfl mw_533 (fun _ h9 => h9) hown dX10_writeMove_38 ?_
    refine lv_iload_n hx hb dX10_writeMove_41 rfl (lv_at hl 3 rfl) ?_
    obtain ⟨r22, σ23, h24, hm⟩ := bd_some hm
    refine k_i hI hA (va_runV (As := [.int (σ5 43 4), .int p0]) (rest := [.ref (ga g 43)]) hX (c_X2_registerOf N n h24 _) (cwV 2 ht (in_V mw_545 mw_546 mw_547 mw_146 mw_112) rfl rfl rfl pd_X2_registerOf ⟨Nat.le_of_ble_eq_true rfl, Nat.le_of_ble_eq_true rfl⟩) ⟨q_blind, va_recv hK hI.1 (ci := 2) (q0 := 32) rfl rfl, q_to hI hK hN hZ hA⟩ rfl rfl hl.1 rfl (lv_room (Nat.le_of_ble_eq_true rfl)) dX10_writeMove_42 (by decide)) (fun H locs hI => ?_)
    refine lv_iload_n hx hb dX10_writeMove_45 rfl (lv_at hl 4 rfl) ?_
    obtain ⟨r25, σ26, h27, hm⟩ := bd_some hm
    refine k_v hI hA (va_runV (As := [.int r22, .int p1]) (rest := []) hX (c_X10_moveInto N n h27 _) (cwV 2 ht (in_V mw_560 mw_561 mw_562 mw_505 mw_559) rfl rfl rfl pd_X10_moveInto ⟨Nat.le_of_ble_eq_true rfl, Nat.le_of_ble_eq_true rfl⟩) ⟨q_blind, va_recv hK hI.1 (ci := 9) (q0 := 43) rfl rfl, q_to hI hK hN hZ hA⟩ rfl rfl hl.1 rfl (lv_room (Nat.le_of_ble_eq_true rfl)) dX10_writeMove_46 (by decide)) (fun H locs hI => ?_)
    refine lv_goto (tgt := 130) hx hb dX10_writeMove_49 (by decide) ?_
    exact hR _ _ _ _ _ hm hI dX10_writeMove_130
def f_X1_addWork (N n : Nat) (σ : Sg) (p0 : Int32) (p1 : Int32) (p2 : Int32) (p3 : Int32) (p4 : Int32) : Option (Int32 × Sg) := bd (f_X1_add N n σ p0 2 p1 p2) (fun r1 σ2 => gb ((((σ2 39 2) - 1) * 5) + 3) n (gb ((((σ2 39 2) - 1) * 5) + 4) n (some (0, sg (sg σ2 42 (ix ((((σ2 39 2) - 1) * 5) + 3)) p3) 42 (ix ((((σ2 39 2) - 1) * 5) + 4)) p4))))
set_option maxHeartbeats 4000000 in
set_option maxRecDepth 100000 in
theorem c_X1_addWork {l : Launch} {g : GG} {q : Nat} (N n : Nat) {σ : Sg} {p0 : Int32} {p1 : Int32} {p2 : Int32} {p3 : Int32} {p4 : Int32} {r : Int32} {σ' : Sg} (hm : f_X1_addWork N n σ p0 p1 p2 p3 p4 = some (r, σ')) : CTv l yX1_addWork cX1_addWork 7 none 1 25 g q n [.ref (ga g 39), .int p0, .int p1, .int p2, .int p3, .int p4] σ σ' := by
  refine e_v (r := r) (by decide) (Nat.le_of_ble_eq_true rfl) ?_
  intro p e s m args below meth c A Q ls hC hl hI
  obtain ⟨hX, hK, hN, hZ, hA, hR⟩ := id hC
  have hx : p.tables.exec = Jvm.exec := hX.1
  have hb : c.code = cX1_addWork := hX.2.1
  have hml : c.maxLocals = 7 := hX.2.2.1
  have hown : s.vm.findClass RX1 = some m.cls := hX.2.2.2.1
  have ht : ∀ w ∈ BIG, w.before args s = true := hX.2.2.2.2
  have hl : lv_has ls 7 [(0, .ref (ga g 39)), (1, .int p0), (2, .int p1), (3, .int p2), (4, .int p3), (5, .int p4)] := hl
  unfold f_X1_addWork at hm
  refine lv_aload_n hx hb dX1_addWork_0 rfl (lv_at hl 0 rfl) ?_
  refine lv_iload_n hx hb dX1_addWork_1 rfl (lv_at hl 1 rfl) ?_
  refine lv_iconst (v := 2) hx hb dX1_addWork_2 (by decide) ?_
  refine lv_iload_n hx hb dX1_addWork_3 rfl (lv_at hl 2 rfl) ?_
  refine lv_iload_n hx hb dX1_addWork_4 rfl (lv_at hl 3 rfl) ?_
  obtain ⟨r1, σ2, h3, hm⟩ := bd_some hm
  refine k_v hI hA (va_runV (As := [.int p0, .int 2, .int p1, .int p2]) (rest := []) hX (c_X1_add N n h3 _) (cwV 4 ht (in_V mw_92 mw_93 mw_94 mw_95 mw_90) rfl rfl rfl pd_X1_add ⟨Nat.le_of_ble_eq_true rfl, Nat.le_of_ble_eq_true rfl⟩) ⟨q_blind, va_recv hK hI.1 (ci := 1) (q0 := 39) rfl rfl, q_to hI hK hN hZ hA⟩ rfl rfl hl.1 rfl (lv_room (Nat.le_of_ble_eq_true rfl)) dX1_addWork_5 (by decide)) (fun H locs hI => ?_)
  refine lv_aload_n hx hb dX1_addWork_8 rfl (lv_at hl 0 rfl) ?_
  refine gf_39_2 hx hb ht hK hI (v := σ2 39 2) rfl mw_83 (fun _ h9 => h9) hown dX1_addWork_9 ?_
  refine lv_iconst (v := 1) hx hb dX1_addWork_12 (by decide) ?_
  refine lv_isub hx hb dX1_addWork_13 ?_
  refine lv_iconst (v := 5) hx hb dX1_addWork_14 (by decide) ?_
  refine lv_imul hx hb dX1_addWork_15 ?_
  refine lv_istore (lv' := [(6, .int (((σ2 39 2) - 1) * 5)), (0, .ref (ga g 39)), (1, .int p0), (2, .int p1), (3, .int p2), (4, .int p3), (5, .int p4)]) hx hb dX1_addWork_16 hl (by decide) rfl (fun ls hl => ?_)
  refine lv_aload_n hx hb dX1_addWork_18 rfl (lv_at hl 1 rfl) ?_
  refine gf_39_3 hx hb ht hK hI mw_69 (fun _ h9 => h9) hown dX1_addWork_19 ?_
  refine lv_iload hx hb dX1_addWork_22 (lv_at hl 0 rfl) ?_
  refine lv_iconst (v := 3) hx hb dX1_addWork_24 (by decide) ?_
  refine lv_iadd hx hb dX1_addWork_25 ?_
  refine lv_iload hx hb dX1_addWork_26 (lv_at hl 5 rfl) ?_
  obtain ⟨g4, hm⟩ := gb_some hm
  refine sv_42 hx hb hK hI g4 dX1_addWork_28 (fun H locs hI => ?_)
  refine lv_aload_n hx hb dX1_addWork_29 rfl (lv_at hl 1 rfl) ?_
  refine gf_39_3 hx hb ht hK hI mw_69 (fun _ h9 => h9) hown dX1_addWork_30 ?_
  refine lv_iload hx hb dX1_addWork_33 (lv_at hl 0 rfl) ?_
  refine lv_iconst (v := 4) hx hb dX1_addWork_35 (by decide) ?_
  refine lv_iadd hx hb dX1_addWork_36 ?_
  refine lv_iload hx hb dX1_addWork_37 (lv_at hl 6 rfl) ?_
  obtain ⟨g5, hm⟩ := gb_some hm
  refine sv_42 hx hb hK hI g5 dX1_addWork_39 (fun H locs hI => ?_)
  exact hR _ _ _ _ _ hm hI dX1_addWork_40
def f_X10_writeWork (N n : Nat) (σ : Sg) (p0 : Int32) : Option (Int32 × Sg) := gb 0 6 (gb p0 300 (bd (f_X10_loaded N n σ (σ 19 (ix p0 * 6 + ix 0)) (σ 43 5)) (fun r3 σ4 => gb 1 6 (gb p0 300 (bd (f_X10_loaded N n σ4 (σ4 19 (ix p0 * 6 + ix 1)) (σ4 43 6)) (fun r8 σ9 => gb p0 300 (bd (f_X10_target N n σ9 (σ9 17 (ix p0))) (fun r12 σ13 => gb p0 300 (bd (f_X1_addWork N n σ13 (σ13 43 4) r12 r3 r8 (σ13 15 (ix p0))) (fun r16 σ17 => gb p0 300 (bd (f_X10_saveTarget N n σ17 (σ17 17 (ix p0))) (fun r20 σ21 => some (0, σ21)))))))))))))
set_option maxHeartbeats 4000000 in
set_option maxRecDepth 100000 in
theorem c_X10_writeWork {l : Launch} {g : GG} {q : Nat} (N n : Nat) {σ : Sg} {p0 : Int32} {r : Int32} {σ' : Sg} (hm : f_X10_writeWork N n σ p0 = some (r, σ')) : CTv l yX10_writeWork cX10_writeWork 5 none 2 51 g q n [.ref (ga g 43), .int p0] σ σ' := by
  refine e_v (r := r) (by decide) (Nat.le_of_ble_eq_true rfl) ?_
  intro p e s m args below meth c A Q ls hC hl hI
  obtain ⟨hX, hK, hN, hZ, hA, hR⟩ := id hC
  have hx : p.tables.exec = Jvm.exec := hX.1
  have hb : c.code = cX10_writeWork := hX.2.1
  have hml : c.maxLocals = 5 := hX.2.2.1
  have hown : s.vm.findClass RX10 = some m.cls := hX.2.2.2.1
  have ht : ∀ w ∈ BIG, w.before args s = true := hX.2.2.2.2
  have hl : lv_has ls 5 [(0, .ref (ga g 43)), (1, .int p0)] := hl
  unfold f_X10_writeWork at hm
  refine lv_aload_n hx hb dX10_writeWork_0 rfl (lv_at hl 0 rfl) ?_
  refine lv_aload_n hx hb dX10_writeWork_1 rfl (lv_at hl 0 rfl) ?_
  refine gf_43_0 hx hb ht hK hI mw_478 (fun _ h9 => h9) hown dX10_writeWork_2 ?_
  refine gf_13_5 hx hb ht hK hI mw_565 (fun _ h9 => h9) hown dX10_writeWork_5 ?_
  refine lv_iconst (v := 0) hx hb dX10_writeWork_8 (by decide) ?_
  obtain ⟨g1, hm⟩ := gb_some hm
  refine ld_19 hx hb hK hI g1 dX10_writeWork_9 ?_
  refine lv_iload_n hx hb dX10_writeWork_10 rfl (lv_at hl 1 rfl) ?_
  obtain ⟨g2, hm⟩ := gb_some hm
  refine ld_rd hx hb hK hI g1 g2 (v := σ 19 (ix p0 * 6 + ix 0)) rfl dX10_writeWork_11 ?_
  refine lv_aload_n hx hb dX10_writeWork_12 rfl (lv_at hl 0 rfl) ?_
  refine gf_43_5 hx hb ht hK hI (v := σ 43 5) rfl mw_534 (fun _ h9 => h9) hown dX10_writeWork_13 ?_
  obtain ⟨r3, σ4, h5, hm⟩ := bd_some hm
  refine k_i hI hA (va_runV (As := [.int (σ 19 (ix p0 * 6 + ix 0)), .int (σ 43 5)]) (rest := []) hX (c_X10_loaded N n h5 _) (cwV 2 ht (in_V mw_568 mw_569 mw_570 mw_505 mw_564) rfl rfl rfl pd_X10_loaded ⟨Nat.le_of_ble_eq_true rfl, Nat.le_of_ble_eq_true rfl⟩) ⟨q_blind, va_recv hK hI.1 (ci := 9) (q0 := 43) rfl rfl, q_to hI hK hN hZ hA⟩ rfl rfl hl.1 rfl (lv_room (Nat.le_of_ble_eq_true rfl)) dX10_writeWork_16 (by decide)) (fun H locs hI => ?_)
  refine lv_istore_n (lv' := [(2, .int r3), (0, .ref (ga g 43)), (1, .int p0)]) hx hb dX10_writeWork_19 rfl hl (by decide) rfl (fun ls hl => ?_)
  refine lv_aload_n hx hb dX10_writeWork_20 rfl (lv_at hl 1 rfl) ?_
  refine lv_aload_n hx hb dX10_writeWork_21 rfl (lv_at hl 1 rfl) ?_
  refine gf_43_0 hx hb ht hK hI mw_478 (fun _ h9 => h9) hown dX10_writeWork_22 ?_
  refine gf_13_5 hx hb ht hK hI mw_565 (fun _ h9 => h9) hown dX10_writeWork_25 ?_
  refine lv_iconst (v := 1) hx hb dX10_writeWork_28 (by decide) ?_
  obtain ⟨g6, hm⟩ := gb_some hm
  refine ld_19 hx hb hK hI g6 dX10_writeWork_29 ?_
  refine lv_iload_n hx hb dX10_writeWork_30 rfl (lv_at hl 2 rfl) ?_
  obtain ⟨g7, hm⟩ := gb_some hm
  refine ld_rd hx hb hK hI g6 g7 (v := σ4 19 (ix p0 * 6 + ix 1)) rfl dX10_writeWork_31 ?_
  refine lv_aload_n hx hb dX10_writeWork_32 rfl (lv_at hl 1 rfl) ?_
  refine gf_43_6 hx hb ht hK hI (v := σ4 43 6) rfl mw_535 (fun _ h9 => h9) hown dX10_writeWork_33 ?_
  obtain ⟨r8, σ9, h10, hm⟩ := bd_some hm
  refine k_i hI hA (va_runV (As := [.int (σ4 19 (ix p0 * 6 + ix 1)), .int (σ4 43 6)]) (rest := []) hX (c_X10_loaded N n h10 _) (cwV 2 ht (in_V mw_568 mw_569 mw_570 mw_505 mw_564) rfl rfl rfl pd_X10_loaded ⟨Nat.le_of_ble_eq_true rfl, Nat.le_of_ble_eq_true rfl⟩) ⟨q_blind, va_recv hK hI.1 (ci := 9) (q0 := 43) rfl rfl, q_to hI hK hN hZ hA⟩ rfl rfl hl.1 rfl (lv_room (Nat.le_of_ble_eq_true rfl)) dX10_writeWork_36 (by decide)) (fun H locs hI => ?_)
  refine lv_istore_n (lv' := [(3, .int r8), (2, .int r3), (0, .ref (ga g 43)), (1, .int p0)]) hx hb dX10_writeWork_39 rfl hl (by decide) rfl (fun ls hl => ?_)
  refine lv_aload_n hx hb dX10_writeWork_40 rfl (lv_at hl 2 rfl) ?_
  refine lv_aload_n hx hb dX10_writeWork_41 rfl (lv_at hl 2 rfl) ?_
  refine gf_43_0 hx hb ht hK hI mw_478 (fun _ h9 => h9) hown dX10_writeWork_42 ?_
  refine gf_13_3 hx hb ht hK hI mw_566 (fun _ h9 => h9) hown dX10_writeWork_45 ?_
  refine lv_iload_n hx hb dX10_writeWork_48 rfl (lv_at hl 3 rfl) ?_
  obtain ⟨g11, hm⟩ := gb_some hm
  refine ld_17 hx hb hK hI g11 (v := σ9 17 (ix p0)) rfl dX10_writeWork_49 ?_
  obtain ⟨r12, σ13, h14, hm⟩ := bd_some hm
  refine k_i hI hA (va_runV (As := [.int (σ9 17 (ix p0))]) (rest := []) hX (c_X10_target N n h14 _) (cwV 1 ht (in_V mw_552 mw_553 mw_554 mw_505 mw_541) rfl rfl rfl pd_X10_target ⟨Nat.le_of_ble_eq_true rfl, Nat.le_of_ble_eq_true rfl⟩) ⟨q_blind, va_recv hK hI.1 (ci := 9) (q0 := 43) rfl rfl, q_to hI hK hN hZ hA⟩ rfl rfl hl.1 rfl (lv_room (Nat.le_of_ble_eq_true rfl)) dX10_writeWork_50 (by decide)) (fun H locs hI => ?_)
  refine lv_istore (lv' := [(4, .int r12), (3, .int r8), (2, .int r3), (0, .ref (ga g 43)), (1, .int p0)]) hx hb dX10_writeWork_53 hl (by decide) rfl (fun ls hl => ?_)
  refine lv_aload_n hx hb dX10_writeWork_55 rfl (lv_at hl 3 rfl) ?_
  refine gf_43_2 hx hb ht hK hI mw_480 (fun _ h9 => h9) hown dX10_writeWork_56 ?_
  refine lv_aload_n hx hb dX10_writeWork_59 rfl (lv_at hl 3 rfl) ?_
  refine gf_43_4 hx hb ht hK hI (v := σ13 43 4) rfl mw_533 (fun _ h9 => h9) hown dX10_writeWork_60 ?_
  refine lv_iload hx hb dX10_writeWork_63 (lv_at hl 0 rfl) ?_
  refine lv_iload_n hx hb dX10_writeWork_65 rfl (lv_at hl 2 rfl) ?_
  refine lv_iload_n hx hb dX10_writeWork_66 rfl (lv_at hl 1 rfl) ?_
  refine lv_aload_n hx hb dX10_writeWork_67 rfl (lv_at hl 3 rfl) ?_
  refine gf_43_0 hx hb ht hK hI mw_478 (fun _ h9 => h9) hown dX10_writeWork_68 ?_
  refine gf_13_1 hx hb ht hK hI mw_567 (fun _ h9 => h9) hown dX10_writeWork_71 ?_
  refine lv_iload_n hx hb dX10_writeWork_74 rfl (lv_at hl 4 rfl) ?_
  obtain ⟨g15, hm⟩ := gb_some hm
  refine ld_15 hx hb hK hI g15 (v := σ13 15 (ix p0)) rfl dX10_writeWork_75 ?_
  obtain ⟨r16, σ17, h18, hm⟩ := bd_some hm
  refine k_v hI hA (va_runV (As := [.int (σ13 43 4), .int r12, .int r3, .int r8, .int (σ13 15 (ix p0))]) (rest := []) hX (c_X1_addWork N n h18 _) (cwV 5 ht (in_V mw_571 mw_572 mw_573 mw_95 mw_91) rfl rfl rfl pd_X1_addWork ⟨Nat.le_of_ble_eq_true rfl, Nat.le_of_ble_eq_true rfl⟩) ⟨q_blind, va_recv hK hI.1 (ci := 1) (q0 := 39) rfl rfl, q_to hI hK hN hZ hA⟩ rfl rfl hl.1 rfl (lv_room (Nat.le_of_ble_eq_true rfl)) dX10_writeWork_76 (by decide)) (fun H locs hI => ?_)
  refine lv_aload_n hx hb dX10_writeWork_79 rfl (lv_at hl 3 rfl) ?_
  refine lv_aload_n hx hb dX10_writeWork_80 rfl (lv_at hl 3 rfl) ?_
  refine gf_43_0 hx hb ht hK hI mw_478 (fun _ h9 => h9) hown dX10_writeWork_81 ?_
  refine gf_13_3 hx hb ht hK hI mw_566 (fun _ h9 => h9) hown dX10_writeWork_84 ?_
  refine lv_iload_n hx hb dX10_writeWork_87 rfl (lv_at hl 4 rfl) ?_
  obtain ⟨g19, hm⟩ := gb_some hm
  refine ld_17 hx hb hK hI g19 (v := σ17 17 (ix p0)) rfl dX10_writeWork_88 ?_
  obtain ⟨r20, σ21, h22, hm⟩ := bd_some hm
  refine k_v hI hA (va_runV (As := [.int (σ17 17 (ix p0))]) (rest := []) hX (c_X10_saveTarget N n h22 _) (cwV 1 ht (in_V mw_555 mw_556 mw_557 mw_505 mw_548) rfl rfl rfl pd_X10_saveTarget ⟨Nat.le_of_ble_eq_true rfl, Nat.le_of_ble_eq_true rfl⟩) ⟨q_blind, va_recv hK hI.1 (ci := 9) (q0 := 43) rfl rfl, q_to hI hK hN hZ hA⟩ rfl rfl hl.1 rfl (lv_room (Nat.le_of_ble_eq_true rfl)) dX10_writeWork_89 (by decide)) (fun H locs hI => ?_)
  exact hR _ _ _ _ _ hm hI dX10_writeWork_92
def f_X10_writeSwap (N n : Nat) (σ : Sg) (p0 : Int32) (p1 : Int32) : Option (Int32 × Sg) := bd (f_X2_slotOf N n σ (σ 43 4) p0) (fun r1 σ2 => if r1 = (-1) then (bd (f_X2_slotOf N n σ2 (σ2 43 4) p1) (fun r17 σ18 => if r17 = (-1) then (bd (f_X2_registerOf N n σ18 (σ18 43 4) p0) (fun r33 σ34 => bd (f_X2_registerOf N n σ34 (σ34 43 4) p1) (fun r36 σ37 => bd (f_X1_add N n σ37 (σ18 43 4) 3 r33 r36) (fun r39 σ40 => some (0, σ40))))) else (bd (f_X10_moveInto N n σ18 (σ18 43 5) p0) (fun r21 σ22 => bd (f_X10_moveInto N n σ22 (σ22 43 6) p1) (fun r24 σ25 => bd (f_X10_moveFrom N n σ25 p0 (σ25 43 6)) (fun r27 σ28 => bd (f_X10_moveFrom N n σ28 p1 (σ28 43 5)) (fun r30 σ31 => some (0, σ31)))))))) else (bd (f_X10_moveInto N n σ2 (σ2 43 5) p0) (fun r5 σ6 => bd (f_X10_moveInto N n σ6 (σ6 43 6) p1) (fun r8 σ9 => bd (f_X10_moveFrom N n σ9 p0 (σ9 43 6)) (fun r11 σ12 => bd (f_X10_moveFrom N n σ12 p1 (σ12 43 5)) (fun r14 σ15 => some (0, σ15)))))))
set_option maxHeartbeats 4000000 in
set_option maxRecDepth 100000 in
theorem c_X10_writeSwap {l : Launch} {g : GG} {q : Nat} (N n : Nat) {σ : Sg} {p0 : Int32} {p1 : Int32} {r : Int32} {σ' : Sg} (hm : f_X10_writeSwap N n σ p0 p1 = some (r, σ')) : CTv l yX10_writeSwap cX10_writeSwap 4 none 2 48 g q n [.ref (ga g 43), .int p0, .int p1] σ σ' := by
  refine e_v (r := r) (by decide) (Nat.le_of_ble_eq_true rfl) ?_
  intro p e s m args below meth c A Q ls hC hl hI
  obtain ⟨hX, hK, hN, hZ, hA, hR⟩ := id hC
  have hx : p.tables.exec = Jvm.exec := hX.1
  have hb : c.code = cX10_writeSwap := hX.2.1
  have hml : c.maxLocals = 4 := hX.2.2.1
  have hown : s.vm.findClass RX10 = some m.cls := hX.2.2.2.1
  have ht : ∀ w ∈ BIG, w.before args s = true := hX.2.2.2.2
  have hl : lv_has ls 4 [(0, .ref (ga g 43)), (1, .int p0), (2, .int p1)] := hl
  unfold f_X10_writeSwap at hm
  refine lv_aload_n hx hb dX10_writeSwap_0 rfl (lv_at hl 0 rfl) ?_
  refine gf_43_1 hx hb ht hK hI mw_479 (fun _ h9 => h9) hown dX10_writeSwap_1 ?_
  refine lv_aload_n hx hb dX10_writeSwap_4 rfl (lv_at hl 0 rfl) ?_
  refine gf_43_4 hx hb ht hK hI (v := σ 43 4) rfl mw_533 (fun _ h9 => h9) hown dX10_writeSwap_5 ?_
  refine lv_iload_n hx hb dX10_writeSwap_8 rfl (lv_at hl 1 rfl) ?_
  obtain ⟨r1, σ2, h3, hm⟩ := bd_some hm
  refine k_i hI hA (va_runV (As := [.int (σ 43 4), .int p0]) (rest := []) hX (c_X2_slotOf N n h3 _) (cwV 2 ht (in_V mw_542 mw_543 mw_544 mw_146 mw_113) rfl rfl rfl pd_X2_slotOf ⟨Nat.le_of_ble_eq_true rfl, Nat.le_of_ble_eq_true rfl⟩) ⟨q_blind, va_recv hK hI.1 (ci := 2) (q0 := 32) rfl rfl, q_to hI hK hN hZ hA⟩ rfl rfl hl.1 rfl (lv_room (Nat.le_of_ble_eq_true rfl)) dX10_writeSwap_9 (by decide)) (fun H locs hI => ?_)
  refine lv_iconst (v := (-1)) hx hb dX10_writeSwap_12 (by decide) ?_
  refine lv_icmp_ne (tgt := 36) hx hb dX10_writeSwap_13 (by decide) (fun c4 => ?_) (fun c4 => ?_)
  · have hm := (if_neg c4).symm.trans hm
    refine lv_iconst (v := 0) hx hb dX10_writeSwap_36 (by decide) ?_
    refine lv_istore_n (lv' := [(3, .int 0), (0, .ref (ga g 43)), (1, .int p0), (2, .int p1)]) hx hb dX10_writeSwap_37 rfl hl (by decide) rfl (fun ls hl => ?_)
    refine lv_iload_n hx hb dX10_writeSwap_38 rfl (lv_at hl 0 rfl) ?_
    refine lv_if_eq (tgt := 79) hx hb dX10_writeSwap_39 (by decide) (fun _ => ?_) (fun h => absurd h (by decide))
    refine lv_aload_n hx hb dX10_writeSwap_79 rfl (lv_at hl 1 rfl) ?_
    refine lv_aload_n hx hb dX10_writeSwap_80 rfl (lv_at hl 1 rfl) ?_
    refine gf_43_5 hx hb ht hK hI (v := σ2 43 5) rfl mw_534 (fun _ h9 => h9) hown dX10_writeSwap_81 ?_
    refine lv_iload_n hx hb dX10_writeSwap_84 rfl (lv_at hl 2 rfl) ?_
    obtain ⟨r5, σ6, h7, hm⟩ := bd_some hm
    refine k_v hI hA (va_runV (As := [.int (σ2 43 5), .int p0]) (rest := []) hX (c_X10_moveInto N n h7 _) (cwV 2 ht (in_V mw_560 mw_561 mw_562 mw_505 mw_559) rfl rfl rfl pd_X10_moveInto ⟨Nat.le_of_ble_eq_true rfl, Nat.le_of_ble_eq_true rfl⟩) ⟨q_blind, va_recv hK hI.1 (ci := 9) (q0 := 43) rfl rfl, q_to hI hK hN hZ hA⟩ rfl rfl hl.1 rfl (lv_room (Nat.le_of_ble_eq_true rfl)) dX10_writeSwap_85 (by decide)) (fun H locs hI => ?_)
    refine lv_aload_n hx hb dX10_writeSwap_88 rfl (lv_at hl 1 rfl) ?_
    refine lv_aload_n hx hb dX10_writeSwap_89 rfl (lv_at hl 1 rfl) ?_
    refine gf_43_6 hx hb ht hK hI (v := σ6 43 6) rfl mw_535 (fun _ h9 => h9) hown dX10_writeSwap_90 ?_
    refine lv_iload_n hx hb dX10_writeSwap_93 rfl (lv_at hl 3 rfl) ?_
    obtain ⟨r8, σ9, h10, hm⟩ := bd_some hm
    refine k_v hI hA (va_runV (As := [.int (σ6 43 6), .int p1]) (rest := []) hX (c_X10_moveInto N n h10 _) (cwV 2 ht (in_V mw_560 mw_561 mw_562 mw_505 mw_559) rfl rfl rfl pd_X10_moveInto ⟨Nat.le_of_ble_eq_true rfl, Nat.le_of_ble_eq_true rfl⟩) ⟨q_blind, va_recv hK hI.1 (ci := 9) (q0 := 43) rfl rfl, q_to hI hK hN hZ hA⟩ rfl rfl hl.1 rfl (lv_room (Nat.le_of_ble_eq_true rfl)) dX10_writeSwap_94 (by decide)) (fun H locs hI => ?_)
    refine lv_aload_n hx hb dX10_writeSwap_97 rfl (lv_at hl 1 rfl) ?_
    refine lv_iload_n hx hb dX10_writeSwap_98 rfl (lv_at hl 2 rfl) ?_
    refine lv_aload_n hx hb dX10_writeSwap_99 rfl (lv_at hl 1 rfl) ?_
    refine gf_43_6 hx hb ht hK hI (v := σ9 43 6) rfl mw_535 (fun _ h9 => h9) hown dX10_writeSwap_100 ?_
    obtain ⟨r11, σ12, h13, hm⟩ := bd_some hm
    refine k_v hI hA (va_runV (As := [.int p0, .int (σ9 43 6)]) (rest := []) hX (c_X10_moveFrom N n h13 _) (cwV 2 ht (in_V mw_576 mw_577 mw_578 mw_505 mw_575) rfl rfl rfl pd_X10_moveFrom ⟨Nat.le_of_ble_eq_true rfl, Nat.le_of_ble_eq_true rfl⟩) ⟨q_blind, va_recv hK hI.1 (ci := 9) (q0 := 43) rfl rfl, q_to hI hK hN hZ hA⟩ rfl rfl hl.1 rfl (lv_room (Nat.le_of_ble_eq_true rfl)) dX10_writeSwap_103 (by decide)) (fun H locs hI => ?_)
    refine lv_aload_n hx hb dX10_writeSwap_106 rfl (lv_at hl 1 rfl) ?_
    refine lv_iload_n hx hb dX10_writeSwap_107 rfl (lv_at hl 3 rfl) ?_
    refine lv_aload_n hx hb dX10_writeSwap_108 rfl (lv_at hl 1 rfl) ?_
    refine gf_43_5 hx hb ht hK hI (v := σ12 43 5) rfl mw_534 (fun _ h9 => h9) hown dX10_writeSwap_109 ?_
    obtain ⟨r14, σ15, h16, hm⟩ := bd_some hm
    refine k_v hI hA (va_runV (As := [.int p1, .int (σ12 43 5)]) (rest := []) hX (c_X10_moveFrom N n h16 _) (cwV 2 ht (in_V mw_576 mw_577 mw_578 mw_505 mw_575) rfl rfl rfl pd_X10_moveFrom ⟨Nat.le_of_ble_eq_true rfl, Nat.le_of_ble_eq_true rfl⟩) ⟨q_blind, va_recv hK hI.1 (ci := 9) (q0 := 43) rfl rfl, q_to hI hK hN hZ hA⟩ rfl rfl hl.1 rfl (lv_room (Nat.le_of_ble_eq_true rfl)) dX10_writeSwap_112 (by decide)) (fun H locs hI => ?_)
    exact hR _ _ _ _ _ hm hI dX10_writeSwap_115
  · have hm := (if_pos c4).symm.trans hm
    refine lv_aload_n hx hb dX10_writeSwap_16 rfl (lv_at hl 0 rfl) ?_
    refine gf_43_1 hx hb ht hK hI mw_479 (fun _ h9 => h9) hown dX10_writeSwap_17 ?_
    refine lv_aload_n hx hb dX10_writeSwap_20 rfl (lv_at hl 0 rfl) ?_
    refine gf_43_4 hx hb ht hK hI (v := σ2 43 4) rfl mw_533 (fun _ h9 => h9) hown dX10_writeSwap_21 ?_
    refine lv_iload_n hx hb dX10_writeSwap_24 rfl (lv_at hl 2 rfl) ?_
    obtain ⟨r17, σ18, h19, hm⟩ := bd_some hm
    refine k_i hI hA (va_runV (As := [.int (σ2 43 4), .int p1]) (rest := []) hX (c_X2_slotOf N n h19 _) (cwV 2 ht (in_V mw_542 mw_543 mw_544 mw_146 mw_113) rfl rfl rfl pd_X2_slotOf ⟨Nat.le_of_ble_eq_true rfl, Nat.le_of_ble_eq_true rfl⟩) ⟨q_blind, va_recv hK hI.1 (ci := 2) (q0 := 32) rfl rfl, q_to hI hK hN hZ hA⟩ rfl rfl hl.1 rfl (lv_room (Nat.le_of_ble_eq_true rfl)) dX10_writeSwap_25 (by decide)) (fun H locs hI => ?_)
    refine lv_iconst (v := (-1)) hx hb dX10_writeSwap_28 (by decide) ?_
    refine lv_icmp_ne (tgt := 36) hx hb dX10_writeSwap_29 (by decide) (fun c20 => ?_) (fun c20 => ?_)
    · have hm := (if_neg c20).symm.trans hm
      refine lv_iconst (v := 0) hx hb dX10_writeSwap_36 (by decide) ?_
      refine lv_istore_n (lv' := [(3, .int 0), (0, .ref (ga g 43)), (1, .int p0), (2, .int p1)]) hx hb dX10_writeSwap_37 rfl hl (by decide) rfl (fun ls hl => ?_)
      refine lv_iload_n hx hb dX10_writeSwap_38 rfl (lv_at hl 0 rfl) ?_
      refine lv_if_eq (tgt := 79) hx hb dX10_writeSwap_39 (by decide) (fun _ => ?_) (fun h => absurd h (by decide))
      refine lv_aload_n hx hb dX10_writeSwap_79 rfl (lv_at hl 1 rfl) ?_
      refine lv_aload_n hx hb dX10_writeSwap_80 rfl (lv_at hl 1 rfl) ?_
      refine gf_43_5 hx hb ht hK hI (v := σ18 43 5) rfl mw_534 (fun _ h9 => h9) hown dX10_writeSwap_81 ?_
      refine lv_iload_n hx hb dX10_writeSwap_84 rfl (lv_at hl 2 rfl) ?_
      obtain ⟨r21, σ22, h23, hm⟩ := bd_some hm
      refine k_v hI hA (va_runV (As := [.int (σ18 43 5), .int p0]) (rest := []) hX (c_X10_moveInto N n h23 _) (cwV 2 ht (in_V mw_560 mw_561 mw_562 mw_505 mw_559) rfl rfl rfl pd_X10_moveInto ⟨Nat.le_of_ble_eq_true rfl, Nat.le_of_ble_eq_true rfl⟩) ⟨q_blind, va_recv hK hI.1 (ci := 9) (q0 := 43) rfl rfl, q_to hI hK hN hZ hA⟩ rfl rfl hl.1 rfl (lv_room (Nat.le_of_ble_eq_true rfl)) dX10_writeSwap_85 (by decide)) (fun H locs hI => ?_)
      refine lv_aload_n hx hb dX10_writeSwap_88 rfl (lv_at hl 1 rfl) ?_
      refine lv_aload_n hx hb dX10_writeSwap_89 rfl (lv_at hl 1 rfl) ?_
      refine gf_43_6 hx hb ht hK hI (v := σ22 43 6) rfl mw_535 (fun _ h9 => h9) hown dX10_writeSwap_90 ?_
      refine lv_iload_n hx hb dX10_writeSwap_93 rfl (lv_at hl 3 rfl) ?_
      obtain ⟨r24, σ25, h26, hm⟩ := bd_some hm
      refine k_v hI hA (va_runV (As := [.int (σ22 43 6), .int p1]) (rest := []) hX (c_X10_moveInto N n h26 _) (cwV 2 ht (in_V mw_560 mw_561 mw_562 mw_505 mw_559) rfl rfl rfl pd_X10_moveInto ⟨Nat.le_of_ble_eq_true rfl, Nat.le_of_ble_eq_true rfl⟩) ⟨q_blind, va_recv hK hI.1 (ci := 9) (q0 := 43) rfl rfl, q_to hI hK hN hZ hA⟩ rfl rfl hl.1 rfl (lv_room (Nat.le_of_ble_eq_true rfl)) dX10_writeSwap_94 (by decide)) (fun H locs hI => ?_)
      refine lv_aload_n hx hb dX10_writeSwap_97 rfl (lv_at hl 1 rfl) ?_
      refine lv_iload_n hx hb dX10_writeSwap_98 rfl (lv_at hl 2 rfl) ?_
      refine lv_aload_n hx hb dX10_writeSwap_99 rfl (lv_at hl 1 rfl) ?_
      refine gf_43_6 hx hb ht hK hI (v := σ25 43 6) rfl mw_535 (fun _ h9 => h9) hown dX10_writeSwap_100 ?_
      obtain ⟨r27, σ28, h29, hm⟩ := bd_some hm
      refine k_v hI hA (va_runV (As := [.int p0, .int (σ25 43 6)]) (rest := []) hX (c_X10_moveFrom N n h29 _) (cwV 2 ht (in_V mw_576 mw_577 mw_578 mw_505 mw_575) rfl rfl rfl pd_X10_moveFrom ⟨Nat.le_of_ble_eq_true rfl, Nat.le_of_ble_eq_true rfl⟩) ⟨q_blind, va_recv hK hI.1 (ci := 9) (q0 := 43) rfl rfl, q_to hI hK hN hZ hA⟩ rfl rfl hl.1 rfl (lv_room (Nat.le_of_ble_eq_true rfl)) dX10_writeSwap_103 (by decide)) (fun H locs hI => ?_)
      refine lv_aload_n hx hb dX10_writeSwap_106 rfl (lv_at hl 1 rfl) ?_
      refine lv_iload_n hx hb dX10_writeSwap_107 rfl (lv_at hl 3 rfl) ?_
      refine lv_aload_n hx hb dX10_writeSwap_108 rfl (lv_at hl 1 rfl) ?_
      refine gf_43_5 hx hb ht hK hI (v := σ28 43 5) rfl mw_534 (fun _ h9 => h9) hown dX10_writeSwap_109 ?_
      obtain ⟨r30, σ31, h32, hm⟩ := bd_some hm
      refine k_v hI hA (va_runV (As := [.int p1, .int (σ28 43 5)]) (rest := []) hX (c_X10_moveFrom N n h32 _) (cwV 2 ht (in_V mw_576 mw_577 mw_578 mw_505 mw_575) rfl rfl rfl pd_X10_moveFrom ⟨Nat.le_of_ble_eq_true rfl, Nat.le_of_ble_eq_true rfl⟩) ⟨q_blind, va_recv hK hI.1 (ci := 9) (q0 := 43) rfl rfl, q_to hI hK hN hZ hA⟩ rfl rfl hl.1 rfl (lv_room (Nat.le_of_ble_eq_true rfl)) dX10_writeSwap_112 (by decide)) (fun H locs hI => ?_)
      exact hR _ _ _ _ _ hm hI dX10_writeSwap_115
    · have hm := (if_pos c20).symm.trans hm
      refine lv_iconst (v := 1) hx hb dX10_writeSwap_32 (by decide) ?_
      refine lv_goto (tgt := 37) hx hb dX10_writeSwap_33 (by decide) ?_
      refine lv_istore_n (lv' := [(3, .int 1), (0, .ref (ga g 43)), (1, .int p0), (2, .int p1)]) hx hb dX10_writeSwap_37 rfl hl (by decide) rfl (fun ls hl => ?_)
      refine lv_iload_n hx hb dX10_writeSwap_38 rfl (lv_at hl 0 rfl) ?_
      refine lv_if_eq (tgt := 79) hx hb dX10_writeSwap_39 (by decide) (fun h => absurd h (by decide)) (fun _ => ?_)
      refine lv_aload_n hx hb dX10_writeSwap_42 rfl (lv_at hl 1 rfl) ?_
      refine gf_43_2 hx hb ht hK hI mw_480 (fun _ h9 => h9) hown dX10_writeSwap_43 ?_
      refine lv_aload_n hx hb dX10_writeSwap_46 rfl (lv_at hl 1 rfl) ?_
      refine gf_43_4 hx hb ht hK hI (v := σ18 43 4) rfl mw_533 (fun _ h9 => h9) hown dX10_writeSwap_47 ?_
      refine lv_iconst (v := 3) hx hb dX10_writeSwap_50 (by decide) ?_
      refine lv_aload_n hx hb dX10_writeSwap_51 rfl (lv_at hl 1 rfl) ?_
      refine gf_43_1 hx hb ht hK hI mw_479 (fun _ h9 => h9) hown dX10_writeSwap_52 ?_
      refine lv_aload_n hx hb dX10_writeSwap_55 rfl (lv_at hl 1 rfl) ?_
      refine gf_43_4 hx hb ht hK hI (v := σ18 43 4) rfl mw_533 (fun _ h9 => h9) hown dX10_writeSwap_56 ?_
      refine lv_iload_n hx hb dX10_writeSwap_59 rfl (lv_at hl 2 rfl) ?_
      obtain ⟨r33, σ34, h35, hm⟩ := bd_some hm
      refine k_i hI hA (va_runV (As := [.int (σ18 43 4), .int p0]) (rest := [.int 3, .int (σ18 43 4), .ref (ga g 39)]) hX (c_X2_registerOf N n h35 _) (cwV 2 ht (in_V mw_545 mw_546 mw_547 mw_146 mw_112) rfl rfl rfl pd_X2_registerOf ⟨Nat.le_of_ble_eq_true rfl, Nat.le_of_ble_eq_true rfl⟩) ⟨q_blind, va_recv hK hI.1 (ci := 2) (q0 := 32) rfl rfl, q_to hI hK hN hZ hA⟩ rfl rfl hl.1 rfl (lv_room (Nat.le_of_ble_eq_true rfl)) dX10_writeSwap_60 (by decide)) (fun H locs hI => ?_)
      refine lv_aload_n hx hb dX10_writeSwap_63 rfl (lv_at hl 1 rfl) ?_
      refine gf_43_1 hx hb ht hK hI mw_479 (fun _ h9 => h9) hown dX10_writeSwap_64 ?_
      refine lv_aload_n hx hb dX10_writeSwap_67 rfl (lv_at hl 1 rfl) ?_
      refine gf_43_4 hx hb ht hK hI (v := σ34 43 4) rfl mw_533 (fun _ h9 => h9) hown dX10_writeSwap_68 ?_
      refine lv_iload_n hx hb dX10_writeSwap_71 rfl (lv_at hl 3 rfl) ?_
      obtain ⟨r36, σ37, h38, hm⟩ := bd_some hm
      refine k_i hI hA (va_runV (As := [.int (σ34 43 4), .int p1]) (rest := [.int r33, .int 3, .int (σ18 43 4), .ref (ga g 39)]) hX (c_X2_registerOf N n h38 _) (cwV 2 ht (in_V mw_545 mw_546 mw_547 mw_146 mw_112) rfl rfl rfl pd_X2_registerOf ⟨Nat.le_of_ble_eq_true rfl, Nat.le_of_ble_eq_true rfl⟩) ⟨q_blind, va_recv hK hI.1 (ci := 2) (q0 := 32) rfl rfl, q_to hI hK hN hZ hA⟩ rfl rfl hl.1 rfl (lv_room (Nat.le_of_ble_eq_true rfl)) dX10_writeSwap_72 (by decide)) (fun H locs hI => ?_)
      obtain ⟨r39, σ40, h41, hm⟩ := bd_some hm
      refine k_v hI hA (va_runV (As := [.int (σ18 43 4), .int 3, .int r33, .int r36]) (rest := []) hX (c_X1_add N n h41 _) (cwV 4 ht (in_V mw_549 mw_93 mw_94 mw_95 mw_90) rfl rfl rfl pd_X1_add ⟨Nat.le_of_ble_eq_true rfl, Nat.le_of_ble_eq_true rfl⟩) ⟨q_blind, va_recv hK hI.1 (ci := 1) (q0 := 39) rfl rfl, q_to hI hK hN hZ hA⟩ rfl rfl hl.1 rfl (lv_room (Nat.le_of_ble_eq_true rfl)) dX10_writeSwap_75 (by decide)) (fun H locs hI => ?_)
      exact hR _ _ _ _ _ hm hI dX10_writeSwap_78
