def f_X10_writeRead (N n : Nat) (σ : Sg) (p0 : Int32) (p1 : Int32) : Option (Int32 × Sg) := bd (f_X10_loaded N n σ p1 (σ 43 5)) (fun r1 σ2 => bd (f_X10_target N n σ2 p0) (fun r4 σ5 => bd (f_X1_add N n σ5 (σ2 43 4) 7 r4 r1) (fun r7 σ8 => bd (f_X10_saveTarget N n σ8 p0) (fun r10 σ11 => some (0, σ11)))))
set_option maxHeartbeats 4000000 in
set_option maxRecDepth 100000 in
theorem c_X10_writeRead {l : Launch} {g : GG} {q : Nat} (N n : Nat) {σ : Sg} {p0 : Int32} {p1 : Int32} {r : Int32} {σ' : Sg} (hm : f_X10_writeRead N n σ p0 p1 = some (r, σ')) : CTv l yX10_writeRead cX10_writeRead 4 none 2 48 g q n [.ref (ga g 43), .int p0, .int p1] σ σ' := by
  refine e_v (r := r) (by decide) (Nat.le_of_ble_eq_true rfl) ?_
  intro p e s m args below meth c A Q ls hC hl hI
  obtain ⟨hX, hK, hN, hZ, hA, hR⟩ := id hC
  have hx : p.tables.exec = Jvm.exec := hX.1
  have hb : c.code = cX10_writeRead := hX.2.1
  have hml : c.maxLocals = 4 := hX.2.2.1
  have hown : s.vm.findClass RX10 = some m.cls := hX.2.2.2.1
  have ht : ∀ w ∈ BIG, w.before args s = true := hX.2.2.2.2
  have hl : lv_has ls 4 [(0, .ref (ga g 43)), (1, .int p0), (2, .int p1)] := hl
  unfold f_X10_writeRead at hm
  refine lv_aload_n hx hb dX10_writeRead_0 rfl (lv_at hl 0 rfl) ?_
  refine lv_iload_n hx hb dX10_writeRead_1 rfl (lv_at hl 2 rfl) ?_
  refine lv_aload_n hx hb dX10_writeRead_2 rfl (lv_at hl 0 rfl) ?_
  refine gf_43_5 hx hb ht hK hI (v := σ 43 5) rfl mw_534 (fun _ h9 => h9) hown dX10_writeRead_3 ?_
  obtain ⟨r1, σ2, h3, hm⟩ := bd_some hm
  refine k_i hI hA (va_runV (As := [.int p1, .int (σ 43 5)]) (rest := []) hX (c_X10_loaded N n h3 _) (cwV 2 ht (in_V mw_568 mw_569 mw_570 mw_505 mw_564) rfl rfl rfl pd_X10_loaded ⟨Nat.le_of_ble_eq_true rfl, Nat.le_of_ble_eq_true rfl⟩) ⟨q_blind, va_recv hK hI.1 (ci := 9) (q0 := 43) rfl rfl, q_to hI hK hN hZ hA⟩ rfl rfl hl.1 rfl (lv_room (Nat.le_of_ble_eq_true rfl)) dX10_writeRead_6 (by decide)) (fun H locs hI => ?_)
  refine lv_istore_n (lv' := [(3, .int r1), (0, .ref (ga g 43)), (1, .int p0), (2, .int p1)]) hx hb dX10_writeRead_9 rfl hl (by decide) rfl (fun ls hl => ?_)
  refine lv_aload_n hx hb dX10_writeRead_10 rfl (lv_at hl 1 rfl) ?_
  refine gf_43_2 hx hb ht hK hI mw_480 (fun _ h9 => h9) hown dX10_writeRead_11 ?_
  refine lv_aload_n hx hb dX10_writeRead_14 rfl (lv_at hl 1 rfl) ?_
  refine gf_43_4 hx hb ht hK hI (v := σ2 43 4) rfl mw_533 (fun _ h9 => h9) hown dX10_writeRead_15 ?_
  refine lv_bipush (v := 7) hx hb dX10_writeRead_18 (by decide) ?_
  refine lv_aload_n hx hb dX10_writeRead_20 rfl (lv_at hl 1 rfl) ?_
  refine lv_iload_n hx hb dX10_writeRead_21 rfl (lv_at hl 2 rfl) ?_
  obtain ⟨r4, σ5, h6, hm⟩ := bd_some hm
  refine k_i hI hA (va_runV (As := [.int p0]) (rest := [.int 7, .int (σ2 43 4), .ref (ga g 39)]) hX (c_X10_target N n h6 _) (cwV 1 ht (in_V mw_552 mw_553 mw_554 mw_505 mw_541) rfl rfl rfl pd_X10_target ⟨Nat.le_of_ble_eq_true rfl, Nat.le_of_ble_eq_true rfl⟩) ⟨q_blind, va_recv hK hI.1 (ci := 9) (q0 := 43) rfl rfl, q_to hI hK hN hZ hA⟩ rfl rfl hl.1 rfl (lv_room (Nat.le_of_ble_eq_true rfl)) dX10_writeRead_22 (by decide)) (fun H locs hI => ?_)
  refine lv_iload_n hx hb dX10_writeRead_25 rfl (lv_at hl 0 rfl) ?_
  obtain ⟨r7, σ8, h9, hm⟩ := bd_some hm
  refine k_v hI hA (va_runV (As := [.int (σ2 43 4), .int 7, .int r4, .int r1]) (rest := []) hX (c_X1_add N n h9 _) (cwV 4 ht (in_V mw_549 mw_93 mw_94 mw_95 mw_90) rfl rfl rfl pd_X1_add ⟨Nat.le_of_ble_eq_true rfl, Nat.le_of_ble_eq_true rfl⟩) ⟨q_blind, va_recv hK hI.1 (ci := 1) (q0 := 39) rfl rfl, q_to hI hK hN hZ hA⟩ rfl rfl hl.1 rfl (lv_room (Nat.le_of_ble_eq_true rfl)) dX10_writeRead_26 (by decide)) (fun H locs hI => ?_)
  refine lv_aload_n hx hb dX10_writeRead_29 rfl (lv_at hl 1 rfl) ?_
  refine lv_iload_n hx hb dX10_writeRead_30 rfl (lv_at hl 2 rfl) ?_
  obtain ⟨r10, σ11, h12, hm⟩ := bd_some hm
  refine k_v hI hA (va_runV (As := [.int p0]) (rest := []) hX (c_X10_saveTarget N n h12 _) (cwV 1 ht (in_V mw_555 mw_556 mw_557 mw_505 mw_548) rfl rfl rfl pd_X10_saveTarget ⟨Nat.le_of_ble_eq_true rfl, Nat.le_of_ble_eq_true rfl⟩) ⟨q_blind, va_recv hK hI.1 (ci := 9) (q0 := 43) rfl rfl, q_to hI hK hN hZ hA⟩ rfl rfl hl.1 rfl (lv_room (Nat.le_of_ble_eq_true rfl)) dX10_writeRead_31 (by decide)) (fun H locs hI => ?_)
  exact hR _ _ _ _ _ hm hI dX10_writeRead_34
def f_X10_writeWrite (N n : Nat) (σ : Sg) (p0 : Int32) (p1 : Int32) : Option (Int32 × Sg) := bd (f_X10_loaded N n σ p0 (σ 43 5)) (fun r1 σ2 => bd (f_X10_loaded N n σ2 p1 (σ2 43 6)) (fun r4 σ5 => bd (f_X1_add N n σ5 (σ5 43 4) 8 r1 r4) (fun r7 σ8 => some (0, σ8))))
set_option maxHeartbeats 4000000 in
set_option maxRecDepth 100000 in
theorem c_X10_writeWrite {l : Launch} {g : GG} {q : Nat} (N n : Nat) {σ : Sg} {p0 : Int32} {p1 : Int32} {r : Int32} {σ' : Sg} (hm : f_X10_writeWrite N n σ p0 p1 = some (r, σ')) : CTv l yX10_writeWrite cX10_writeWrite 5 none 2 48 g q n [.ref (ga g 43), .int p0, .int p1] σ σ' := by
  refine e_v (r := r) (by decide) (Nat.le_of_ble_eq_true rfl) ?_
  intro p e s m args below meth c A Q ls hC hl hI
  obtain ⟨hX, hK, hN, hZ, hA, hR⟩ := id hC
  have hx : p.tables.exec = Jvm.exec := hX.1
  have hb : c.code = cX10_writeWrite := hX.2.1
  have hml : c.maxLocals = 5 := hX.2.2.1
  have hown : s.vm.findClass RX10 = some m.cls := hX.2.2.2.1
  have ht : ∀ w ∈ BIG, w.before args s = true := hX.2.2.2.2
  have hl : lv_has ls 5 [(0, .ref (ga g 43)), (1, .int p0), (2, .int p1)] := hl
  unfold f_X10_writeWrite at hm
  refine lv_aload_n hx hb dX10_writeWrite_0 rfl (lv_at hl 0 rfl) ?_
  refine lv_iload_n hx hb dX10_writeWrite_1 rfl (lv_at hl 1 rfl) ?_
  refine lv_aload_n hx hb dX10_writeWrite_2 rfl (lv_at hl 0 rfl) ?_
  refine gf_43_5 hx hb ht hK hI (v := σ 43 5) rfl mw_534 (fun _ h9 => h9) hown dX10_writeWrite_3 ?_
  obtain ⟨r1, σ2, h3, hm⟩ := bd_some hm
  refine k_i hI hA (va_runV (As := [.int p0, .int (σ 43 5)]) (rest := []) hX (c_X10_loaded N n h3 _) (cwV 2 ht (in_V mw_568 mw_569 mw_570 mw_505 mw_564) rfl rfl rfl pd_X10_loaded ⟨Nat.le_of_ble_eq_true rfl, Nat.le_of_ble_eq_true rfl⟩) ⟨q_blind, va_recv hK hI.1 (ci := 9) (q0 := 43) rfl rfl, q_to hI hK hN hZ hA⟩ rfl rfl hl.1 rfl (lv_room (Nat.le_of_ble_eq_true rfl)) dX10_writeWrite_6 (by decide)) (fun H locs hI => ?_)
  refine lv_istore_n (lv' := [(3, .int r1), (0, .ref (ga g 43)), (1, .int p0), (2, .int p1)]) hx hb dX10_writeWrite_9 rfl hl (by decide) rfl (fun ls hl => ?_)
  refine lv_aload_n hx hb dX10_writeWrite_10 rfl (lv_at hl 1 rfl) ?_
  refine lv_iload_n hx hb dX10_writeWrite_11 rfl (lv_at hl 3 rfl) ?_
  refine lv_aload_n hx hb dX10_writeWrite_12 rfl (lv_at hl 1 rfl) ?_
  refine gf_43_6 hx hb ht hK hI (v := σ2 43 6) rfl mw_535 (fun _ h9 => h9) hown dX10_writeWrite_13 ?_
  obtain ⟨r4, σ5, h6, hm⟩ := bd_some hm
  refine k_i hI hA (va_runV (As := [.int p1, .int (σ2 43 6)]) (rest := []) hX (c_X10_loaded N n h6 _) (cwV 2 ht (in_V mw_568 mw_569 mw_570 mw_505 mw_564) rfl rfl rfl pd_X10_loaded ⟨Nat.le_of_ble_eq_true rfl, Nat.le_of_ble_eq_true rfl⟩) ⟨q_blind, va_recv hK hI.1 (ci := 9) (q0 := 43) rfl rfl, q_to hI hK hN hZ hA⟩ rfl rfl hl.1 rfl (lv_room (Nat.le_of_ble_eq_true rfl)) dX10_writeWrite_16 (by decide)) (fun H locs hI => ?_)
  refine lv_istore (lv' := [(4, .int r4), (3, .int r1), (0, .ref (ga g 43)), (1, .int p0), (2, .int p1)]) hx hb dX10_writeWrite_19 hl (by decide) rfl (fun ls hl => ?_)
  refine lv_aload_n hx hb dX10_writeWrite_21 rfl (lv_at hl 2 rfl) ?_
  refine gf_43_2 hx hb ht hK hI mw_480 (fun _ h9 => h9) hown dX10_writeWrite_22 ?_
  refine lv_aload_n hx hb dX10_writeWrite_25 rfl (lv_at hl 2 rfl) ?_
  refine gf_43_4 hx hb ht hK hI (v := σ5 43 4) rfl mw_533 (fun _ h9 => h9) hown dX10_writeWrite_26 ?_
  refine lv_bipush (v := 8) hx hb dX10_writeWrite_29 (by decide) ?_
  refine lv_iload_n hx hb dX10_writeWrite_31 rfl (lv_at hl 1 rfl) ?_
  refine lv_iload hx hb dX10_writeWrite_32 (lv_at hl 0 rfl) ?_
  obtain ⟨r7, σ8, h9, hm⟩ := bd_some hm
  refine k_v hI hA (va_runV (As := [.int (σ5 43 4), .int 8, .int r1, .int r4]) (rest := []) hX (c_X1_add N n h9 _) (cwV 4 ht (in_V mw_549 mw_93 mw_94 mw_95 mw_90) rfl rfl rfl pd_X1_add ⟨Nat.le_of_ble_eq_true rfl, Nat.le_of_ble_eq_true rfl⟩) ⟨q_blind, va_recv hK hI.1 (ci := 1) (q0 := 39) rfl rfl, q_to hI hK hN hZ hA⟩ rfl rfl hl.1 rfl (lv_room (Nat.le_of_ble_eq_true rfl)) dX10_writeWrite_34 (by decide)) (fun H locs hI => ?_)
  exact hR _ _ _ _ _ hm hI dX10_writeWrite_37
def f_X10_writePlace (N n : Nat) (σ : Sg) (p0 : Int32) : Option (Int32 × Sg) := gb p0 300 (if (σ 14 (ix p0)) = 0 then (gb p0 300 (bd (f_X10_target N n σ (σ 17 (ix p0))) (fun r4 σ5 => gb p0 300 (bd (f_X1_add N n σ5 (σ 43 4) 0 r4 (σ5 15 (ix p0))) (fun r8 σ9 => gb p0 300 (bd (f_X10_saveTarget N n σ9 (σ9 17 (ix p0))) (fun r12 σ13 => some (0, σ13)))))))) else (if (σ 14 (ix p0)) = 1 then (gb p0 300 (gb 0 6 (gb p0 300 (bd (f_X10_writeMove N n σ (σ 17 (ix p0)) (σ 19 (ix p0 * 6 + ix 0))) (fun r19 σ20 => some (0, σ20)))))) else (if (σ 14 (ix p0)) = 2 then (bd (f_X10_writeWork N n σ p0) (fun r23 σ24 => some (0, σ24))) else (if (σ 14 (ix p0)) = 3 then (gb 0 6 (gb p0 300 (gb 1 6 (gb p0 300 (bd (f_X10_writeSwap N n σ (σ 19 (ix p0 * 6 + ix 0)) (σ 19 (ix p0 * 6 + ix 1))) (fun r31 σ32 => some (0, σ32))))))) else (if (σ 14 (ix p0)) = 4 then (gb p0 300 (bd (f_X1_add N n σ (σ 43 4) 4 (σ 16 (ix p0)) 0) (fun r36 σ37 => some (0, σ37)))) else (if (σ 14 (ix p0)) = 5 then (gb 0 6 (gb p0 300 (bd (f_X10_loaded N n σ (σ 19 (ix p0 * 6 + ix 0)) (σ 43 5)) (fun r42 σ43 => gb p0 300 (bd (f_X1_add N n σ43 (σ 43 4) 5 r42 (σ43 16 (ix p0))) (fun r46 σ47 => some (0, σ47))))))) else (if (σ 14 (ix p0)) = 6 then (gb 0 6 (gb p0 300 (bd (f_X10_loaded N n σ (σ 19 (ix p0 * 6 + ix 0)) (σ 43 5)) (fun r52 σ53 => bd (f_X1_add N n σ53 (σ 43 4) 6 r52 0) (fun r55 σ56 => some (0, σ56)))))) else (if (σ 14 (ix p0)) = 7 then (gb p0 300 (gb 0 6 (gb p0 300 (bd (f_X10_writeRead N n σ (σ 17 (ix p0)) (σ 19 (ix p0 * 6 + ix 0))) (fun r62 σ63 => some (0, σ63)))))) else (if (σ 14 (ix p0)) = 8 then (gb 0 6 (gb p0 300 (gb 1 6 (gb p0 300 (bd (f_X10_writeWrite N n σ (σ 19 (ix p0 * 6 + ix 0)) (σ 19 (ix p0 * 6 + ix 1))) (fun r70 σ71 => some (0, σ71))))))) else (bd (f_X10_writeCall N n σ p0) (fun r73 σ74 => some (0, σ74))))))))))))
set_option maxHeartbeats 4000000 in
set_option maxRecDepth 100000 in
theorem c_X10_writePlace {l : Launch} {g : GG} {q : Nat} (N n : Nat) {σ : Sg} {p0 : Int32} {r : Int32} {σ' : Sg} (hm : f_X10_writePlace N n σ p0 = some (r, σ')) : CTv l yX10_writePlace cX10_writePlace 2 none 3 75 g q n [.ref (ga g 43), .int p0] σ σ' := by
  refine e_v (r := r) (by decide) (Nat.le_of_ble_eq_true rfl) ?_
  intro p e s m args below meth c A Q ls hC hl hI
  obtain ⟨hX, hK, hN, hZ, hA, hR⟩ := id hC
  have hx : p.tables.exec = Jvm.exec := hX.1
  have hb : c.code = cX10_writePlace := hX.2.1
  have hml : c.maxLocals = 2 := hX.2.2.1
  have hown : s.vm.findClass RX10 = some m.cls := hX.2.2.2.1
  have ht : ∀ w ∈ BIG, w.before args s = true := hX.2.2.2.2
  have hl : lv_has ls 2 [(0, .ref (ga g 43)), (1, .int p0)] := hl
  unfold f_X10_writePlace at hm
  refine lv_aload_n hx hb dX10_writePlace_0 rfl (lv_at hl 0 rfl) ?_
  refine gf_43_0 hx hb ht hK hI mw_478 (fun _ h9 => h9) hown dX10_writePlace_1 ?_
  refine gf_13_0 hx hb ht hK hI mw_584 (fun _ h9 => h9) hown dX10_writePlace_4 ?_
  refine lv_iload_n hx hb dX10_writePlace_7 rfl (lv_at hl 1 rfl) ?_
  obtain ⟨g1, hm⟩ := gb_some hm
  refine ld_14 hx hb hK hI g1 (v := σ 14 (ix p0)) rfl dX10_writePlace_8 ?_
  by_cases c2 : (σ 14 (ix p0)) = 0
  · have hm := (if_pos c2).symm.trans hm
    refine lv_tableIn (off := 51) (tgt := 60) hx hb dX10_writePlace_9 (by (rw [c2]; decide)) (by (rw [c2]; decide)) (by (rw [c2]; rfl)) (by decide) ?_
    refine lv_aload_n hx hb dX10_writePlace_60 rfl (lv_at hl 0 rfl) ?_
    refine gf_43_2 hx hb ht hK hI mw_480 (fun _ h9 => h9) hown dX10_writePlace_61 ?_
    refine lv_aload_n hx hb dX10_writePlace_64 rfl (lv_at hl 0 rfl) ?_
    refine gf_43_4 hx hb ht hK hI (v := σ 43 4) rfl mw_533 (fun _ h9 => h9) hown dX10_writePlace_65 ?_
    refine lv_iconst (v := 0) hx hb dX10_writePlace_68 (by decide) ?_
    refine lv_aload_n hx hb dX10_writePlace_69 rfl (lv_at hl 0 rfl) ?_
    refine lv_aload_n hx hb dX10_writePlace_70 rfl (lv_at hl 0 rfl) ?_
    refine gf_43_0 hx hb ht hK hI mw_478 (fun _ h9 => h9) hown dX10_writePlace_71 ?_
    refine gf_13_3 hx hb ht hK hI mw_566 (fun _ h9 => h9) hown dX10_writePlace_74 ?_
    refine lv_iload_n hx hb dX10_writePlace_77 rfl (lv_at hl 1 rfl) ?_
    obtain ⟨g3, hm⟩ := gb_some hm
    refine ld_17 hx hb hK hI g3 (v := σ 17 (ix p0)) rfl dX10_writePlace_78 ?_
    obtain ⟨r4, σ5, h6, hm⟩ := bd_some hm
    refine k_i hI hA (va_runV (As := [.int (σ 17 (ix p0))]) (rest := [.int 0, .int (σ 43 4), .ref (ga g 39)]) hX (c_X10_target N n h6 _) (cwV 1 ht (in_V mw_552 mw_553 mw_554 mw_505 mw_541) rfl rfl rfl pd_X10_target ⟨Nat.le_of_ble_eq_true rfl, Nat.le_of_ble_eq_true rfl⟩) ⟨q_blind, va_recv hK hI.1 (ci := 9) (q0 := 43) rfl rfl, q_to hI hK hN hZ hA⟩ rfl rfl hl.1 rfl (lv_room (Nat.le_of_ble_eq_true rfl)) dX10_writePlace_79 (by decide)) (fun H locs hI => ?_)
    refine lv_aload_n hx hb dX10_writePlace_82 rfl (lv_at hl 0 rfl) ?_
    refine gf_43_0 hx hb ht hK hI mw_478 (fun _ h9 => h9) hown dX10_writePlace_83 ?_
    refine gf_13_1 hx hb ht hK hI mw_567 (fun _ h9 => h9) hown dX10_writePlace_86 ?_
    refine lv_iload_n hx hb dX10_writePlace_89 rfl (lv_at hl 1 rfl) ?_
    obtain ⟨g7, hm⟩ := gb_some hm
    refine ld_15 hx hb hK hI g7 (v := σ5 15 (ix p0)) rfl dX10_writePlace_90 ?_
    obtain ⟨r8, σ9, h10, hm⟩ := bd_some hm
    refine k_v hI hA (va_runV (As := [.int (σ 43 4), .int 0, .int r4, .int (σ5 15 (ix p0))]) (rest := []) hX (c_X1_add N n h10 _) (cwV 4 ht (in_V mw_549 mw_93 mw_94 mw_95 mw_90) rfl rfl rfl pd_X1_add ⟨Nat.le_of_ble_eq_true rfl, Nat.le_of_ble_eq_true rfl⟩) ⟨q_blind, va_recv hK hI.1 (ci := 1) (q0 := 39) rfl rfl, q_to hI hK hN hZ hA⟩ rfl rfl hl.1 rfl (lv_room (Nat.le_of_ble_eq_true rfl)) dX10_writePlace_91 (by decide)) (fun H locs hI => ?_)
    refine lv_aload_n hx hb dX10_writePlace_94 rfl (lv_at hl 0 rfl) ?_
    refine lv_aload_n hx hb dX10_writePlace_95 rfl (lv_at hl 0 rfl) ?_
    refine gf_43_0 hx hb ht hK hI mw_478 (fun _ h9 => h9) hown dX10_writePlace_96 ?_
    refine gf_13_3 hx hb ht hK hI mw_566 (fun _ h9 => h9) hown dX10_writePlace_99 ?_
    refine lv_iload_n hx hb dX10_writePlace_102 rfl (lv_at hl 1 rfl) ?_
    obtain ⟨g11, hm⟩ := gb_some hm
    refine ld_17 hx hb hK hI g11 (v := σ9 17 (ix p0)) rfl dX10_writePlace_103 ?_
    obtain ⟨r12, σ13, h14, hm⟩ := bd_some hm
    refine k_v hI hA (va_runV (As := [.int (σ9 17 (ix p0))]) (rest := []) hX (c_X10_saveTarget N n h14 _) (cwV 1 ht (in_V mw_555 mw_556 mw_557 mw_505 mw_548) rfl rfl rfl pd_X10_saveTarget ⟨Nat.le_of_ble_eq_true rfl, Nat.le_of_ble_eq_true rfl⟩) ⟨q_blind, va_recv hK hI.1 (ci := 9) (q0 := 43) rfl rfl, q_to hI hK hN hZ hA⟩ rfl rfl hl.1 rfl (lv_room (Nat.le_of_ble_eq_true rfl)) dX10_writePlace_104 (by decide)) (fun H locs hI => ?_)
    refine lv_goto (tgt := 339) hx hb dX10_writePlace_107 (by decide) ?_
    exact hR _ _ _ _ _ hm hI dX10_writePlace_339
  have hm := (if_neg c2).symm.trans hm
  by_cases c15 : (σ 14 (ix p0)) = 1
  · have hm := (if_pos c15).symm.trans hm
    refine lv_tableIn (off := 101) (tgt := 110) hx hb dX10_writePlace_9 (by (rw [c15]; decide)) (by (rw [c15]; decide)) (by (rw [c15]; rfl)) (by decide) ?_
    refine lv_aload_n hx hb dX10_writePlace_110 rfl (lv_at hl 0 rfl) ?_
    refine lv_aload_n hx hb dX10_writePlace_111 rfl (lv_at hl 0 rfl) ?_
    refine gf_43_0 hx hb ht hK hI mw_478 (fun _ h9 => h9) hown dX10_writePlace_112 ?_
    refine gf_13_3 hx hb ht hK hI mw_566 (fun _ h9 => h9) hown dX10_writePlace_115 ?_
    refine lv_iload_n hx hb dX10_writePlace_118 rfl (lv_at hl 1 rfl) ?_
    obtain ⟨g16, hm⟩ := gb_some hm
    refine ld_17 hx hb hK hI g16 (v := σ 17 (ix p0)) rfl dX10_writePlace_119 ?_
    refine lv_aload_n hx hb dX10_writePlace_120 rfl (lv_at hl 0 rfl) ?_
    refine gf_43_0 hx hb ht hK hI mw_478 (fun _ h9 => h9) hown dX10_writePlace_121 ?_
    refine gf_13_5 hx hb ht hK hI mw_565 (fun _ h9 => h9) hown dX10_writePlace_124 ?_
    refine lv_iconst (v := 0) hx hb dX10_writePlace_127 (by decide) ?_
    obtain ⟨g17, hm⟩ := gb_some hm
    refine ld_19 hx hb hK hI g17 dX10_writePlace_128 ?_
    refine lv_iload_n hx hb dX10_writePlace_129 rfl (lv_at hl 1 rfl) ?_
    obtain ⟨g18, hm⟩ := gb_some hm
    refine ld_rd hx hb hK hI g17 g18 (v := σ 19 (ix p0 * 6 + ix 0)) rfl dX10_writePlace_130 ?_
    obtain ⟨r19, σ20, h21, hm⟩ := bd_some hm
    refine k_v hI hA (va_runV (As := [.int (σ 17 (ix p0)), .int (σ 19 (ix p0 * 6 + ix 0))]) (rest := []) hX (c_X10_writeMove N n h21 _) (cwV 2 ht (in_V mw_586 mw_587 mw_588 mw_505 mw_563) rfl rfl rfl pd_X10_writeMove ⟨Nat.le_of_ble_eq_true rfl, Nat.le_of_ble_eq_true rfl⟩) ⟨q_blind, va_recv hK hI.1 (ci := 9) (q0 := 43) rfl rfl, q_to hI hK hN hZ hA⟩ rfl rfl hl.1 rfl (lv_room (Nat.le_of_ble_eq_true rfl)) dX10_writePlace_131 (by decide)) (fun H locs hI => ?_)
    refine lv_goto (tgt := 339) hx hb dX10_writePlace_134 (by decide) ?_
    exact hR _ _ _ _ _ hm hI dX10_writePlace_339
  have hm := (if_neg c15).symm.trans hm
  by_cases c22 : (σ 14 (ix p0)) = 2
  · have hm := (if_pos c22).symm.trans hm
    refine lv_tableIn (off := 128) (tgt := 137) hx hb dX10_writePlace_9 (by (rw [c22]; decide)) (by (rw [c22]; decide)) (by (rw [c22]; rfl)) (by decide) ?_
    refine lv_aload_n hx hb dX10_writePlace_137 rfl (lv_at hl 0 rfl) ?_
    refine lv_iload_n hx hb dX10_writePlace_138 rfl (lv_at hl 1 rfl) ?_
    obtain ⟨r23, σ24, h25, hm⟩ := bd_some hm
    refine k_v hI hA (va_runV (As := [.int p0]) (rest := []) hX (c_X10_writeWork N n h25 _) (cwV 1 ht (in_V mw_589 mw_590 mw_591 mw_505 mw_574) rfl rfl rfl pd_X10_writeWork ⟨Nat.le_of_ble_eq_true rfl, Nat.le_of_ble_eq_true rfl⟩) ⟨q_blind, va_recv hK hI.1 (ci := 9) (q0 := 43) rfl rfl, q_to hI hK hN hZ hA⟩ rfl rfl hl.1 rfl (lv_room (Nat.le_of_ble_eq_true rfl)) dX10_writePlace_139 (by decide)) (fun H locs hI => ?_)
    refine lv_goto (tgt := 339) hx hb dX10_writePlace_142 (by decide) ?_
    exact hR _ _ _ _ _ hm hI dX10_writePlace_339
  have hm := (if_neg c22).symm.trans hm
  by_cases c26 : (σ 14 (ix p0)) = 3
  · have hm := (if_pos c26).symm.trans hm
    refine lv_tableIn (off := 136) (tgt := 145) hx hb dX10_writePlace_9 (by (rw [c26]; decide)) (by (rw [c26]; decide)) (by (rw [c26]; rfl)) (by decide) ?_
    refine lv_aload_n hx hb dX10_writePlace_145 rfl (lv_at hl 0 rfl) ?_
    refine lv_aload_n hx hb dX10_writePlace_146 rfl (lv_at hl 0 rfl) ?_
    refine gf_43_0 hx hb ht hK hI mw_478 (fun _ h9 => h9) hown dX10_writePlace_147 ?_
    refine gf_13_5 hx hb ht hK hI mw_565 (fun _ h9 => h9) hown dX10_writePlace_150 ?_
    refine lv_iconst (v := 0) hx hb dX10_writePlace_153 (by decide) ?_
    obtain ⟨g27, hm⟩ := gb_some hm
    refine ld_19 hx hb hK hI g27 dX10_writePlace_154 ?_
    refine lv_iload_n hx hb dX10_writePlace_155 rfl (lv_at hl 1 rfl) ?_
    obtain ⟨g28, hm⟩ := gb_some hm
    refine ld_rd hx hb hK hI g27 g28 (v := σ 19 (ix p0 * 6 + ix 0)) rfl dX10_writePlace_156 ?_
    refine lv_aload_n hx hb dX10_writePlace_157 rfl (lv_at hl 0 rfl) ?_
    refine gf_43_0 hx hb ht hK hI mw_478 (fun _ h9 => h9) hown dX10_writePlace_158 ?_
    refine gf_13_5 hx hb ht hK hI mw_565 (fun _ h9 => h9) hown dX10_writePlace_161 ?_
    refine lv_iconst (v := 1) hx hb dX10_writePlace_164 (by decide) ?_
    obtain ⟨g29, hm⟩ := gb_some hm
    refine ld_19 hx hb hK hI g29 dX10_writePlace_165 ?_
    refine lv_iload_n hx hb dX10_writePlace_166 rfl (lv_at hl 1 rfl) ?_
    obtain ⟨g30, hm⟩ := gb_some hm
    refine ld_rd hx hb hK hI g29 g30 (v := σ 19 (ix p0 * 6 + ix 1)) rfl dX10_writePlace_167 ?_
    obtain ⟨r31, σ32, h33, hm⟩ := bd_some hm
    refine k_v hI hA (va_runV (As := [.int (σ 19 (ix p0 * 6 + ix 0)), .int (σ 19 (ix p0 * 6 + ix 1))]) (rest := []) hX (c_X10_writeSwap N n h33 _) (cwV 2 ht (in_V mw_592 mw_593 mw_594 mw_505 mw_579) rfl rfl rfl pd_X10_writeSwap ⟨Nat.le_of_ble_eq_true rfl, Nat.le_of_ble_eq_true rfl⟩) ⟨q_blind, va_recv hK hI.1 (ci := 9) (q0 := 43) rfl rfl, q_to hI hK hN hZ hA⟩ rfl rfl hl.1 rfl (lv_room (Nat.le_of_ble_eq_true rfl)) dX10_writePlace_168 (by decide)) (fun H locs hI => ?_)
    refine lv_goto (tgt := 339) hx hb dX10_writePlace_171 (by decide) ?_
    exact hR _ _ _ _ _ hm hI dX10_writePlace_339
  have hm := (if_neg c26).symm.trans hm
  by_cases c34 : (σ 14 (ix p0)) = 4
  · have hm := (if_pos c34).symm.trans hm
    refine lv_tableIn (off := 165) (tgt := 174) hx hb dX10_writePlace_9 (by (rw [c34]; decide)) (by (rw [c34]; decide)) (by (rw [c34]; rfl)) (by decide) ?_
    refine lv_aload_n hx hb dX10_writePlace_174 rfl (lv_at hl 0 rfl) ?_
    refine gf_43_2 hx hb ht hK hI mw_480 (fun _ h9 => h9) hown dX10_writePlace_175 ?_
    refine lv_aload_n hx hb dX10_writePlace_178 rfl (lv_at hl 0 rfl) ?_
    refine gf_43_4 hx hb ht hK hI (v := σ 43 4) rfl mw_533 (fun _ h9 => h9) hown dX10_writePlace_179 ?_
    refine lv_iconst (v := 4) hx hb dX10_writePlace_182 (by decide) ?_
    refine lv_aload_n hx hb dX10_writePlace_183 rfl (lv_at hl 0 rfl) ?_
    refine gf_43_0 hx hb ht hK hI mw_478 (fun _ h9 => h9) hown dX10_writePlace_184 ?_
    refine gf_13_2 hx hb ht hK hI mw_585 (fun _ h9 => h9) hown dX10_writePlace_187 ?_
    refine lv_iload_n hx hb dX10_writePlace_190 rfl (lv_at hl 1 rfl) ?_
    obtain ⟨g35, hm⟩ := gb_some hm
    refine ld_16 hx hb hK hI g35 (v := σ 16 (ix p0)) rfl dX10_writePlace_191 ?_
    refine lv_iconst (v := 0) hx hb dX10_writePlace_192 (by decide) ?_
    obtain ⟨r36, σ37, h38, hm⟩ := bd_some hm
    refine k_v hI hA (va_runV (As := [.int (σ 43 4), .int 4, .int (σ 16 (ix p0)), .int 0]) (rest := []) hX (c_X1_add N n h38 _) (cwV 4 ht (in_V mw_549 mw_93 mw_94 mw_95 mw_90) rfl rfl rfl pd_X1_add ⟨Nat.le_of_ble_eq_true rfl, Nat.le_of_ble_eq_true rfl⟩) ⟨q_blind, va_recv hK hI.1 (ci := 1) (q0 := 39) rfl rfl, q_to hI hK hN hZ hA⟩ rfl rfl hl.1 rfl (lv_room (Nat.le_of_ble_eq_true rfl)) dX10_writePlace_193 (by decide)) (fun H locs hI => ?_)
    refine lv_goto (tgt := 339) hx hb dX10_writePlace_196 (by decide) ?_
    exact hR _ _ _ _ _ hm hI dX10_writePlace_339
  have hm := (if_neg c34).symm.trans hm
  by_cases c39 : (σ 14 (ix p0)) = 5
  · have hm := (if_pos c39).symm.trans hm
    refine lv_tableIn (off := 190) (tgt := 199) hx hb dX10_writePlace_9 (by (rw [c39]; decide)) (by (rw [c39]; decide)) (by (rw [c39]; rfl)) (by decide) ?_
    refine lv_aload_n hx hb dX10_writePlace_199 rfl (lv_at hl 0 rfl) ?_
    refine gf_43_2 hx hb ht hK hI mw_480 (fun _ h9 => h9) hown dX10_writePlace_200 ?_
    refine lv_aload_n hx hb dX10_writePlace_203 rfl (lv_at hl 0 rfl) ?_
    refine gf_43_4 hx hb ht hK hI (v := σ 43 4) rfl mw_533 (fun _ h9 => h9) hown dX10_writePlace_204 ?_
    refine lv_iconst (v := 5) hx hb dX10_writePlace_207 (by decide) ?_
    refine lv_aload_n hx hb dX10_writePlace_208 rfl (lv_at hl 0 rfl) ?_
    refine lv_aload_n hx hb dX10_writePlace_209 rfl (lv_at hl 0 rfl) ?_
    refine gf_43_0 hx hb ht hK hI mw_478 (fun _ h9 => h9) hown dX10_writePlace_210 ?_
    refine gf_13_5 hx hb ht hK hI mw_565 (fun _ h9 => h9) hown dX10_writePlace_213 ?_
    refine lv_iconst (v := 0) hx hb dX10_writePlace_216 (by decide) ?_
    obtain ⟨g40, hm⟩ := gb_some hm
    refine ld_19 hx hb hK hI g40 dX10_writePlace_217 ?_
    refine lv_iload_n hx hb dX10_writePlace_218 rfl (lv_at hl 1 rfl) ?_
    obtain ⟨g41, hm⟩ := gb_some hm
    refine ld_rd hx hb hK hI g40 g41 (v := σ 19 (ix p0 * 6 + ix 0)) rfl dX10_writePlace_219 ?_
    refine lv_aload_n hx hb dX10_writePlace_220 rfl (lv_at hl 0 rfl) ?_
    refine gf_43_5 hx hb ht hK hI (v := σ 43 5) rfl mw_534 (fun _ h9 => h9) hown dX10_writePlace_221 ?_
    obtain ⟨r42, σ43, h44, hm⟩ := bd_some hm
    refine k_i hI hA (va_runV (As := [.int (σ 19 (ix p0 * 6 + ix 0)), .int (σ 43 5)]) (rest := [.int 5, .int (σ 43 4), .ref (ga g 39)]) hX (c_X10_loaded N n h44 _) (cwV 2 ht (in_V mw_568 mw_569 mw_570 mw_505 mw_564) rfl rfl rfl pd_X10_loaded ⟨Nat.le_of_ble_eq_true rfl, Nat.le_of_ble_eq_true rfl⟩) ⟨q_blind, va_recv hK hI.1 (ci := 9) (q0 := 43) rfl rfl, q_to hI hK hN hZ hA⟩ rfl rfl hl.1 rfl (lv_room (Nat.le_of_ble_eq_true rfl)) dX10_writePlace_224 (by decide)) (fun H locs hI => ?_)
    refine lv_aload_n hx hb dX10_writePlace_227 rfl (lv_at hl 0 rfl) ?_
    refine gf_43_0 hx hb ht hK hI mw_478 (fun _ h9 => h9) hown dX10_writePlace_228 ?_
    refine gf_13_2 hx hb ht hK hI mw_585 (fun _ h9 => h9) hown dX10_writePlace_231 ?_
    refine lv_iload_n hx hb dX10_writePlace_234 rfl (lv_at hl 1 rfl) ?_
    obtain ⟨g45, hm⟩ := gb_some hm
    refine ld_16 hx hb hK hI g45 (v := σ43 16 (ix p0)) rfl dX10_writePlace_235 ?_
    obtain ⟨r46, σ47, h48, hm⟩ := bd_some hm
    refine k_v hI hA (va_runV (As := [.int (σ 43 4), .int 5, .int r42, .int (σ43 16 (ix p0))]) (rest := []) hX (c_X1_add N n h48 _) (cwV 4 ht (in_V mw_549 mw_93 mw_94 mw_95 mw_90) rfl rfl rfl pd_X1_add ⟨Nat.le_of_ble_eq_true rfl, Nat.le_of_ble_eq_true rfl⟩) ⟨q_blind, va_recv hK hI.1 (ci := 1) (q0 := 39) rfl rfl, q_to hI hK hN hZ hA⟩ rfl rfl hl.1 rfl (lv_room (Nat.le_of_ble_eq_true rfl)) dX10_writePlace_236 (by decide)) (fun H locs hI => ?_)
    refine lv_goto (tgt := 339) hx hb dX10_writePlace_239 (by decide) ?_
    exact hR _ _ _ _ _ hm hI dX10_writePlace_339
  have hm := (if_neg c39).symm.trans hm
  by_cases c49 : (σ 14 (ix p0)) = 6
  · have hm := (if_pos c49).symm.trans hm
    refine lv_tableIn (off := 233) (tgt := 242) hx hb dX10_writePlace_9 (by (rw [c49]; decide)) (by (rw [c49]; decide)) (by (rw [c49]; rfl)) (by decide) ?_
    refine lv_aload_n hx hb dX10_writePlace_242 rfl (lv_at hl 0 rfl) ?_
    refine gf_43_2 hx hb ht hK hI mw_480 (fun _ h9 => h9) hown dX10_writePlace_243 ?_
    refine lv_aload_n hx hb dX10_writePlace_246 rfl (lv_at hl 0 rfl) ?_
    refine gf_43_4 hx hb ht hK hI (v := σ 43 4) rfl mw_533 (fun _ h9 => h9) hown dX10_writePlace_247 ?_
    refine lv_bipush (v := 6) hx hb dX10_writePlace_250 (by decide) ?_
    refine lv_aload_n hx hb dX10_writePlace_252 rfl (lv_at hl 0 rfl) ?_
    refine lv_aload_n hx hb dX10_writePlace_253 rfl (lv_at hl 0 rfl) ?_
    refine gf_43_0 hx hb ht hK hI mw_478 (fun _ h9 => h9) hown dX10_writePlace_254 ?_
    refine gf_13_5 hx hb ht hK hI mw_565 (fun _ h9 => h9) hown dX10_writePlace_257 ?_
    refine lv_iconst (v := 0) hx hb dX10_writePlace_260 (by decide) ?_
    obtain ⟨g50, hm⟩ := gb_some hm
    refine ld_19 hx hb hK hI g50 dX10_writePlace_261 ?_
    refine lv_iload_n hx hb dX10_writePlace_262 rfl (lv_at hl 1 rfl) ?_
    obtain ⟨g51, hm⟩ := gb_some hm
    refine ld_rd hx hb hK hI g50 g51 (v := σ 19 (ix p0 * 6 + ix 0)) rfl dX10_writePlace_263 ?_
    refine lv_aload_n hx hb dX10_writePlace_264 rfl (lv_at hl 0 rfl) ?_
    refine gf_43_5 hx hb ht hK hI (v := σ 43 5) rfl mw_534 (fun _ h9 => h9) hown dX10_writePlace_265 ?_
    obtain ⟨r52, σ53, h54, hm⟩ := bd_some hm
    refine k_i hI hA (va_runV (As := [.int (σ 19 (ix p0 * 6 + ix 0)), .int (σ 43 5)]) (rest := [.int 6, .int (σ 43 4), .ref (ga g 39)]) hX (c_X10_loaded N n h54 _) (cwV 2 ht (in_V mw_568 mw_569 mw_570 mw_505 mw_564) rfl rfl rfl pd_X10_loaded ⟨Nat.le_of_ble_eq_true rfl, Nat.le_of_ble_eq_true rfl⟩) ⟨q_blind, va_recv hK hI.1 (ci := 9) (q0 := 43) rfl rfl, q_to hI hK hN hZ hA⟩ rfl rfl hl.1 rfl (lv_room (Nat.le_of_ble_eq_true rfl)) dX10_writePlace_268 (by decide)) (fun H locs hI => ?_)
    refine lv_iconst (v := 0) hx hb dX10_writePlace_271 (by decide) ?_
    obtain ⟨r55, σ56, h57, hm⟩ := bd_some hm
    refine k_v hI hA (va_runV (As := [.int (σ 43 4), .int 6, .int r52, .int 0]) (rest := []) hX (c_X1_add N n h57 _) (cwV 4 ht (in_V mw_549 mw_93 mw_94 mw_95 mw_90) rfl rfl rfl pd_X1_add ⟨Nat.le_of_ble_eq_true rfl, Nat.le_of_ble_eq_true rfl⟩) ⟨q_blind, va_recv hK hI.1 (ci := 1) (q0 := 39) rfl rfl, q_to hI hK hN hZ hA⟩ rfl rfl hl.1 rfl (lv_room (Nat.le_of_ble_eq_true rfl)) dX10_writePlace_272 (by decide)) (fun H locs hI => ?_)
    refine lv_goto (tgt := 339) hx hb dX10_writePlace_275 (by decide) ?_
    exact hR _ _ _ _ _ hm hI dX10_writePlace_339
  have hm := (if_neg c49).symm.trans hm
  by_cases c58 : (σ 14 (ix p0)) = 7
  · have hm := (if_pos c58).symm.trans hm
    refine lv_tableIn (off := 269) (tgt := 278) hx hb dX10_writePlace_9 (by (rw [c58]; decide)) (by (rw [c58]; decide)) (by (rw [c58]; rfl)) (by decide) ?_
    refine lv_aload_n hx hb dX10_writePlace_278 rfl (lv_at hl 0 rfl) ?_
    refine lv_aload_n hx hb dX10_writePlace_279 rfl (lv_at hl 0 rfl) ?_
    refine gf_43_0 hx hb ht hK hI mw_478 (fun _ h9 => h9) hown dX10_writePlace_280 ?_
    refine gf_13_3 hx hb ht hK hI mw_566 (fun _ h9 => h9) hown dX10_writePlace_283 ?_
    refine lv_iload_n hx hb dX10_writePlace_286 rfl (lv_at hl 1 rfl) ?_
    obtain ⟨g59, hm⟩ := gb_some hm
    refine ld_17 hx hb hK hI g59 (v := σ 17 (ix p0)) rfl dX10_writePlace_287 ?_
    refine lv_aload_n hx hb dX10_writePlace_288 rfl (lv_at hl 0 rfl) ?_
    refine gf_43_0 hx hb ht hK hI mw_478 (fun _ h9 => h9) hown dX10_writePlace_289 ?_
    refine gf_13_5 hx hb ht hK hI mw_565 (fun _ h9 => h9) hown dX10_writePlace_292 ?_
    refine lv_iconst (v := 0) hx hb dX10_writePlace_295 (by decide) ?_
    obtain ⟨g60, hm⟩ := gb_some hm
    refine ld_19 hx hb hK hI g60 dX10_writePlace_296 ?_
    refine lv_iload_n hx hb dX10_writePlace_297 rfl (lv_at hl 1 rfl) ?_
    obtain ⟨g61, hm⟩ := gb_some hm
    refine ld_rd hx hb hK hI g60 g61 (v := σ 19 (ix p0 * 6 + ix 0)) rfl dX10_writePlace_298 ?_
    obtain ⟨r62, σ63, h64, hm⟩ := bd_some hm
    refine k_v hI hA (va_runV (As := [.int (σ 17 (ix p0)), .int (σ 19 (ix p0 * 6 + ix 0))]) (rest := []) hX (c_X10_writeRead N n h64 _) (cwV 2 ht (in_V mw_595 mw_596 mw_597 mw_505 mw_580) rfl rfl rfl pd_X10_writeRead ⟨Nat.le_of_ble_eq_true rfl, Nat.le_of_ble_eq_true rfl⟩) ⟨q_blind, va_recv hK hI.1 (ci := 9) (q0 := 43) rfl rfl, q_to hI hK hN hZ hA⟩ rfl rfl hl.1 rfl (lv_room (Nat.le_of_ble_eq_true rfl)) dX10_writePlace_299 (by decide)) (fun H locs hI => ?_)
    refine lv_goto (tgt := 339) hx hb dX10_writePlace_302 (by decide) ?_
    exact hR _ _ _ _ _ hm hI dX10_writePlace_339
  have hm := (if_neg c58).symm.trans hm
  by_cases c65 : (σ 14 (ix p0)) = 8
  · have hm := (if_pos c65).symm.trans hm
    refine lv_tableIn (off := 296) (tgt := 305) hx hb dX10_writePlace_9 (by (rw [c65]; decide)) (by (rw [c65]; decide)) (by (rw [c65]; rfl)) (by decide) ?_
    refine lv_aload_n hx hb dX10_writePlace_305 rfl (lv_at hl 0 rfl) ?_
    refine lv_aload_n hx hb dX10_writePlace_306 rfl (lv_at hl 0 rfl) ?_
    refine gf_43_0 hx hb ht hK hI mw_478 (fun _ h9 => h9) hown dX10_writePlace_307 ?_
    refine gf_13_5 hx hb ht hK hI mw_565 (fun _ h9 => h9) hown dX10_writePlace_310 ?_
    refine lv_iconst (v := 0) hx hb dX10_writePlace_313 (by decide) ?_
    obtain ⟨g66, hm⟩ := gb_some hm
    refine ld_19 hx hb hK hI g66 dX10_writePlace_314 ?_
    refine lv_iload_n hx hb dX10_writePlace_315 rfl (lv_at hl 1 rfl) ?_
    obtain ⟨g67, hm⟩ := gb_some hm
    refine ld_rd hx hb hK hI g66 g67 (v := σ 19 (ix p0 * 6 + ix 0)) rfl dX10_writePlace_316 ?_
    refine lv_aload_n hx hb dX10_writePlace_317 rfl (lv_at hl 0 rfl) ?_
    refine gf_43_0 hx hb ht hK hI mw_478 (fun _ h9 => h9) hown dX10_writePlace_318 ?_
    refine gf_13_5 hx hb ht hK hI mw_565 (fun _ h9 => h9) hown dX10_writePlace_321 ?_
    refine lv_iconst (v := 1) hx hb dX10_writePlace_324 (by decide) ?_
    obtain ⟨g68, hm⟩ := gb_some hm
    refine ld_19 hx hb hK hI g68 dX10_writePlace_325 ?_
    refine lv_iload_n hx hb dX10_writePlace_326 rfl (lv_at hl 1 rfl) ?_
    obtain ⟨g69, hm⟩ := gb_some hm
    refine ld_rd hx hb hK hI g68 g69 (v := σ 19 (ix p0 * 6 + ix 1)) rfl dX10_writePlace_327 ?_
    obtain ⟨r70, σ71, h72, hm⟩ := bd_some hm
    refine k_v hI hA (va_runV (As := [.int (σ 19 (ix p0 * 6 + ix 0)), .int (σ 19 (ix p0 * 6 + ix 1))]) (rest := []) hX (c_X10_writeWrite N n h72 _) (cwV 2 ht (in_V mw_598 mw_599 mw_600 mw_505 mw_581) rfl rfl rfl pd_X10_writeWrite ⟨Nat.le_of_ble_eq_true rfl, Nat.le_of_ble_eq_true rfl⟩) ⟨q_blind, va_recv hK hI.1 (ci := 9) (q0 := 43) rfl rfl, q_to hI hK hN hZ hA⟩ rfl rfl hl.1 rfl (lv_room (Nat.le_of_ble_eq_true rfl)) dX10_writePlace_328 (by decide)) (fun H locs hI => ?_)
    refine lv_goto (tgt := 339) hx hb dX10_writePlace_331 (by decide) ?_
    exact hR _ _ _ _ _ hm hI dX10_writePlace_339
  have hm := (if_neg c65).symm.trans hm
  refine sw_d (tgt := 334) hx hb [0, 1, 2, 3, 4, 5, 6, 7, 8] dX10_writePlace_9 (by decide) (by decide) (ne_c (lv_neT c2 (by decide)) (ne_c (lv_neT c15 (by decide)) (ne_c (lv_neT c22 (by decide)) (ne_c (lv_neT c26 (by decide)) (ne_c (lv_neT c34 (by decide)) (ne_c (lv_neT c39 (by decide)) (ne_c (lv_neT c49 (by decide)) (ne_c (lv_neT c58 (by decide)) (ne_c (lv_neT c65 (by decide)) ne_n))))))))) (by decide) ?_
  refine lv_aload_n hx hb dX10_writePlace_334 rfl (lv_at hl 0 rfl) ?_
  refine lv_iload_n hx hb dX10_writePlace_335 rfl (lv_at hl 1 rfl) ?_
  obtain ⟨r73, σ74, h75, hm⟩ := bd_some hm
  refine k_v hI hA (va_runV (As := [.int p0]) (rest := []) hX (c_X10_writeCall N n h75 _) (cwV 1 ht (in_V mw_601 mw_602 mw_603 mw_505 mw_583) rfl rfl rfl pd_X10_writeCall ⟨Nat.le_of_ble_eq_true rfl, Nat.le_of_ble_eq_true rfl⟩) ⟨q_blind, va_recv hK hI.1 (ci := 9) (q0 := 43) rfl rfl, q_to hI hK hN hZ hA⟩ rfl rfl hl.1 rfl (lv_room (Nat.le_of_ble_eq_true rfl)) dX10_writePlace_336 (by decide)) (fun H locs hI => ?_)
  exact hR _ _ _ _ _ hm hI dX10_writePlace_339
def lb_X1_aim_44_2 (N n : Nat) (u1 : Int32) (K95 : (Sg → Int32 → Option (Int32 × Sg))) (rec : (Sg → Int32 → Option (Int32 × Sg))) (σ : Sg) (v3 : Int32) : Option (Int32 × Sg) := gb u1 12 (if (σ 41 (ix u1)) ≤ v3 then (K95 σ v3) else (gb u1 12 (gb (((σ 40 (ix u1)) + v3) * 5) n (if (σ 42 (ix (((σ 40 (ix u1)) + v3) * 5))) = 4 then (gb ((((σ 40 (ix u1)) + v3) * 5) + 1) n (gb (σ 42 (ix ((((σ 40 (ix u1)) + v3) * 5) + 1))) 300 (gb ((((σ 40 (ix u1)) + v3) * 5) + 1) n (rec (sg σ 42 (ix ((((σ 40 (ix u1)) + v3) * 5) + 1)) (σ 44 (ix (σ 42 (ix ((((σ 40 (ix u1)) + v3) * 5) + 1)))))) (v3 + 1))))) else (gb (((σ 40 (ix u1)) + v3) * 5) n (if (σ 42 (ix (((σ 40 (ix u1)) + v3) * 5))) = 5 then (gb ((((σ 40 (ix u1)) + v3) * 5) + 2) n (gb (σ 42 (ix ((((σ 40 (ix u1)) + v3) * 5) + 2))) 300 (gb ((((σ 40 (ix u1)) + v3) * 5) + 2) n (rec (sg σ 42 (ix ((((σ 40 (ix u1)) + v3) * 5) + 2)) (σ 44 (ix (σ 42 (ix ((((σ 40 (ix u1)) + v3) * 5) + 2)))))) (v3 + 1))))) else (rec σ (v3 + 1))))))))
def lf_X1_aim_44_2 (N n : Nat) (u1 : Int32) (K95 : (Sg → Int32 → Option (Int32 × Sg))) : Nat → (Sg → Int32 → Option (Int32 × Sg))
  | 0 => fun _ _ => none
  | k + 1 => lb_X1_aim_44_2 N n u1 K95 (lf_X1_aim_44_2 N n u1 K95 k)
def f_X1_aim_44 (N n : Nat) (σ : Sg) (p0 : Int32) : Option (Int32 × Sg) := lf_X1_aim_44_2 N n p0 (fun σ14 w15 => some (0, σ14)) N σ 0
set_option maxHeartbeats 4000000 in
set_option maxRecDepth 100000 in
theorem lp_X1_aim_44_2 {p : Program} {l : Launch} {e : Env} {s : State} {m : MethodId} {args : Array Value} {below : List Frame} {meth : Method} {c : Code} {Q : State → Prop} {A : Nat → Prop} {g : GG} {q N n : Nat} {out : Int32 × Sg} {u1 : Int32} {K95 : (Sg → Int32 → Option (Int32 × Sg))}
    (hC : CXv p l e (qR 0 0) s m args below meth c cX1_aim 5 RX1 g q n A Q (some out)) :
    ∀ (k : Nat) (σ : Sg) (v3 : Int32) (H : Heap) (locs : List Loc) (ls : Array Slot), lf_X1_aim_44_2 N n u1 K95 k σ v3 = some out → wI g q n σ A s.heap H locs → lv_has ls 5 [(0, .ref (ga g 39)), (1, .int u1), (2, .ref (ga g 44)), (3, .int v3)] → (∀ (σ : Sg) (v3 : Int32) (H : Heap) (locs : List Loc) (ls : Array Slot), K95 σ v3 = some out → wI g q n σ A s.heap H locs → lv_has ls 5 [] → W p l e (qR 0 0) s m args below meth c H locs 0 0 Q (F0 m 95 ls [])) → W p l e (qR 0 0) s m args below meth c H locs 0 0 Q (F0 m 2 ls []) := by
  obtain ⟨hX, hK, hN, hZ, hA, hR⟩ := id hC
  have hx : p.tables.exec = Jvm.exec := hX.1
  have hb : c.code = cX1_aim := hX.2.1
  have hml : c.maxLocals = 5 := hX.2.2.1
  have hown : s.vm.findClass RX1 = some m.cls := hX.2.2.2.1
  have ht : ∀ w ∈ BIG, w.before args s = true := hX.2.2.2.2
  intro k
  induction k with
  | zero =>
    intro σ v3 H locs ls hm
    have hm : none = some out := hm
    exact nomatch hm
  | succ k ih =>
    intro σ v3 H locs ls hm hI hl hx95
    have hm : lb_X1_aim_44_2 N n u1 K95 (lf_X1_aim_44_2 N n u1 K95 k) σ v3 = some out := hm
    unfold lb_X1_aim_44_2 at hm
    refine lv_iload_n hx hb dX1_aim_2 rfl (lv_at hl 3 rfl) ?_
    refine lv_aload_n hx hb dX1_aim_3 rfl (lv_at hl 0 rfl) ?_
    refine gf_39_1 hx hb ht hK hI mw_68 (fun _ h9 => h9) hown dX1_aim_4 ?_
    refine lv_iload_n hx hb dX1_aim_7 rfl (lv_at hl 1 rfl) ?_
    obtain ⟨g1, hm⟩ := gb_some hm
    refine ld_41 hx hb hK hI g1 (v := σ 41 (ix u1)) rfl dX1_aim_8 ?_
    refine lv_icmp_ge (tgt := 95) hx hb dX1_aim_9 (by decide) (fun c2 => ?_) (fun c2 => ?_)
    · have hm := (if_pos c2).symm.trans hm
      exact hx95 σ v3 _ _ _ hm hI (lv_sub hl [] rfl)
    · have hm := (if_neg c2).symm.trans hm
      refine lv_aload_n hx hb dX1_aim_12 rfl (lv_at hl 0 rfl) ?_
      refine gf_39_0 hx hb ht hK hI mw_67 (fun _ h9 => h9) hown dX1_aim_13 ?_
      refine lv_iload_n hx hb dX1_aim_16 rfl (lv_at hl 1 rfl) ?_
      obtain ⟨g3, hm⟩ := gb_some hm
      refine ld_40 hx hb hK hI g3 (v := σ 40 (ix u1)) rfl dX1_aim_17 ?_
      refine lv_iload_n hx hb dX1_aim_18 rfl (lv_at hl 3 rfl) ?_
      refine lv_iadd hx hb dX1_aim_19 ?_
      refine lv_iconst (v := 5) hx hb dX1_aim_20 (by decide) ?_
      refine lv_imul hx hb dX1_aim_21 ?_
      refine lv_istore (lv' := [(4, .int (((σ 40 (ix u1)) + v3) * 5)), (0, .ref (ga g 39)), (1, .int u1), (2, .ref (ga g 44)), (3, .int v3)]) hx hb dX1_aim_22 hl (by decide) rfl (fun ls hl => ?_)
      refine lv_aload_n hx hb dX1_aim_24 rfl (lv_at hl 1 rfl) ?_
      refine gf_39_3 hx hb ht hK hI mw_69 (fun _ h9 => h9) hown dX1_aim_25 ?_
      refine lv_iload hx hb dX1_aim_28 (lv_at hl 0 rfl) ?_
      obtain ⟨g4, hm⟩ := gb_some hm
      refine ld_42 hx hb hK hI g4 (v := σ 42 (ix (((σ 40 (ix u1)) + v3) * 5))) rfl dX1_aim_30 ?_
      refine lv_iconst (v := 4) hx hb dX1_aim_31 (by decide) ?_
      refine lv_icmp_ne (tgt := 58) hx hb dX1_aim_32 (by decide) (fun c5 => ?_) (fun c5 => ?_)
      · have hm := (if_neg c5).symm.trans hm
        refine lv_aload_n hx hb dX1_aim_58 rfl (lv_at hl 1 rfl) ?_
        refine gf_39_3 hx hb ht hK hI mw_69 (fun _ h9 => h9) hown dX1_aim_59 ?_
        refine lv_iload hx hb dX1_aim_62 (lv_at hl 0 rfl) ?_
        obtain ⟨g6, hm⟩ := gb_some hm
        refine ld_42 hx hb hK hI g6 (v := σ 42 (ix (((σ 40 (ix u1)) + v3) * 5))) rfl dX1_aim_64 ?_
        refine lv_iconst (v := 5) hx hb dX1_aim_65 (by decide) ?_
        refine lv_icmp_ne (tgt := 89) hx hb dX1_aim_66 (by decide) (fun c7 => ?_) (fun c7 => ?_)
        · have hm := (if_neg c7).symm.trans hm
          refine lv_iinc (v := v3 + 1) (lv' := [(3, .int (v3 + 1)), (4, .int (((σ 40 (ix u1)) + v3) * 5)), (0, .ref (ga g 39)), (1, .int u1), (2, .ref (ga g 44))]) hx hb dX1_aim_89 hl (k := 4) rfl (congrArg (fun z => v3 + z) (show Int32.ofInt 1 = 1 by decide)) (by decide) rfl (fun ls hl => ?_)
          refine lv_goto (tgt := 2) hx hb dX1_aim_92 (by decide) ?_
          exact ih σ (v3 + 1) _ _ _ hm hI (lv_sub hl [2, 3, 4, 0] rfl) hx95
        · have hm := (if_pos c7).symm.trans hm
          refine lv_aload_n hx hb dX1_aim_69 rfl (lv_at hl 1 rfl) ?_
          refine gf_39_3 hx hb ht hK hI mw_69 (fun _ h9 => h9) hown dX1_aim_70 ?_
          refine lv_iload hx hb dX1_aim_73 (lv_at hl 0 rfl) ?_
          refine lv_iconst (v := 2) hx hb dX1_aim_75 (by decide) ?_
          refine lv_iadd hx hb dX1_aim_76 ?_
          refine lv_aload_n hx hb dX1_aim_77 rfl (lv_at hl 3 rfl) ?_
          refine lv_aload_n hx hb dX1_aim_78 rfl (lv_at hl 1 rfl) ?_
          refine gf_39_3 hx hb ht hK hI mw_69 (fun _ h9 => h9) hown dX1_aim_79 ?_
          refine lv_iload hx hb dX1_aim_82 (lv_at hl 0 rfl) ?_
          refine lv_iconst (v := 2) hx hb dX1_aim_84 (by decide) ?_
          refine lv_iadd hx hb dX1_aim_85 ?_
          obtain ⟨g8, hm⟩ := gb_some hm
          refine ld_42 hx hb hK hI g8 (v := σ 42 (ix ((((σ 40 (ix u1)) + v3) * 5) + 2))) rfl dX1_aim_86 ?_
          obtain ⟨g9, hm⟩ := gb_some hm
          refine ld_44 hx hb hK hI g9 (v := σ 44 (ix (σ 42 (ix ((((σ 40 (ix u1)) + v3) * 5) + 2))))) rfl dX1_aim_87 ?_
          obtain ⟨g10, hm⟩ := gb_some hm
          refine sv_42 hx hb hK hI g10 dX1_aim_88 (fun H locs hI => ?_)
          refine lv_iinc (v := v3 + 1) (lv' := [(3, .int (v3 + 1)), (4, .int (((σ 40 (ix u1)) + v3) * 5)), (0, .ref (ga g 39)), (1, .int u1), (2, .ref (ga g 44))]) hx hb dX1_aim_89 hl (k := 4) rfl (congrArg (fun z => v3 + z) (show Int32.ofInt 1 = 1 by decide)) (by decide) rfl (fun ls hl => ?_)
          refine lv_goto (tgt := 2) hx hb dX1_aim_92 (by decide) ?_
          exact ih (sg σ 42 (ix ((((σ 40 (ix u1)) + v3) * 5) + 2)) (σ 44 (ix (σ 42 (ix ((((σ 40 (ix u1)) + v3) * 5) + 2)))))) (v3 + 1) _ _ _ hm hI (lv_sub hl [2, 3, 4, 0] rfl) hx95
      · have hm := (if_pos c5).symm.trans hm
        refine lv_aload_n hx hb dX1_aim_35 rfl (lv_at hl 1 rfl) ?_
        refine gf_39_3 hx hb ht hK hI mw_69 (fun _ h9 => h9) hown dX1_aim_36 ?_
        refine lv_iload hx hb dX1_aim_39 (lv_at hl 0 rfl) ?_
        refine lv_iconst (v := 1) hx hb dX1_aim_41 (by decide) ?_
        refine lv_iadd hx hb dX1_aim_42 ?_
        refine lv_aload_n hx hb dX1_aim_43 rfl (lv_at hl 3 rfl) ?_
        refine lv_aload_n hx hb dX1_aim_44 rfl (lv_at hl 1 rfl) ?_
        refine gf_39_3 hx hb ht hK hI mw_69 (fun _ h9 => h9) hown dX1_aim_45 ?_
        refine lv_iload hx hb dX1_aim_48 (lv_at hl 0 rfl) ?_
        refine lv_iconst (v := 1) hx hb dX1_aim_50 (by decide) ?_
        refine lv_iadd hx hb dX1_aim_51 ?_
        obtain ⟨g11, hm⟩ := gb_some hm
        refine ld_42 hx hb hK hI g11 (v := σ 42 (ix ((((σ 40 (ix u1)) + v3) * 5) + 1))) rfl dX1_aim_52 ?_
        obtain ⟨g12, hm⟩ := gb_some hm
        refine ld_44 hx hb hK hI g12 (v := σ 44 (ix (σ 42 (ix ((((σ 40 (ix u1)) + v3) * 5) + 1))))) rfl dX1_aim_53 ?_
        obtain ⟨g13, hm⟩ := gb_some hm
        refine sv_42 hx hb hK hI g13 dX1_aim_54 (fun H locs hI => ?_)
        refine lv_goto (tgt := 89) hx hb dX1_aim_55 (by decide) ?_
        refine lv_iinc (v := v3 + 1) (lv' := [(3, .int (v3 + 1)), (4, .int (((σ 40 (ix u1)) + v3) * 5)), (0, .ref (ga g 39)), (1, .int u1), (2, .ref (ga g 44))]) hx hb dX1_aim_89 hl (k := 4) rfl (congrArg (fun z => v3 + z) (show Int32.ofInt 1 = 1 by decide)) (by decide) rfl (fun ls hl => ?_)
        refine lv_goto (tgt := 2) hx hb dX1_aim_92 (by decide) ?_
        exact ih (sg σ 42 (ix ((((σ 40 (ix u1)) + v3) * 5) + 1)) (σ 44 (ix (σ 42 (ix ((((σ 40 (ix u1)) + v3) * 5) + 1)))))) (v3 + 1) _ _ _ hm hI (lv_sub hl [2, 3, 4, 0] rfl) hx95
set_option maxHeartbeats 4000000 in
set_option maxRecDepth 100000 in
theorem c_X1_aim_44 {l : Launch} {g : GG} {q : Nat} (N n : Nat) {σ : Sg} {p0 : Int32} {r : Int32} {σ' : Sg} (hm : f_X1_aim_44 N n σ p0 = some (r, σ')) : CTv l yX1_aim cX1_aim 5 none 0 0 g q n [.ref (ga g 39), .int p0, .ref (ga g 44)] σ σ' := by
  refine e_v (r := r) (by decide) (Nat.le_of_ble_eq_true rfl) ?_
  intro p e s m args below meth c A Q ls hC hl hI
  obtain ⟨hX, hK, hN, hZ, hA, hR⟩ := id hC
  have hx : p.tables.exec = Jvm.exec := hX.1
  have hb : c.code = cX1_aim := hX.2.1
  have hml : c.maxLocals = 5 := hX.2.2.1
  have hown : s.vm.findClass RX1 = some m.cls := hX.2.2.2.1
  have ht : ∀ w ∈ BIG, w.before args s = true := hX.2.2.2.2
  have hl : lv_has ls 5 [(0, .ref (ga g 39)), (1, .int p0), (2, .ref (ga g 44))] := hl
  unfold f_X1_aim_44 at hm
  refine lv_iconst (v := 0) hx hb dX1_aim_0 (by decide) ?_
  refine lv_istore_n (lv' := [(3, .int 0), (0, .ref (ga g 39)), (1, .int p0), (2, .ref (ga g 44))]) hx hb dX1_aim_1 rfl hl (by decide) rfl (fun ls hl => ?_)
  refine lp_X1_aim_44_2 hC N _ _ _ _ _ hm hI (lv_sub hl [1, 2, 3, 0] rfl) ?_
  intro σ14 w15 H locs ls hm hI hl
  exact hR _ _ _ _ _ hm hI dX1_aim_95
def lb_X10_writePlaces_2 (N n : Nat)  (K42 : (Sg → Int32 → Option (Int32 × Sg))) (rec : (Sg → Int32 → Option (Int32 × Sg))) (σ : Sg) (v1 : Int32) : Option (Int32 × Sg) := if (σ 13 6) ≤ v1 then (K42 σ v1) else (gb (σ 43 4) 12 (gb v1 300 (bd (f_X10_writePlace N n (sg σ 44 (ix v1) (σ 41 (ix (σ 43 4)))) v1) (fun r4 σ5 => rec σ5 (v1 + 1)))))
def lf_X10_writePlaces_2 (N n : Nat)  (K42 : (Sg → Int32 → Option (Int32 × Sg))) : Nat → (Sg → Int32 → Option (Int32 × Sg))
  | 0 => fun _ _ => none
  | k + 1 => lb_X10_writePlaces_2 N n  K42 (lf_X10_writePlaces_2 N n  K42 k)
def f_X10_writePlaces (N n : Nat) (σ : Sg)  : Option (Int32 × Sg) := lf_X10_writePlaces_2 N n  (fun σ7 w8 => bd (f_X1_aim_44 N n σ7 (σ7 43 4)) (fun r9 σ10 => some (0, σ10))) N σ 0
set_option maxHeartbeats 4000000 in
set_option maxRecDepth 100000 in
theorem lp_X10_writePlaces_2 {p : Program} {l : Launch} {e : Env} {s : State} {m : MethodId} {args : Array Value} {below : List Frame} {meth : Method} {c : Code} {Q : State → Prop} {A : Nat → Prop} {g : GG} {q N n : Nat} {out : Int32 × Sg}  {K42 : (Sg → Int32 → Option (Int32 × Sg))}
    (hC : CXv p l e (qR 4 96) s m args below meth c cX10_writePlaces 2 RX10 g q n A Q (some out)) :
    ∀ (k : Nat) (σ : Sg) (v1 : Int32) (H : Heap) (locs : List Loc) (ls : Array Slot), lf_X10_writePlaces_2 N n  K42 k σ v1 = some out → wI g q n σ A s.heap H locs → lv_has ls 2 [(0, .ref (ga g 43)), (1, .int v1)] → (∀ (σ : Sg) (v1 : Int32) (H : Heap) (locs : List Loc) (ls : Array Slot), K42 σ v1 = some out → wI g q n σ A s.heap H locs → lv_has ls 2 [(0, .ref (ga g 43))] → W p l e (qR 4 96) s m args below meth c H locs 0 0 Q (F0 m 42 ls [])) → W p l e (qR 4 96) s m args below meth c H locs 0 0 Q (F0 m 2 ls []) := by
  obtain ⟨hX, hK, hN, hZ, hA, hR⟩ := id hC
  have hx : p.tables.exec = Jvm.exec := hX.1
  have hb : c.code = cX10_writePlaces := hX.2.1
  have hml : c.maxLocals = 2 := hX.2.2.1
  have hown : s.vm.findClass RX10 = some m.cls := hX.2.2.2.1
  have ht : ∀ w ∈ BIG, w.before args s = true := hX.2.2.2.2
  intro k
  induction k with
  | zero =>
    intro σ v1 H locs ls hm
    have hm : none = some out := hm
    exact nomatch hm
  | succ k ih =>
    intro σ v1 H locs ls hm hI hl hx42
    have hm : lb_X10_writePlaces_2 N n  K42 (lf_X10_writePlaces_2 N n  K42 k) σ v1 = some out := hm
    unfold lb_X10_writePlaces_2 at hm
    refine lv_iload_n hx hb dX10_writePlaces_2 rfl (lv_at hl 1 rfl) ?_
    refine lv_aload_n hx hb dX10_writePlaces_3 rfl (lv_at hl 0 rfl) ?_
    refine gf_43_0 hx hb ht hK hI mw_478 (fun _ h9 => h9) hown dX10_writePlaces_4 ?_
    refine gf_13_6 hx hb ht hK hI (v := σ 13 6) rfl mw_536 (fun _ h9 => h9) hown dX10_writePlaces_7 ?_
    refine lv_icmp_ge (tgt := 42) hx hb dX10_writePlaces_10 (by decide) (fun c1 => ?_) (fun c1 => ?_)
    · have hm := (if_pos c1).symm.trans hm
      exact hx42 σ v1 _ _ _ hm hI (lv_sub hl [0] rfl)
    · have hm := (if_neg c1).symm.trans hm
      refine lv_aload_n hx hb dX10_writePlaces_13 rfl (lv_at hl 0 rfl) ?_
      refine gf_43_3 hx hb ht hK hI mw_477 (fun _ h9 => h9) hown dX10_writePlaces_14 ?_
      refine lv_iload_n hx hb dX10_writePlaces_17 rfl (lv_at hl 1 rfl) ?_
      refine lv_aload_n hx hb dX10_writePlaces_18 rfl (lv_at hl 0 rfl) ?_
      refine gf_43_2 hx hb ht hK hI mw_480 (fun _ h9 => h9) hown dX10_writePlaces_19 ?_
      refine gf_39_1 hx hb ht hK hI mw_605 (fun _ h9 => h9) hown dX10_writePlaces_22 ?_
      refine lv_aload_n hx hb dX10_writePlaces_25 rfl (lv_at hl 0 rfl) ?_
      refine gf_43_4 hx hb ht hK hI (v := σ 43 4) rfl mw_533 (fun _ h9 => h9) hown dX10_writePlaces_26 ?_
      obtain ⟨g2, hm⟩ := gb_some hm
      refine ld_41 hx hb hK hI g2 (v := σ 41 (ix (σ 43 4))) rfl dX10_writePlaces_29 ?_
      obtain ⟨g3, hm⟩ := gb_some hm
      refine sv_44 hx hb hK hI g3 dX10_writePlaces_30 (fun H locs hI => ?_)
      refine lv_aload_n hx hb dX10_writePlaces_31 rfl (lv_at hl 0 rfl) ?_
      refine lv_iload_n hx hb dX10_writePlaces_32 rfl (lv_at hl 1 rfl) ?_
      obtain ⟨r4, σ5, h6, hm⟩ := bd_some hm
      refine k_v hI hA (va_runV (As := [.int v1]) (rest := []) hX (c_X10_writePlace N n h6 _) (cwV 1 ht (in_V mw_606 mw_607 mw_608 mw_505 mw_604) rfl rfl rfl pd_X10_writePlace ⟨Nat.le_of_ble_eq_true rfl, Nat.le_of_ble_eq_true rfl⟩) ⟨q_blind, va_recv hK hI.1 (ci := 9) (q0 := 43) rfl rfl, q_to hI hK hN hZ hA⟩ rfl rfl hl.1 rfl (lv_room (Nat.le_of_ble_eq_true rfl)) dX10_writePlaces_33 (by decide)) (fun H locs hI => ?_)
      refine lv_iinc (v := v1 + 1) (lv' := [(1, .int (v1 + 1)), (0, .ref (ga g 43))]) hx hb dX10_writePlaces_36 hl (k := 1) rfl (congrArg (fun z => v1 + z) (show Int32.ofInt 1 = 1 by decide)) (by decide) rfl (fun ls hl => ?_)
      refine lv_goto (tgt := 2) hx hb dX10_writePlaces_39 (by decide) ?_
      exact ih σ5 (v1 + 1) _ _ _ hm hI (lv_sub hl [1, 0] rfl) hx42
set_option maxHeartbeats 4000000 in
set_option maxRecDepth 100000 in
theorem c_X10_writePlaces {l : Launch} {g : GG} {q : Nat} (N n : Nat) {σ : Sg}  {r : Int32} {σ' : Sg} (hm : f_X10_writePlaces N n σ  = some (r, σ')) : CTv l yX10_writePlaces cX10_writePlaces 2 none 4 96 g q n [.ref (ga g 43)] σ σ' := by
  refine e_v (r := r) (by decide) (Nat.le_of_ble_eq_true rfl) ?_
  intro p e s m args below meth c A Q ls hC hl hI
  obtain ⟨hX, hK, hN, hZ, hA, hR⟩ := id hC
  have hx : p.tables.exec = Jvm.exec := hX.1
  have hb : c.code = cX10_writePlaces := hX.2.1
  have hml : c.maxLocals = 2 := hX.2.2.1
  have hown : s.vm.findClass RX10 = some m.cls := hX.2.2.2.1
  have ht : ∀ w ∈ BIG, w.before args s = true := hX.2.2.2.2
  have hl : lv_has ls 2 [(0, .ref (ga g 43))] := hl
  unfold f_X10_writePlaces at hm
  refine lv_iconst (v := 0) hx hb dX10_writePlaces_0 (by decide) ?_
  refine lv_istore_n (lv' := [(1, .int 0), (0, .ref (ga g 43))]) hx hb dX10_writePlaces_1 rfl hl (by decide) rfl (fun ls hl => ?_)
  refine lp_X10_writePlaces_2 hC N _ _ _ _ _ hm hI (lv_sub hl [1, 0] rfl) ?_
  intro σ7 w8 H locs ls hm hI hl
  refine lv_aload_n hx hb dX10_writePlaces_42 rfl (lv_at hl 0 rfl) ?_
  refine gf_43_2 hx hb ht hK hI mw_480 (fun _ h9 => h9) hown dX10_writePlaces_43 ?_
  refine lv_aload_n hx hb dX10_writePlaces_46 rfl (lv_at hl 0 rfl) ?_
  refine gf_43_4 hx hb ht hK hI (v := σ7 43 4) rfl mw_533 (fun _ h9 => h9) hown dX10_writePlaces_47 ?_
  refine lv_aload_n hx hb dX10_writePlaces_50 rfl (lv_at hl 0 rfl) ?_
  refine gf_43_3 hx hb ht hK hI mw_477 (fun _ h9 => h9) hown dX10_writePlaces_51 ?_
  obtain ⟨r9, σ10, h11, hm⟩ := bd_some hm
  refine k_v hI hA (va_runV (As := [.int (σ7 43 4), .ref (ga g 44)]) (rest := []) hX (c_X1_aim_44 N n h11 _) (cwV 2 ht (in_V mw_609 mw_610 mw_611 mw_95 mw_97) rfl rfl rfl pd_X1_aim ⟨Nat.le_of_ble_eq_true rfl, Nat.le_of_ble_eq_true rfl⟩) ⟨q_blind, va_recv hK hI.1 (ci := 1) (q0 := 39) rfl rfl, q_to hI hK hN hZ hA⟩ rfl rfl hl.1 rfl (lv_room (Nat.le_of_ble_eq_true rfl)) dX10_writePlaces_54 (by decide)) (fun H locs hI => ?_)
  exact hR _ _ _ _ _ hm hI dX10_writePlaces_57
def f_X4_begin_X8 (N n : Nat) (σ : Sg)  : Option (Int32 × Sg) := some (0, sg (sg (sg (sg (sg σ 45 3 0) 45 4 0) 45 5 0) 45 6 0) 45 7 0)
set_option maxHeartbeats 4000000 in
set_option maxRecDepth 100000 in
theorem c_X4_begin_X8 {l : Launch} {g : GG} {q : Nat} (N n : Nat) {σ : Sg}  {r : Int32} {σ' : Sg} (hm : f_X4_begin_X8 N n σ  = some (r, σ')) : CTv l yX4_begin cX4_begin 1 none 0 0 g q n [.ref (ga g 45)] σ σ' := by
  refine e_v (r := r) (by decide) (Nat.le_of_ble_eq_true rfl) ?_
  intro p e s m args below meth c A Q ls hC hl hI
  obtain ⟨hX, hK, hN, hZ, hA, hR⟩ := id hC
  have hx : p.tables.exec = Jvm.exec := hX.1
  have hb : c.code = cX4_begin := hX.2.1
  have hml : c.maxLocals = 1 := hX.2.2.1
  have hown : s.vm.findClass RX4 = some m.cls := hX.2.2.2.1
  have ht : ∀ w ∈ BIG, w.before args s = true := hX.2.2.2.2
  have hl : lv_has ls 1 [(0, .ref (ga g 45))] := hl
  unfold f_X4_begin_X8 at hm
  refine lv_aload_n hx hb dX4_begin_0 rfl (lv_at hl 0 rfl) ?_
  refine lv_iconst (v := 0) hx hb dX4_begin_1 (by decide) ?_
  refine pf_45_3 hx hb ht hK hI mw_224 (fun _ h9 => h9) hown dX4_begin_2 (fun H locs hI => ?_)
  refine lv_aload_n hx hb dX4_begin_5 rfl (lv_at hl 0 rfl) ?_
  refine lv_iconst (v := 0) hx hb dX4_begin_6 (by decide) ?_
  refine pf_45_4 hx hb ht hK hI mw_225 (fun _ h9 => h9) hown dX4_begin_7 (fun H locs hI => ?_)
  refine lv_aload_n hx hb dX4_begin_10 rfl (lv_at hl 0 rfl) ?_
  refine lv_iconst (v := 0) hx hb dX4_begin_11 (by decide) ?_
  refine pf_45_5 hx hb ht hK hI mw_226 (fun _ h9 => h9) hown dX4_begin_12 (fun H locs hI => ?_)
  refine lv_aload_n hx hb dX4_begin_15 rfl (lv_at hl 0 rfl) ?_
  refine lv_iconst (v := 0) hx hb dX4_begin_16 (by decide) ?_
  refine pf_45_6 hx hb ht hK hI mw_227 (fun _ h9 => h9) hown dX4_begin_17 (fun H locs hI => ?_)
  refine lv_aload_n hx hb dX4_begin_20 rfl (lv_at hl 0 rfl) ?_
  refine lv_iconst (v := 0) hx hb dX4_begin_21 (by decide) ?_
  refine pf_45_7 hx hb ht hK hI mw_228 (fun _ h9 => h9) hown dX4_begin_22 (fun H locs hI => ?_)
  exact hR _ _ _ _ _ hm hI dX4_begin_25
def f_X8_begin (N n : Nat) (σ : Sg)  : Option (Int32 × Sg) := bd (f_X4_begin_X8 N n σ ) (fun r1 σ2 => some (0, sg σ2 45 12 0))
set_option maxHeartbeats 4000000 in
set_option maxRecDepth 100000 in
theorem c_X8_begin {l : Launch} {g : GG} {q : Nat} (N n : Nat) {σ : Sg}  {r : Int32} {σ' : Sg} (hm : f_X8_begin N n σ  = some (r, σ')) : CTv l yX8_begin cX8_begin 1 none 1 20 g q n [.ref (ga g 45)] σ σ' := by
  refine e_v (r := r) (by decide) (Nat.le_of_ble_eq_true rfl) ?_
  intro p e s m args below meth c A Q ls hC hl hI
  obtain ⟨hX, hK, hN, hZ, hA, hR⟩ := id hC
  have hx : p.tables.exec = Jvm.exec := hX.1
  have hb : c.code = cX8_begin := hX.2.1
  have hml : c.maxLocals = 1 := hX.2.2.1
  have hown : s.vm.findClass RX8 = some m.cls := hX.2.2.2.1
  have ht : ∀ w ∈ BIG, w.before args s = true := hX.2.2.2.2
  have hl : lv_has ls 1 [(0, .ref (ga g 45))] := hl
  unfold f_X8_begin at hm
  refine lv_aload_n hx hb dX8_begin_0 rfl (lv_at hl 0 rfl) ?_
  obtain ⟨r1, σ2, h3, hm⟩ := bd_some hm
  refine k_v hI hA (va_runSU (C := RX8) (hK.1 7 _ rfl).2 (As := []) (rest := []) hX (c_X4_begin_X8 N n h3 _) (va_cwSU 0 ht (in_SU mw_473 mw_467 mw_474 mw_469 mw_244 mw_223) rfl rfl rfl (by decide +kernel) ⟨Nat.le_of_ble_eq_true rfl, Nat.le_of_ble_eq_true rfl⟩) ⟨q_blind, va_recv hK hI.1 (ci := 7) (q0 := 45) rfl rfl, q_to hI hK hN hZ hA⟩ rfl rfl hl.1 rfl (lv_room (Nat.le_of_ble_eq_true rfl)) dX8_begin_1 (by decide)) (fun H locs hI => ?_)
  refine lv_aload_n hx hb dX8_begin_4 rfl (lv_at hl 0 rfl) ?_
  refine lv_iconst (v := 0) hx hb dX8_begin_5 (by decide) ?_
  refine pf_45_12 hx hb ht hK hI mw_236 (fun _ h9 => h9) hown dX8_begin_6 (fun H locs hI => ?_)
  exact hR _ _ _ _ _ hm hI dX8_begin_9
def f_X4_begin_X7 (N n : Nat) (σ : Sg)  : Option (Int32 × Sg) := some (0, sg (sg (sg (sg (sg σ 52 3 0) 52 4 0) 52 5 0) 52 6 0) 52 7 0)
set_option maxHeartbeats 4000000 in
set_option maxRecDepth 100000 in
theorem c_X4_begin_X7 {l : Launch} {g : GG} {q : Nat} (N n : Nat) {σ : Sg}  {r : Int32} {σ' : Sg} (hm : f_X4_begin_X7 N n σ  = some (r, σ')) : CTv l yX4_begin cX4_begin 1 none 0 0 g q n [.ref (ga g 52)] σ σ' := by
  refine e_v (r := r) (by decide) (Nat.le_of_ble_eq_true rfl) ?_
  intro p e s m args below meth c A Q ls hC hl hI
  obtain ⟨hX, hK, hN, hZ, hA, hR⟩ := id hC
  have hx : p.tables.exec = Jvm.exec := hX.1
  have hb : c.code = cX4_begin := hX.2.1
  have hml : c.maxLocals = 1 := hX.2.2.1
  have hown : s.vm.findClass RX4 = some m.cls := hX.2.2.2.1
  have ht : ∀ w ∈ BIG, w.before args s = true := hX.2.2.2.2
  have hl : lv_has ls 1 [(0, .ref (ga g 52))] := hl
  unfold f_X4_begin_X7 at hm
  refine lv_aload_n hx hb dX4_begin_0 rfl (lv_at hl 0 rfl) ?_
  refine lv_iconst (v := 0) hx hb dX4_begin_1 (by decide) ?_
  refine pf_52_3 hx hb ht hK hI mw_224 (fun _ h9 => h9) hown dX4_begin_2 (fun H locs hI => ?_)
  refine lv_aload_n hx hb dX4_begin_5 rfl (lv_at hl 0 rfl) ?_
  refine lv_iconst (v := 0) hx hb dX4_begin_6 (by decide) ?_
  refine pf_52_4 hx hb ht hK hI mw_225 (fun _ h9 => h9) hown dX4_begin_7 (fun H locs hI => ?_)
  refine lv_aload_n hx hb dX4_begin_10 rfl (lv_at hl 0 rfl) ?_
  refine lv_iconst (v := 0) hx hb dX4_begin_11 (by decide) ?_
  refine pf_52_5 hx hb ht hK hI mw_226 (fun _ h9 => h9) hown dX4_begin_12 (fun H locs hI => ?_)
  refine lv_aload_n hx hb dX4_begin_15 rfl (lv_at hl 0 rfl) ?_
  refine lv_iconst (v := 0) hx hb dX4_begin_16 (by decide) ?_
  refine pf_52_6 hx hb ht hK hI mw_227 (fun _ h9 => h9) hown dX4_begin_17 (fun H locs hI => ?_)
  refine lv_aload_n hx hb dX4_begin_20 rfl (lv_at hl 0 rfl) ?_
  refine lv_iconst (v := 0) hx hb dX4_begin_21 (by decide) ?_
  refine pf_52_7 hx hb ht hK hI mw_228 (fun _ h9 => h9) hown dX4_begin_22 (fun H locs hI => ?_)
  exact hR _ _ _ _ _ hm hI dX4_begin_25
def f_X7_begin (N n : Nat) (σ : Sg)  : Option (Int32 × Sg) := bd (f_X4_begin_X7 N n σ ) (fun r1 σ2 => bd (f_J7_fill_53178_58 N n (sg σ2 52 12 0) 0) (fun r4 σ5 => some (0, σ5)))
set_option maxHeartbeats 4000000 in
set_option maxRecDepth 100000 in
theorem c_X7_begin {l : Launch} {g : GG} {q : Nat} (N n : Nat) {σ : Sg}  {r : Int32} {σ' : Sg} (hm : f_X7_begin N n σ  = some (r, σ')) : CTv l yX7_begin cX7_begin 1 none 1 23 g q n [.ref (ga g 52)] σ σ' := by
  refine e_v (r := r) (by decide) (Nat.le_of_ble_eq_true rfl) ?_
  intro p e s m args below meth c A Q ls hC hl hI
  obtain ⟨hX, hK, hN, hZ, hA, hR⟩ := id hC
  have hx : p.tables.exec = Jvm.exec := hX.1
  have hb : c.code = cX7_begin := hX.2.1
  have hml : c.maxLocals = 1 := hX.2.2.1
  have hown : s.vm.findClass RX7 = some m.cls := hX.2.2.2.1
  have ht : ∀ w ∈ BIG, w.before args s = true := hX.2.2.2.2
  have hl : lv_has ls 1 [(0, .ref (ga g 52))] := hl
  unfold f_X7_begin at hm
  refine lv_aload_n hx hb dX7_begin_0 rfl (lv_at hl 0 rfl) ?_
  obtain ⟨r1, σ2, h3, hm⟩ := bd_some hm
  refine k_v hI hA (va_runSU (C := RX7) (hK.1 6 _ rfl).2 (As := []) (rest := []) hX (c_X4_begin_X7 N n h3 _) (va_cwSU 0 ht (in_SU mw_466 mw_467 mw_468 mw_469 mw_244 mw_223) rfl rfl rfl (by decide +kernel) ⟨Nat.le_of_ble_eq_true rfl, Nat.le_of_ble_eq_true rfl⟩) ⟨q_blind, va_recv hK hI.1 (ci := 6) (q0 := 52) rfl rfl, q_to hI hK hN hZ hA⟩ rfl rfl hl.1 rfl (lv_room (Nat.le_of_ble_eq_true rfl)) dX7_begin_1 (by decide)) (fun H locs hI => ?_)
  refine lv_aload_n hx hb dX7_begin_4 rfl (lv_at hl 0 rfl) ?_
  refine lv_iconst (v := 0) hx hb dX7_begin_5 (by decide) ?_
  refine pf_52_12 hx hb ht hK hI mw_277 (fun _ h9 => h9) hown dX7_begin_6 (fun H locs hI => ?_)
  refine lv_aload_n hx hb dX7_begin_9 rfl (lv_at hl 0 rfl) ?_
  refine gf_52_11 hx hb ht hK hI mw_302 (fun _ h9 => h9) hown dX7_begin_10 ?_
  refine lv_iconst (v := 0) hx hb dX7_begin_13 (by decide) ?_
  obtain ⟨r4, σ5, h6, hm⟩ := bd_some hm
  refine k_v hI hA (va_runS (As := [.ref (ga g 58), .int 0]) (rest := []) hX (c_J7_fill_53178_58 N n h6 _) (va_cwS 2 ht (in_S mw_470 mw_118 mw_88 mw_115) rfl rfl rfl pd_J7_fill_53178 ⟨Nat.le_of_ble_eq_true rfl, Nat.le_of_ble_eq_true rfl⟩) ⟨q_blind, q_to hI hK hN hZ hA⟩ rfl rfl hl.1 rfl (lv_room (Nat.le_of_ble_eq_true rfl)) dX7_begin_14 (by decide)) (fun H locs hI => ?_)
  exact hR _ _ _ _ _ hm hI dX7_begin_17
def f_X11_beginMachines (N n : Nat) (σ : Sg)  : Option (Int32 × Sg) := bd (f_X8_begin N n σ ) (fun r1 σ2 => bd (f_X7_begin N n σ2 ) (fun r4 σ5 => some (0, σ5)))
set_option maxHeartbeats 4000000 in
set_option maxRecDepth 100000 in
theorem c_X11_beginMachines {l : Launch} {g : GG} {q : Nat} (N n : Nat) {σ : Sg}  {r : Int32} {σ' : Sg} (hm : f_X11_beginMachines N n σ  = some (r, σ')) : CTv l yX11_beginMachines cX11_beginMachines 1 none 2 43 g q n [.ref (ga g 0)] σ σ' := by
  refine e_v (r := r) (by decide) (Nat.le_of_ble_eq_true rfl) ?_
  intro p e s m args below meth c A Q ls hC hl hI
  obtain ⟨hX, hK, hN, hZ, hA, hR⟩ := id hC
  have hx : p.tables.exec = Jvm.exec := hX.1
  have hb : c.code = cX11_beginMachines := hX.2.1
  have hml : c.maxLocals = 1 := hX.2.2.1
  have hown : s.vm.findClass RX11 = some m.cls := hX.2.2.2.1
  have ht : ∀ w ∈ BIG, w.before args s = true := hX.2.2.2.2
  have hl : lv_has ls 1 [(0, .ref (ga g 0))] := hl
  unfold f_X11_beginMachines at hm
  refine lv_aload_n hx hb dX11_beginMachines_0 rfl (lv_at hl 0 rfl) ?_
  refine gf_0_3 hx hb ht hK hI mw_649 (fun _ h9 => h9) hown dX11_beginMachines_1 ?_
  obtain ⟨r1, σ2, h3, hm⟩ := bd_some hm
  refine k_v hI hA (va_runU (As := []) (rest := []) hX (c_X8_begin N n h3 _) (va_cwO 0 ht (in_O mw_689 mw_467 mw_469 mw_692 mw_693 mw_253 mw_472) rfl rfl rfl (b0 := cX4_begin) (m0 := 1) (r0 := none) mw_223 (by decide +kernel) ⟨Nat.le_of_ble_eq_true rfl, Nat.le_of_ble_eq_true rfl⟩) ⟨q_blind, va_recv hK hI.1 (ci := 7) (q0 := 45) rfl rfl, q_to hI hK hN hZ hA⟩ rfl rfl hl.1 rfl (lv_room (Nat.le_of_ble_eq_true rfl)) dX11_beginMachines_4 (by decide)) (fun H locs hI => ?_)
  refine lv_aload_n hx hb dX11_beginMachines_7 rfl (lv_at hl 0 rfl) ?_
  refine gf_0_4 hx hb ht hK hI mw_653 (fun _ h9 => h9) hown dX11_beginMachines_8 ?_
  obtain ⟨r4, σ5, h6, hm⟩ := bd_some hm
  refine k_v hI hA (va_runU (As := []) (rest := []) hX (c_X7_begin N n h6 _) (va_cwO 0 ht (in_O mw_689 mw_467 mw_469 mw_690 mw_691 mw_250 mw_465) rfl rfl rfl (b0 := cX4_begin) (m0 := 1) (r0 := none) mw_223 (by decide +kernel) ⟨Nat.le_of_ble_eq_true rfl, Nat.le_of_ble_eq_true rfl⟩) ⟨q_blind, va_recv hK hI.1 (ci := 6) (q0 := 52) rfl rfl, q_to hI hK hN hZ hA⟩ rfl rfl hl.1 rfl (lv_room (Nat.le_of_ble_eq_true rfl)) dX11_beginMachines_11 (by decide)) (fun H locs hI => ?_)
  exact hR _ _ _ _ _ hm hI dX11_beginMachines_14
def f_X11_again (N n : Nat) (σ : Sg)  : Option (Int32 × Sg) := if (σ 1 9) = 0 then (some (0, σ)) else (bd (f_X11_beginMachines N n σ ) (fun r2 σ3 => some (1, σ3)))
set_option maxHeartbeats 4000000 in
set_option maxRecDepth 100000 in
theorem c_X11_again {l : Launch} {g : GG} {q : Nat} (N n : Nat) {σ : Sg}  {r : Int32} {σ' : Sg} (hm : f_X11_again N n σ  = some (r, σ')) : CTi l yX11_again cX11_again 1 (some .boolean) 3 63 g q n [.ref (ga g 0)] σ r σ' := by
  refine e_z (r := r) (by decide) (Nat.le_of_ble_eq_true rfl) ?_
  intro p e s m args below meth c A Q ls hC hl hI
  obtain ⟨hX, hK, hN, hZ, hA, hR⟩ := id hC
  have hx : p.tables.exec = Jvm.exec := hX.1
  have hb : c.code = cX11_again := hX.2.1
  have hml : c.maxLocals = 1 := hX.2.2.1
  have hown : s.vm.findClass RX11 = some m.cls := hX.2.2.2.1
  have ht : ∀ w ∈ BIG, w.before args s = true := hX.2.2.2.2
  have hl : lv_has ls 1 [(0, .ref (ga g 0))] := hl
  unfold f_X11_again at hm
  refine lv_aload_n hx hb dX11_again_0 rfl (lv_at hl 0 rfl) ?_
  refine gf_0_0 hx hb ht hK hI mw_640 (fun _ h9 => h9) hown dX11_again_1 ?_
  refine gf_1_9 hx hb ht hK hI (v := σ 1 9) rfl mw_670 (fun _ h9 => h9) hown dX11_again_4 ?_
  refine lv_if_ne (tgt := 12) hx hb dX11_again_7 (by decide) (fun c1 => ?_) (fun c1 => ?_)
  · have hm := (if_neg c1).symm.trans hm
    refine lv_aload_n hx hb dX11_again_12 rfl (lv_at hl 0 rfl) ?_
    obtain ⟨r2, σ3, h4, hm⟩ := bd_some hm
    refine k_v hI hA (va_runV (As := []) (rest := []) hX (c_X11_beginMachines N n h4 _) (cwV 0 ht (in_V mw_700 mw_701 mw_702 mw_267 mw_694) rfl rfl rfl pd_X11_beginMachines ⟨Nat.le_of_ble_eq_true rfl, Nat.le_of_ble_eq_true rfl⟩) ⟨q_blind, va_recv hK hI.1 (ci := 10) (q0 := 0) rfl rfl, q_to hI hK hN hZ hA⟩ rfl rfl hl.1 rfl (lv_room (Nat.le_of_ble_eq_true rfl)) dX11_again_13 (by decide)) (fun H locs hI => ?_)
    refine lv_iconst (v := 1) hx hb dX11_again_16 (by decide) ?_
    exact hR _ _ _ _ _ _ hm hI (by decide) dX11_again_17
  · have hm := (if_pos c1).symm.trans hm
    refine lv_iconst (v := 0) hx hb dX11_again_10 (by decide) ?_
    exact hR _ _ _ _ _ _ hm hI (by decide) dX11_again_11
def f_X11_cell (N n : Nat) (σ : Sg) (p0 : Int32) (p1 : Int32) : Option (Int32 × Sg) := if p0 < 0 then (some (0, σ)) else (if p0 < 64 then (gb p0 64 (gb p0 64 (some (1, sg (sg σ 46 (ix p0) p1) 53 (ix p0) p1)))) else (some (0, σ)))
set_option maxHeartbeats 4000000 in
set_option maxRecDepth 100000 in
theorem c_X11_cell {l : Launch} {g : GG} {q : Nat} (N n : Nat) {σ : Sg} {p0 : Int32} {p1 : Int32} {r : Int32} {σ' : Sg} (hm : f_X11_cell N n σ p0 p1 = some (r, σ')) : CTi l yX11_cell cX11_cell 3 (some .boolean) 0 0 g q n [.ref (ga g 0), .int p0, .int p1] σ r σ' := by
  refine e_z (r := r) (by decide) (Nat.le_of_ble_eq_true rfl) ?_
  intro p e s m args below meth c A Q ls hC hl hI
  obtain ⟨hX, hK, hN, hZ, hA, hR⟩ := id hC
  have hx : p.tables.exec = Jvm.exec := hX.1
  have hb : c.code = cX11_cell := hX.2.1
  have hml : c.maxLocals = 3 := hX.2.2.1
  have hown : s.vm.findClass RX11 = some m.cls := hX.2.2.2.1
  have ht : ∀ w ∈ BIG, w.before args s = true := hX.2.2.2.2
  have hl : lv_has ls 3 [(0, .ref (ga g 0)), (1, .int p0), (2, .int p1)] := hl
  unfold f_X11_cell at hm
  refine lv_iload_n hx hb dX11_cell_0 rfl (lv_at hl 1 rfl) ?_
  refine lv_if_lt (tgt := 10) hx hb dX11_cell_1 (by decide) (fun c1 => ?_) (fun c1 => ?_)
  · have hm := (if_pos c1).symm.trans hm
    refine lv_iconst (v := 0) hx hb dX11_cell_10 (by decide) ?_
    exact hR _ _ _ _ _ _ hm hI (by decide) dX11_cell_11
  · have hm := (if_neg c1).symm.trans hm
    refine lv_iload_n hx hb dX11_cell_4 rfl (lv_at hl 1 rfl) ?_
    refine lv_bipush (v := 64) hx hb dX11_cell_5 (by decide) ?_
    refine lv_icmp_lt (tgt := 12) hx hb dX11_cell_7 (by decide) (fun c2 => ?_) (fun c2 => ?_)
    · have hm := (if_pos c2).symm.trans hm
      refine lv_aload_n hx hb dX11_cell_12 rfl (lv_at hl 0 rfl) ?_
      refine gf_0_3 hx hb ht hK hI mw_649 (fun _ h9 => h9) hown dX11_cell_13 ?_
      refine gf_45_0 hx hb ht hK hI mw_696 (fun _ h9 => h9) hown dX11_cell_16 ?_
      refine lv_iload_n hx hb dX11_cell_19 rfl (lv_at hl 1 rfl) ?_
      refine lv_iload_n hx hb dX11_cell_20 rfl (lv_at hl 2 rfl) ?_
      obtain ⟨g3, hm⟩ := gb_some hm
      refine sv_46 hx hb hK hI g3 dX11_cell_21 (fun H locs hI => ?_)
      refine lv_aload_n hx hb dX11_cell_22 rfl (lv_at hl 0 rfl) ?_
      refine gf_0_4 hx hb ht hK hI mw_653 (fun _ h9 => h9) hown dX11_cell_23 ?_
      refine gf_52_0 hx hb ht hK hI mw_696 (fun _ h9 => h9) hown dX11_cell_26 ?_
      refine lv_iload_n hx hb dX11_cell_29 rfl (lv_at hl 1 rfl) ?_
      refine lv_iload_n hx hb dX11_cell_30 rfl (lv_at hl 2 rfl) ?_
      obtain ⟨g4, hm⟩ := gb_some hm
      refine sv_53 hx hb hK hI g4 dX11_cell_31 (fun H locs hI => ?_)
      refine lv_iconst (v := 1) hx hb dX11_cell_32 (by decide) ?_
      exact hR _ _ _ _ _ _ hm hI (by decide) dX11_cell_33
    · have hm := (if_neg c2).symm.trans hm
      refine lv_iconst (v := 0) hx hb dX11_cell_10 (by decide) ?_
      exact hR _ _ _ _ _ _ hm hI (by decide) dX11_cell_11
def f_X11_check (N n : Nat) (σ : Sg)  : Option (Int32 × Sg) := if (σ 1 9) = 0 then (bd (f_X0_firstFault N n σ ) (fun r2 σ3 => if r2 = 0 then (some (r2, sg σ3 1 9 1)) else (some (r2, sg σ3 1 9 0)))) else (some (0, σ))
set_option maxHeartbeats 4000000 in
set_option maxRecDepth 100000 in
theorem c_X11_check {l : Launch} {g : GG} {q : Nat} (N n : Nat) {σ : Sg}  {r : Int32} {σ' : Sg} (hm : f_X11_check N n σ  = some (r, σ')) : CTi l yX11_check cX11_check 2 (some .int) 5 119 g q n [.ref (ga g 0)] σ r σ' := by
  refine e_i (r := r) (by decide) (Nat.le_of_ble_eq_true rfl) ?_
  intro p e s m args below meth c A Q ls hC hl hI
  obtain ⟨hX, hK, hN, hZ, hA, hR⟩ := id hC
  have hx : p.tables.exec = Jvm.exec := hX.1
  have hb : c.code = cX11_check := hX.2.1
  have hml : c.maxLocals = 2 := hX.2.2.1
  have hown : s.vm.findClass RX11 = some m.cls := hX.2.2.2.1
  have ht : ∀ w ∈ BIG, w.before args s = true := hX.2.2.2.2
  have hl : lv_has ls 2 [(0, .ref (ga g 0))] := hl
  unfold f_X11_check at hm
  refine lv_aload_n hx hb dX11_check_0 rfl (lv_at hl 0 rfl) ?_
  refine gf_0_0 hx hb ht hK hI mw_640 (fun _ h9 => h9) hown dX11_check_1 ?_
  refine gf_1_9 hx hb ht hK hI (v := σ 1 9) rfl mw_670 (fun _ h9 => h9) hown dX11_check_4 ?_
  refine lv_if_eq (tgt := 12) hx hb dX11_check_7 (by decide) (fun c1 => ?_) (fun c1 => ?_)
  · have hm := (if_pos c1).symm.trans hm
    refine lv_aload_n hx hb dX11_check_12 rfl (lv_at hl 0 rfl) ?_
    refine gf_0_1 hx hb ht hK hI mw_643 (fun _ h9 => h9) hown dX11_check_13 ?_
    obtain ⟨r2, σ3, h4, hm⟩ := bd_some hm
    refine k_i hI hA (va_runV (As := []) (rest := []) hX (c_X0_firstFault N n h4 _) (cwV 0 ht (in_V mw_680 mw_681 mw_682 mw_44 mw_63) rfl rfl rfl pd_X0_firstFault ⟨Nat.le_of_ble_eq_true rfl, Nat.le_of_ble_eq_true rfl⟩) ⟨q_blind, va_recv hK hI.1 (ci := 0) (q0 := 9) rfl rfl, q_to hI hK hN hZ hA⟩ rfl rfl hl.1 rfl (lv_room (Nat.le_of_ble_eq_true rfl)) dX11_check_16 (by decide)) (fun H locs hI => ?_)
    refine lv_istore_n (lv' := [(1, .int r2), (0, .ref (ga g 0))]) hx hb dX11_check_19 rfl hl (by decide) rfl (fun ls hl => ?_)
    refine lv_aload_n hx hb dX11_check_20 rfl (lv_at hl 1 rfl) ?_
    refine gf_0_0 hx hb ht hK hI mw_640 (fun _ h9 => h9) hown dX11_check_21 ?_
    refine lv_iload_n hx hb dX11_check_24 rfl (lv_at hl 0 rfl) ?_
    refine lv_if_ne (tgt := 32) hx hb dX11_check_25 (by decide) (fun c5 => ?_) (fun c5 => ?_)
    · have hm := (if_neg c5).symm.trans hm
      refine lv_iconst (v := 0) hx hb dX11_check_32 (by decide) ?_
      refine pf_1_9 hx hb ht hK hI mw_670 (fun _ h9 => h9) (by decide) (by decide) hown dX11_check_33 (fun H locs hI => ?_)
      refine lv_iload_n hx hb dX11_check_36 rfl (lv_at hl 0 rfl) ?_
      exact hR _ _ _ _ _ _ hm hI dX11_check_37
    · have hm := (if_pos c5).symm.trans hm
      refine lv_iconst (v := 1) hx hb dX11_check_28 (by decide) ?_
      refine lv_goto (tgt := 33) hx hb dX11_check_29 (by decide) ?_
      refine pf_1_9 hx hb ht hK hI mw_670 (fun _ h9 => h9) (by decide) (by decide) hown dX11_check_33 (fun H locs hI => ?_)
      refine lv_iload_n hx hb dX11_check_36 rfl (lv_at hl 0 rfl) ?_
      exact hR _ _ _ _ _ _ hm hI dX11_check_37
  · have hm := (if_neg c1).symm.trans hm
    refine lv_iconst (v := 0) hx hb dX11_check_10 (by decide) ?_
    exact hR _ _ _ _ _ _ hm hI dX11_check_11
def f_X6_empty (N n : Nat) (σ : Sg)  : Option (Int32 × Sg) := some (0, sg (sg (sg σ 1 7 0) 1 8 0) 1 9 0)
set_option maxHeartbeats 4000000 in
set_option maxRecDepth 100000 in
theorem c_X6_empty {l : Launch} {g : GG} {q : Nat} (N n : Nat) {σ : Sg}  {r : Int32} {σ' : Sg} (hm : f_X6_empty N n σ  = some (r, σ')) : CTv l yX6_empty cX6_empty 1 none 0 0 g q n [.ref (ga g 1)] σ σ' := by
  refine e_v (r := r) (by decide) (Nat.le_of_ble_eq_true rfl) ?_
  intro p e s m args below meth c A Q ls hC hl hI
  obtain ⟨hX, hK, hN, hZ, hA, hR⟩ := id hC
  have hx : p.tables.exec = Jvm.exec := hX.1
  have hb : c.code = cX6_empty := hX.2.1
  have hml : c.maxLocals = 1 := hX.2.2.1
  have hown : s.vm.findClass RX6 = some m.cls := hX.2.2.2.1
  have ht : ∀ w ∈ BIG, w.before args s = true := hX.2.2.2.2
  have hl : lv_has ls 1 [(0, .ref (ga g 1))] := hl
  unfold f_X6_empty at hm
  refine lv_aload_n hx hb dX6_empty_0 rfl (lv_at hl 0 rfl) ?_
  refine lv_iconst (v := 0) hx hb dX6_empty_1 (by decide) ?_
  refine pf_1_7 hx hb ht hK hI mw_24 (fun _ h9 => h9) hown dX6_empty_2 (fun H locs hI => ?_)
  refine lv_aload_n hx hb dX6_empty_5 rfl (lv_at hl 0 rfl) ?_
  refine lv_iconst (v := 0) hx hb dX6_empty_6 (by decide) ?_
  refine pf_1_8 hx hb ht hK hI mw_459 (fun _ h9 => h9) hown dX6_empty_7 (fun H locs hI => ?_)
  refine lv_aload_n hx hb dX6_empty_10 rfl (lv_at hl 0 rfl) ?_
  refine lv_iconst (v := 0) hx hb dX6_empty_11 (by decide) ?_
  refine pf_1_9 hx hb ht hK hI mw_462 (fun _ h9 => h9) (by decide) (by decide) hown dX6_empty_12 (fun H locs hI => ?_)
  exact hR _ _ _ _ _ hm hI dX6_empty_15
def f_X11_clear (N n : Nat) (σ : Sg)  : Option (Int32 × Sg) := bd (f_X6_empty N n σ ) (fun r1 σ2 => bd (f_X11_beginMachines N n (sg σ2 11 7 0) ) (fun r4 σ5 => bd (f_J7_fill_53178_46 N n σ5 0) (fun r7 σ8 => bd (f_J7_fill_53178_53 N n σ8 0) (fun r10 σ11 => some (0, σ11)))))
set_option maxHeartbeats 4000000 in
set_option maxRecDepth 100000 in
theorem c_X11_clear {l : Launch} {g : GG} {q : Nat} (N n : Nat) {σ : Sg}  {r : Int32} {σ' : Sg} (hm : f_X11_clear N n σ  = some (r, σ')) : CTv l yX11_clear cX11_clear 1 none 3 63 g q n [.ref (ga g 0)] σ σ' := by
  refine e_v (r := r) (by decide) (Nat.le_of_ble_eq_true rfl) ?_
  intro p e s m args below meth c A Q ls hC hl hI
  obtain ⟨hX, hK, hN, hZ, hA, hR⟩ := id hC
  have hx : p.tables.exec = Jvm.exec := hX.1
  have hb : c.code = cX11_clear := hX.2.1
  have hml : c.maxLocals = 1 := hX.2.2.1
  have hown : s.vm.findClass RX11 = some m.cls := hX.2.2.2.1
  have ht : ∀ w ∈ BIG, w.before args s = true := hX.2.2.2.2
  have hl : lv_has ls 1 [(0, .ref (ga g 0))] := hl
  unfold f_X11_clear at hm
  refine lv_aload_n hx hb dX11_clear_0 rfl (lv_at hl 0 rfl) ?_
  refine gf_0_0 hx hb ht hK hI mw_640 (fun _ h9 => h9) hown dX11_clear_1 ?_
  obtain ⟨r1, σ2, h3, hm⟩ := bd_some hm
  refine k_v hI hA (va_runV (As := []) (rest := []) hX (c_X6_empty N n h3 _) (cwV 0 ht (in_V mw_697 mw_698 mw_699 mw_31 mw_461) rfl rfl rfl pd_X6_empty ⟨Nat.le_of_ble_eq_true rfl, Nat.le_of_ble_eq_true rfl⟩) ⟨q_blind, va_recv hK hI.1 (ci := 5) (q0 := 1) rfl rfl, q_to hI hK hN hZ hA⟩ rfl rfl hl.1 rfl (lv_room (Nat.le_of_ble_eq_true rfl)) dX11_clear_4 (by decide)) (fun H locs hI => ?_)
  refine lv_aload_n hx hb dX11_clear_7 rfl (lv_at hl 0 rfl) ?_
  refine gf_0_2 hx hb ht hK hI mw_646 (fun _ h9 => h9) hown dX11_clear_8 ?_
  refine lv_iconst (v := 0) hx hb dX11_clear_11 (by decide) ?_
  refine pf_11_7 hx hb ht hK hI mw_695 (fun _ h9 => h9) hown dX11_clear_12 (fun H locs hI => ?_)
  refine lv_aload_n hx hb dX11_clear_15 rfl (lv_at hl 0 rfl) ?_
  obtain ⟨r4, σ5, h6, hm⟩ := bd_some hm
  refine k_v hI hA (va_runV (As := []) (rest := []) hX (c_X11_beginMachines N n h6 _) (cwV 0 ht (in_V mw_700 mw_701 mw_702 mw_267 mw_694) rfl rfl rfl pd_X11_beginMachines ⟨Nat.le_of_ble_eq_true rfl, Nat.le_of_ble_eq_true rfl⟩) ⟨q_blind, va_recv hK hI.1 (ci := 10) (q0 := 0) rfl rfl, q_to hI hK hN hZ hA⟩ rfl rfl hl.1 rfl (lv_room (Nat.le_of_ble_eq_true rfl)) dX11_clear_16 (by decide)) (fun H locs hI => ?_)
  refine lv_aload_n hx hb dX11_clear_19 rfl (lv_at hl 0 rfl) ?_
  refine gf_0_3 hx hb ht hK hI mw_649 (fun _ h9 => h9) hown dX11_clear_20 ?_
  refine gf_45_0 hx hb ht hK hI mw_696 (fun _ h9 => h9) hown dX11_clear_23 ?_
  refine lv_iconst (v := 0) hx hb dX11_clear_26 (by decide) ?_
  obtain ⟨r7, σ8, h9, hm⟩ := bd_some hm
  refine k_v hI hA (va_runS (As := [.ref (ga g 46), .int 0]) (rest := []) hX (c_J7_fill_53178_46 N n h9 _) (va_cwS 2 ht (in_S mw_703 mw_118 mw_88 mw_115) rfl rfl rfl pd_J7_fill_53178 ⟨Nat.le_of_ble_eq_true rfl, Nat.le_of_ble_eq_true rfl⟩) ⟨q_blind, q_to hI hK hN hZ hA⟩ rfl rfl hl.1 rfl (lv_room (Nat.le_of_ble_eq_true rfl)) dX11_clear_27 (by decide)) (fun H locs hI => ?_)
  refine lv_aload_n hx hb dX11_clear_30 rfl (lv_at hl 0 rfl) ?_
  refine gf_0_4 hx hb ht hK hI mw_653 (fun _ h9 => h9) hown dX11_clear_31 ?_
  refine gf_52_0 hx hb ht hK hI mw_696 (fun _ h9 => h9) hown dX11_clear_34 ?_
  refine lv_iconst (v := 0) hx hb dX11_clear_37 (by decide) ?_
  obtain ⟨r10, σ11, h12, hm⟩ := bd_some hm
  refine k_v hI hA (va_runS (As := [.ref (ga g 53), .int 0]) (rest := []) hX (c_J7_fill_53178_53 N n h12 _) (va_cwS 2 ht (in_S mw_703 mw_118 mw_88 mw_115) rfl rfl rfl pd_J7_fill_53178 ⟨Nat.le_of_ble_eq_true rfl, Nat.le_of_ble_eq_true rfl⟩) ⟨q_blind, q_to hI hK hN hZ hA⟩ rfl rfl hl.1 rfl (lv_room (Nat.le_of_ble_eq_true rfl)) dX11_clear_38 (by decide)) (fun H locs hI => ?_)
  exact hR _ _ _ _ _ hm hI dX11_clear_41
def f_X11_count (N n : Nat) (σ : Sg) (p0 : Int32) : Option (Int32 × Sg) := if p0 = 0 then (some (σ 1 7, σ)) else (if p0 = 1 then (some (σ 1 8, σ)) else (if p0 = 2 then (if (σ 1 9) = 0 then (some (0, σ)) else (some (1, σ))) else (if p0 = 3 then (some (σ 11 7, σ)) else (if p0 = 4 then (if (σ 11 7) = 0 then (some (0, σ)) else (some (σ 39 2, σ))) else (some ((-1), σ))))))
set_option maxHeartbeats 4000000 in
set_option maxRecDepth 100000 in
theorem c_X11_count {l : Launch} {g : GG} {q : Nat} (N n : Nat) {σ : Sg} {p0 : Int32} {r : Int32} {σ' : Sg} (hm : f_X11_count N n σ p0 = some (r, σ')) : CTi l yX11_count cX11_count 2 (some .int) 0 0 g q n [.ref (ga g 0), .int p0] σ r σ' := by
  refine e_i (r := r) (by decide) (Nat.le_of_ble_eq_true rfl) ?_
  intro p e s m args below meth c A Q ls hC hl hI
  obtain ⟨hX, hK, hN, hZ, hA, hR⟩ := id hC
  have hx : p.tables.exec = Jvm.exec := hX.1
  have hb : c.code = cX11_count := hX.2.1
  have hml : c.maxLocals = 2 := hX.2.2.1
  have hown : s.vm.findClass RX11 = some m.cls := hX.2.2.2.1
  have ht : ∀ w ∈ BIG, w.before args s = true := hX.2.2.2.2
  have hl : lv_has ls 2 [(0, .ref (ga g 0)), (1, .int p0)] := hl
  unfold f_X11_count at hm
  refine lv_iload_n hx hb dX11_count_0 rfl (lv_at hl 1 rfl) ?_
  by_cases c1 : p0 = 0
  · have hm := (if_pos c1).symm.trans hm
    refine lv_tableIn (off := 35) (tgt := 36) hx hb dX11_count_1 (by (rw [c1]; decide)) (by (rw [c1]; decide)) (by (rw [c1]; rfl)) (by decide) ?_
    refine lv_aload_n hx hb dX11_count_36 rfl (lv_at hl 0 rfl) ?_
    refine gf_0_0 hx hb ht hK hI mw_640 (fun _ h9 => h9) hown dX11_count_37 ?_
    refine gf_1_7 hx hb ht hK hI (v := σ 1 7) rfl mw_671 (fun _ h9 => h9) hown dX11_count_40 ?_
    exact hR _ _ _ _ _ _ hm hI dX11_count_43
  have hm := (if_neg c1).symm.trans hm
  by_cases c2 : p0 = 1
  · have hm := (if_pos c2).symm.trans hm
    refine lv_tableIn (off := 43) (tgt := 44) hx hb dX11_count_1 (by (rw [c2]; decide)) (by (rw [c2]; decide)) (by (rw [c2]; rfl)) (by decide) ?_
    refine lv_aload_n hx hb dX11_count_44 rfl (lv_at hl 0 rfl) ?_
    refine gf_0_0 hx hb ht hK hI mw_640 (fun _ h9 => h9) hown dX11_count_45 ?_
    refine gf_1_8 hx hb ht hK hI (v := σ 1 8) rfl mw_676 (fun _ h9 => h9) hown dX11_count_48 ?_
    exact hR _ _ _ _ _ _ hm hI dX11_count_51
  have hm := (if_neg c2).symm.trans hm
  by_cases c3 : p0 = 2
  · have hm := (if_pos c3).symm.trans hm
    refine lv_tableIn (off := 51) (tgt := 52) hx hb dX11_count_1 (by (rw [c3]; decide)) (by (rw [c3]; decide)) (by (rw [c3]; rfl)) (by decide) ?_
    refine lv_aload_n hx hb dX11_count_52 rfl (lv_at hl 0 rfl) ?_
    refine gf_0_0 hx hb ht hK hI mw_640 (fun _ h9 => h9) hown dX11_count_53 ?_
    refine gf_1_9 hx hb ht hK hI (v := σ 1 9) rfl mw_670 (fun _ h9 => h9) hown dX11_count_56 ?_
    refine lv_if_eq (tgt := 66) hx hb dX11_count_59 (by decide) (fun c4 => ?_) (fun c4 => ?_)
    · have hm := (if_pos c4).symm.trans hm
      refine lv_iconst (v := 0) hx hb dX11_count_66 (by decide) ?_
      exact hR _ _ _ _ _ _ hm hI dX11_count_67
    · have hm := (if_neg c4).symm.trans hm
      refine lv_iconst (v := 1) hx hb dX11_count_62 (by decide) ?_
      refine lv_goto (tgt := 67) hx hb dX11_count_63 (by decide) ?_
      exact hR _ _ _ _ _ _ hm hI dX11_count_67
  have hm := (if_neg c3).symm.trans hm
  by_cases c5 : p0 = 3
  · have hm := (if_pos c5).symm.trans hm
    refine lv_tableIn (off := 67) (tgt := 68) hx hb dX11_count_1 (by (rw [c5]; decide)) (by (rw [c5]; decide)) (by (rw [c5]; rfl)) (by decide) ?_
    refine lv_aload_n hx hb dX11_count_68 rfl (lv_at hl 0 rfl) ?_
    refine gf_0_2 hx hb ht hK hI mw_646 (fun _ h9 => h9) hown dX11_count_69 ?_
    refine gf_11_7 hx hb ht hK hI (v := σ 11 7) rfl mw_695 (fun _ h9 => h9) hown dX11_count_72 ?_
    exact hR _ _ _ _ _ _ hm hI dX11_count_75
  have hm := (if_neg c5).symm.trans hm
  by_cases c6 : p0 = 4
  · have hm := (if_pos c6).symm.trans hm
    refine lv_tableIn (off := 75) (tgt := 76) hx hb dX11_count_1 (by (rw [c6]; decide)) (by (rw [c6]; decide)) (by (rw [c6]; rfl)) (by decide) ?_
    refine lv_aload_n hx hb dX11_count_76 rfl (lv_at hl 0 rfl) ?_
    refine gf_0_2 hx hb ht hK hI mw_646 (fun _ h9 => h9) hown dX11_count_77 ?_
    refine gf_11_7 hx hb ht hK hI (v := σ 11 7) rfl mw_695 (fun _ h9 => h9) hown dX11_count_80 ?_
    refine lv_if_ne (tgt := 90) hx hb dX11_count_83 (by decide) (fun c7 => ?_) (fun c7 => ?_)
    · have hm := (if_neg c7).symm.trans hm
      refine lv_aload_n hx hb dX11_count_90 rfl (lv_at hl 0 rfl) ?_
      refine gf_0_2 hx hb ht hK hI mw_646 (fun _ h9 => h9) hown dX11_count_91 ?_
      refine gf_11_4 hx hb ht hK hI mw_652 (fun _ h9 => h9) hown dX11_count_94 ?_
      refine gf_39_2 hx hb ht hK hI (v := σ 39 2) rfl mw_705 (fun _ h9 => h9) hown dX11_count_97 ?_
      exact hR _ _ _ _ _ _ hm hI dX11_count_100
    · have hm := (if_pos c7).symm.trans hm
      refine lv_iconst (v := 0) hx hb dX11_count_86 (by decide) ?_
      refine lv_goto (tgt := 100) hx hb dX11_count_87 (by decide) ?_
      exact hR _ _ _ _ _ _ hm hI dX11_count_100
  have hm := (if_neg c6).symm.trans hm
  refine sw_d (tgt := 101) hx hb [0, 1, 2, 3, 4] dX11_count_1 (by decide) (by decide) (ne_c (lv_neT c1 (by decide)) (ne_c (lv_neT c2 (by decide)) (ne_c (lv_neT c3 (by decide)) (ne_c (lv_neT c5 (by decide)) (ne_c (lv_neT c6 (by decide)) ne_n))))) (by decide) ?_
  refine lv_iconst (v := (-1)) hx hb dX11_count_101 (by decide) ?_
  exact hR _ _ _ _ _ _ hm hI dX11_count_102
def f_X11_depth (N n : Nat) (σ : Sg) (p0 : Int32) (p1 : Int32) : Option (Int32 × Sg) := if (σ 1 9) = 0 then (some ((-1), σ)) else (bd (f_X6_hasFunc N n σ p0) (fun r2 σ3 => if r2 = 0 then (some ((-1), σ3)) else (if p1 < 0 then (some ((-1), σ3)) else (gb p0 12 (if p1 < (σ3 5 (ix p0)) then (gb p0 12 (gb ((σ3 4 (ix p0)) + p1) 300 (some (σ3 8 (ix ((σ3 4 (ix p0)) + p1)), σ3)))) else (some ((-1), σ3)))))))
set_option maxHeartbeats 4000000 in
set_option maxRecDepth 100000 in
theorem c_X11_depth {l : Launch} {g : GG} {q : Nat} (N n : Nat) {σ : Sg} {p0 : Int32} {p1 : Int32} {r : Int32} {σ' : Sg} (hm : f_X11_depth N n σ p0 p1 = some (r, σ')) : CTi l yX11_depth cX11_depth 3 (some .int) 1 21 g q n [.ref (ga g 0), .int p0, .int p1] σ r σ' := by
  refine e_i (r := r) (by decide) (Nat.le_of_ble_eq_true rfl) ?_
  intro p e s m args below meth c A Q ls hC hl hI
  obtain ⟨hX, hK, hN, hZ, hA, hR⟩ := id hC
  have hx : p.tables.exec = Jvm.exec := hX.1
  have hb : c.code = cX11_depth := hX.2.1
  have hml : c.maxLocals = 3 := hX.2.2.1
  have hown : s.vm.findClass RX11 = some m.cls := hX.2.2.2.1
  have ht : ∀ w ∈ BIG, w.before args s = true := hX.2.2.2.2
  have hl : lv_has ls 3 [(0, .ref (ga g 0)), (1, .int p0), (2, .int p1)] := hl
  unfold f_X11_depth at hm
  refine lv_aload_n hx hb dX11_depth_0 rfl (lv_at hl 0 rfl) ?_
  refine gf_0_0 hx hb ht hK hI mw_640 (fun _ h9 => h9) hown dX11_depth_1 ?_
  refine gf_1_9 hx hb ht hK hI (v := σ 1 9) rfl mw_670 (fun _ h9 => h9) hown dX11_depth_4 ?_
  refine lv_if_eq (tgt := 21) hx hb dX11_depth_7 (by decide) (fun c1 => ?_) (fun c1 => ?_)
  · have hm := (if_pos c1).symm.trans hm
    refine lv_iconst (v := (-1)) hx hb dX11_depth_21 (by decide) ?_
    exact hR _ _ _ _ _ _ hm hI dX11_depth_22
  · have hm := (if_neg c1).symm.trans hm
    refine lv_aload_n hx hb dX11_depth_10 rfl (lv_at hl 0 rfl) ?_
    refine gf_0_0 hx hb ht hK hI mw_640 (fun _ h9 => h9) hown dX11_depth_11 ?_
    refine lv_iload_n hx hb dX11_depth_14 rfl (lv_at hl 1 rfl) ?_
    obtain ⟨r2, σ3, h4, hm⟩ := bd_some hm
    refine k_i hI hA (va_runV (As := [.int p0]) (rest := []) hX (c_X6_hasFunc N n h4 _) (cwV 1 ht (in_V mw_688 mw_29 mw_30 mw_31 mw_23) rfl rfl rfl pd_X6_hasFunc ⟨Nat.le_of_ble_eq_true rfl, Nat.le_of_ble_eq_true rfl⟩) ⟨q_blind, va_recv hK hI.1 (ci := 5) (q0 := 1) rfl rfl, q_to hI hK hN hZ hA⟩ rfl rfl hl.1 rfl (lv_room (Nat.le_of_ble_eq_true rfl)) dX11_depth_15 (by decide)) (fun H locs hI => ?_)
    refine lv_if_ne (tgt := 23) hx hb dX11_depth_18 (by decide) (fun c5 => ?_) (fun c5 => ?_)
    · have hm := (if_neg c5).symm.trans hm
      refine lv_iload_n hx hb dX11_depth_23 rfl (lv_at hl 2 rfl) ?_
      refine lv_if_lt (tgt := 40) hx hb dX11_depth_24 (by decide) (fun c6 => ?_) (fun c6 => ?_)
      · have hm := (if_pos c6).symm.trans hm
        refine lv_iconst (v := (-1)) hx hb dX11_depth_40 (by decide) ?_
        exact hR _ _ _ _ _ _ hm hI dX11_depth_41
      · have hm := (if_neg c6).symm.trans hm
        refine lv_iload_n hx hb dX11_depth_27 rfl (lv_at hl 2 rfl) ?_
        refine lv_aload_n hx hb dX11_depth_28 rfl (lv_at hl 0 rfl) ?_
        refine gf_0_0 hx hb ht hK hI mw_640 (fun _ h9 => h9) hown dX11_depth_29 ?_
        refine gf_1_3 hx hb ht hK hI mw_685 (fun _ h9 => h9) hown dX11_depth_32 ?_
        refine lv_iload_n hx hb dX11_depth_35 rfl (lv_at hl 1 rfl) ?_
        obtain ⟨g7, hm⟩ := gb_some hm
        refine ld_5 hx hb hK hI g7 (v := σ3 5 (ix p0)) rfl dX11_depth_36 ?_
        refine lv_icmp_lt (tgt := 42) hx hb dX11_depth_37 (by decide) (fun c8 => ?_) (fun c8 => ?_)
        · have hm := (if_pos c8).symm.trans hm
          refine lv_aload_n hx hb dX11_depth_42 rfl (lv_at hl 0 rfl) ?_
          refine gf_0_0 hx hb ht hK hI mw_640 (fun _ h9 => h9) hown dX11_depth_43 ?_
          refine gf_1_6 hx hb ht hK hI mw_686 (fun _ h9 => h9) hown dX11_depth_46 ?_
          refine lv_aload_n hx hb dX11_depth_49 rfl (lv_at hl 0 rfl) ?_
          refine gf_0_0 hx hb ht hK hI mw_640 (fun _ h9 => h9) hown dX11_depth_50 ?_
          refine gf_1_2 hx hb ht hK hI mw_687 (fun _ h9 => h9) hown dX11_depth_53 ?_
          refine lv_iload_n hx hb dX11_depth_56 rfl (lv_at hl 1 rfl) ?_
          obtain ⟨g9, hm⟩ := gb_some hm
          refine ld_4 hx hb hK hI g9 (v := σ3 4 (ix p0)) rfl dX11_depth_57 ?_
          refine lv_iload_n hx hb dX11_depth_58 rfl (lv_at hl 2 rfl) ?_
          refine lv_iadd hx hb dX11_depth_59 ?_
          obtain ⟨g10, hm⟩ := gb_some hm
          refine ld_8 hx hb hK hI g10 (v := σ3 8 (ix ((σ3 4 (ix p0)) + p1))) rfl dX11_depth_60 ?_
          exact hR _ _ _ _ _ _ hm hI dX11_depth_61
        · have hm := (if_neg c8).symm.trans hm
          refine lv_iconst (v := (-1)) hx hb dX11_depth_40 (by decide) ?_
          exact hR _ _ _ _ _ _ hm hI dX11_depth_41
    · have hm := (if_pos c5).symm.trans hm
      refine lv_iconst (v := (-1)) hx hb dX11_depth_21 (by decide) ?_
      exact hR _ _ _ _ _ _ hm hI dX11_depth_22
def f_X6_addFunc (N n : Nat) (σ : Sg) (p0 : Int32) (p1 : Int32) : Option (Int32 × Sg) := gb (σ 1 7) 12 (gb (σ 1 7) 12 (gb (σ 1 7) 12 (gb (σ 1 7) 12 (some (((σ 1 7) + 1) - 1, sg (sg (sg (sg (sg σ 2 (ix (σ 1 7)) p0) 3 (ix (σ 1 7)) p1) 4 (ix (σ 1 7)) (σ 1 8)) 5 (ix (σ 1 7)) 0) 1 7 ((σ 1 7) + 1))))))
set_option maxHeartbeats 4000000 in
set_option maxRecDepth 100000 in
theorem c_X6_addFunc {l : Launch} {g : GG} {q : Nat} (N n : Nat) {σ : Sg} {p0 : Int32} {p1 : Int32} {r : Int32} {σ' : Sg} (hm : f_X6_addFunc N n σ p0 p1 = some (r, σ')) : CTi l yX6_addFunc cX6_addFunc 3 (some .int) 0 0 g q n [.ref (ga g 1), .int p0, .int p1] σ r σ' := by
  refine e_i (r := r) (by decide) (Nat.le_of_ble_eq_true rfl) ?_
  intro p e s m args below meth c A Q ls hC hl hI
  obtain ⟨hX, hK, hN, hZ, hA, hR⟩ := id hC
  have hx : p.tables.exec = Jvm.exec := hX.1
  have hb : c.code = cX6_addFunc := hX.2.1
  have hml : c.maxLocals = 3 := hX.2.2.1
  have hown : s.vm.findClass RX6 = some m.cls := hX.2.2.2.1
  have ht : ∀ w ∈ BIG, w.before args s = true := hX.2.2.2.2
  have hl : lv_has ls 3 [(0, .ref (ga g 1)), (1, .int p0), (2, .int p1)] := hl
  unfold f_X6_addFunc at hm
  refine lv_aload_n hx hb dX6_addFunc_0 rfl (lv_at hl 0 rfl) ?_
  refine gf_1_0 hx hb ht hK hI mw_33 (fun _ h9 => h9) hown dX6_addFunc_1 ?_
  refine lv_aload_n hx hb dX6_addFunc_4 rfl (lv_at hl 0 rfl) ?_
  refine gf_1_7 hx hb ht hK hI (v := σ 1 7) rfl mw_24 (fun _ h9 => h9) hown dX6_addFunc_5 ?_
  refine lv_iload_n hx hb dX6_addFunc_8 rfl (lv_at hl 1 rfl) ?_
  obtain ⟨g1, hm⟩ := gb_some hm
  refine sv_2 hx hb hK hI g1 dX6_addFunc_9 (fun H locs hI => ?_)
  refine lv_aload_n hx hb dX6_addFunc_10 rfl (lv_at hl 0 rfl) ?_
  refine gf_1_1 hx hb ht hK hI mw_452 (fun _ h9 => h9) hown dX6_addFunc_11 ?_
  refine lv_aload_n hx hb dX6_addFunc_14 rfl (lv_at hl 0 rfl) ?_
  refine gf_1_7 hx hb ht hK hI (v := σ 1 7) rfl mw_24 (fun _ h9 => h9) hown dX6_addFunc_15 ?_
  refine lv_iload_n hx hb dX6_addFunc_18 rfl (lv_at hl 2 rfl) ?_
  obtain ⟨g2, hm⟩ := gb_some hm
  refine sv_3 hx hb hK hI g2 dX6_addFunc_19 (fun H locs hI => ?_)
  refine lv_aload_n hx hb dX6_addFunc_20 rfl (lv_at hl 0 rfl) ?_
  refine gf_1_2 hx hb ht hK hI mw_453 (fun _ h9 => h9) hown dX6_addFunc_21 ?_
  refine lv_aload_n hx hb dX6_addFunc_24 rfl (lv_at hl 0 rfl) ?_
  refine gf_1_7 hx hb ht hK hI (v := σ 1 7) rfl mw_24 (fun _ h9 => h9) hown dX6_addFunc_25 ?_
  refine lv_aload_n hx hb dX6_addFunc_28 rfl (lv_at hl 0 rfl) ?_
  refine gf_1_8 hx hb ht hK hI (v := σ 1 8) rfl mw_459 (fun _ h9 => h9) hown dX6_addFunc_29 ?_
  obtain ⟨g3, hm⟩ := gb_some hm
  refine sv_4 hx hb hK hI g3 dX6_addFunc_32 (fun H locs hI => ?_)
  refine lv_aload_n hx hb dX6_addFunc_33 rfl (lv_at hl 0 rfl) ?_
  refine gf_1_3 hx hb ht hK hI mw_454 (fun _ h9 => h9) hown dX6_addFunc_34 ?_
  refine lv_aload_n hx hb dX6_addFunc_37 rfl (lv_at hl 0 rfl) ?_
  refine gf_1_7 hx hb ht hK hI (v := σ 1 7) rfl mw_24 (fun _ h9 => h9) hown dX6_addFunc_38 ?_
  refine lv_iconst (v := 0) hx hb dX6_addFunc_41 (by decide) ?_
  obtain ⟨g4, hm⟩ := gb_some hm
  refine sv_5 hx hb hK hI g4 dX6_addFunc_42 (fun H locs hI => ?_)
  refine lv_aload_n hx hb dX6_addFunc_43 rfl (lv_at hl 0 rfl) ?_
  refine lv_dup hx hb dX6_addFunc_44 rfl ?_
  refine gf_1_7 hx hb ht hK hI (v := σ 1 7) rfl mw_24 (fun _ h9 => h9) hown dX6_addFunc_45 ?_
  refine lv_iconst (v := 1) hx hb dX6_addFunc_48 (by decide) ?_
  refine lv_iadd hx hb dX6_addFunc_49 ?_
  refine pf_1_7 hx hb ht hK hI mw_24 (fun _ h9 => h9) hown dX6_addFunc_50 (fun H locs hI => ?_)
  refine lv_aload_n hx hb dX6_addFunc_53 rfl (lv_at hl 0 rfl) ?_
  refine gf_1_7 hx hb ht hK hI (v := (σ 1 7) + 1) rfl mw_24 (fun _ h9 => h9) hown dX6_addFunc_54 ?_
  refine lv_iconst (v := 1) hx hb dX6_addFunc_57 (by decide) ?_
  refine lv_isub hx hb dX6_addFunc_58 ?_
  exact hR _ _ _ _ _ _ hm hI dX6_addFunc_59
def f_X11_func (N n : Nat) (σ : Sg) (p0 : Int32) (p1 : Int32) : Option (Int32 × Sg) := if p0 < 0 then (some ((-1), σ)) else (if 6 < p0 then (some ((-1), σ)) else (if p1 < p0 then (some ((-1), σ)) else (if 10 < p1 then (some ((-1), σ)) else (if (σ 1 9) = 0 then (if (σ 1 7) < 12 then (bd (f_X6_addFunc N n σ p0 p1) (fun r7 σ8 => some (r7, σ8))) else (some ((-1), σ))) else (some ((-1), σ))))))
set_option maxHeartbeats 4000000 in
set_option maxRecDepth 100000 in
theorem c_X11_func {l : Launch} {g : GG} {q : Nat} (N n : Nat) {σ : Sg} {p0 : Int32} {p1 : Int32} {r : Int32} {σ' : Sg} (hm : f_X11_func N n σ p0 p1 = some (r, σ')) : CTi l yX11_func cX11_func 4 (some .int) 1 22 g q n [.ref (ga g 0), .int p0, .int p1] σ r σ' := by
  refine e_i (r := r) (by decide) (Nat.le_of_ble_eq_true rfl) ?_
  intro p e s m args below meth c A Q ls hC hl hI
  obtain ⟨hX, hK, hN, hZ, hA, hR⟩ := id hC
  have hx : p.tables.exec = Jvm.exec := hX.1
  have hb : c.code = cX11_func := hX.2.1
  have hml : c.maxLocals = 4 := hX.2.2.1
  have hown : s.vm.findClass RX11 = some m.cls := hX.2.2.2.1
  have ht : ∀ w ∈ BIG, w.before args s = true := hX.2.2.2.2
  have hl : lv_has ls 4 [(0, .ref (ga g 0)), (1, .int p0), (2, .int p1)] := hl
  unfold f_X11_func at hm
  refine lv_iload_n hx hb dX11_func_0 rfl (lv_at hl 1 rfl) ?_
  refine lv_if_lt (tgt := 25) hx hb dX11_func_1 (by decide) (fun c1 => ?_) (fun c1 => ?_)
  · have hm := (if_pos c1).symm.trans hm
    refine lv_iconst (v := 0) hx hb dX11_func_25 (by decide) ?_
    refine lv_istore_n (lv' := [(3, .int 0), (0, .ref (ga g 0)), (1, .int p0), (2, .int p1)]) hx hb dX11_func_26 rfl hl (by decide) rfl (fun ls hl => ?_)
    refine lv_iload_n hx hb dX11_func_27 rfl (lv_at hl 0 rfl) ?_
    refine lv_if_eq (tgt := 53) hx hb dX11_func_28 (by decide) (fun _ => ?_) (fun h => absurd h (by decide))
    refine lv_iconst (v := (-1)) hx hb dX11_func_53 (by decide) ?_
    exact hR _ _ _ _ _ _ hm hI dX11_func_54
  · have hm := (if_neg c1).symm.trans hm
    refine lv_iload_n hx hb dX11_func_4 rfl (lv_at hl 1 rfl) ?_
    refine lv_bipush (v := 6) hx hb dX11_func_5 (by decide) ?_
    refine lv_icmp_gt (tgt := 25) hx hb dX11_func_7 (by decide) (fun c2 => ?_) (fun c2 => ?_)
    · have hm := (if_pos c2).symm.trans hm
      refine lv_iconst (v := 0) hx hb dX11_func_25 (by decide) ?_
      refine lv_istore_n (lv' := [(3, .int 0), (0, .ref (ga g 0)), (1, .int p0), (2, .int p1)]) hx hb dX11_func_26 rfl hl (by decide) rfl (fun ls hl => ?_)
      refine lv_iload_n hx hb dX11_func_27 rfl (lv_at hl 0 rfl) ?_
      refine lv_if_eq (tgt := 53) hx hb dX11_func_28 (by decide) (fun _ => ?_) (fun h => absurd h (by decide))
      refine lv_iconst (v := (-1)) hx hb dX11_func_53 (by decide) ?_
      exact hR _ _ _ _ _ _ hm hI dX11_func_54
    · have hm := (if_neg c2).symm.trans hm
      refine lv_iload_n hx hb dX11_func_10 rfl (lv_at hl 2 rfl) ?_
      refine lv_iload_n hx hb dX11_func_11 rfl (lv_at hl 1 rfl) ?_
      refine lv_icmp_lt (tgt := 25) hx hb dX11_func_12 (by decide) (fun c3 => ?_) (fun c3 => ?_)
      · have hm := (if_pos c3).symm.trans hm
        refine lv_iconst (v := 0) hx hb dX11_func_25 (by decide) ?_
        refine lv_istore_n (lv' := [(3, .int 0), (0, .ref (ga g 0)), (1, .int p0), (2, .int p1)]) hx hb dX11_func_26 rfl hl (by decide) rfl (fun ls hl => ?_)
        refine lv_iload_n hx hb dX11_func_27 rfl (lv_at hl 0 rfl) ?_
        refine lv_if_eq (tgt := 53) hx hb dX11_func_28 (by decide) (fun _ => ?_) (fun h => absurd h (by decide))
        refine lv_iconst (v := (-1)) hx hb dX11_func_53 (by decide) ?_
        exact hR _ _ _ _ _ _ hm hI dX11_func_54
      · have hm := (if_neg c3).symm.trans hm
        refine lv_iload_n hx hb dX11_func_15 rfl (lv_at hl 2 rfl) ?_
        refine lv_bipush (v := 10) hx hb dX11_func_16 (by decide) ?_
        refine lv_icmp_gt (tgt := 25) hx hb dX11_func_18 (by decide) (fun c4 => ?_) (fun c4 => ?_)
        · have hm := (if_pos c4).symm.trans hm
          refine lv_iconst (v := 0) hx hb dX11_func_25 (by decide) ?_
          refine lv_istore_n (lv' := [(3, .int 0), (0, .ref (ga g 0)), (1, .int p0), (2, .int p1)]) hx hb dX11_func_26 rfl hl (by decide) rfl (fun ls hl => ?_)
          refine lv_iload_n hx hb dX11_func_27 rfl (lv_at hl 0 rfl) ?_
          refine lv_if_eq (tgt := 53) hx hb dX11_func_28 (by decide) (fun _ => ?_) (fun h => absurd h (by decide))
          refine lv_iconst (v := (-1)) hx hb dX11_func_53 (by decide) ?_
          exact hR _ _ _ _ _ _ hm hI dX11_func_54
        · have hm := (if_neg c4).symm.trans hm
          refine lv_iconst (v := 1) hx hb dX11_func_21 (by decide) ?_
          refine lv_goto (tgt := 26) hx hb dX11_func_22 (by decide) ?_
          refine lv_istore_n (lv' := [(3, .int 1), (0, .ref (ga g 0)), (1, .int p0), (2, .int p1)]) hx hb dX11_func_26 rfl hl (by decide) rfl (fun ls hl => ?_)
          refine lv_iload_n hx hb dX11_func_27 rfl (lv_at hl 0 rfl) ?_
          refine lv_if_eq (tgt := 53) hx hb dX11_func_28 (by decide) (fun h => absurd h (by decide)) (fun _ => ?_)
          refine lv_aload_n hx hb dX11_func_31 rfl (lv_at hl 1 rfl) ?_
          refine gf_0_0 hx hb ht hK hI mw_640 (fun _ h9 => h9) hown dX11_func_32 ?_
          refine gf_1_9 hx hb ht hK hI (v := σ 1 9) rfl mw_670 (fun _ h9 => h9) hown dX11_func_35 ?_
          refine lv_if_ne (tgt := 53) hx hb dX11_func_38 (by decide) (fun c5 => ?_) (fun c5 => ?_)
          · have hm := (if_neg c5).symm.trans hm
            refine lv_iconst (v := (-1)) hx hb dX11_func_53 (by decide) ?_
            exact hR _ _ _ _ _ _ hm hI dX11_func_54
          · have hm := (if_pos c5).symm.trans hm
            refine lv_aload_n hx hb dX11_func_41 rfl (lv_at hl 1 rfl) ?_
            refine gf_0_0 hx hb ht hK hI mw_640 (fun _ h9 => h9) hown dX11_func_42 ?_
            refine gf_1_7 hx hb ht hK hI (v := σ 1 7) rfl mw_671 (fun _ h9 => h9) hown dX11_func_45 ?_
            refine lv_bipush (v := 12) hx hb dX11_func_48 (by decide) ?_
            refine lv_icmp_lt (tgt := 55) hx hb dX11_func_50 (by decide) (fun c6 => ?_) (fun c6 => ?_)
            · have hm := (if_pos c6).symm.trans hm
              refine lv_aload_n hx hb dX11_func_55 rfl (lv_at hl 1 rfl) ?_
              refine gf_0_0 hx hb ht hK hI mw_640 (fun _ h9 => h9) hown dX11_func_56 ?_
              refine lv_iload_n hx hb dX11_func_59 rfl (lv_at hl 2 rfl) ?_
              refine lv_iload_n hx hb dX11_func_60 rfl (lv_at hl 3 rfl) ?_
              obtain ⟨r7, σ8, h9, hm⟩ := bd_some hm
              refine k_i hI hA (va_runV (As := [.int p0, .int p1]) (rest := []) hX (c_X6_addFunc N n h9 _) (cwV 2 ht (in_V mw_672 mw_673 mw_674 mw_31 mw_458) rfl rfl rfl pd_X6_addFunc ⟨Nat.le_of_ble_eq_true rfl, Nat.le_of_ble_eq_true rfl⟩) ⟨q_blind, va_recv hK hI.1 (ci := 5) (q0 := 1) rfl rfl, q_to hI hK hN hZ hA⟩ rfl rfl hl.1 rfl (lv_room (Nat.le_of_ble_eq_true rfl)) dX11_func_61 (by decide)) (fun H locs hI => ?_)
              exact hR _ _ _ _ _ _ hm hI dX11_func_64
            · have hm := (if_neg c6).symm.trans hm
              refine lv_iconst (v := (-1)) hx hb dX11_func_53 (by decide) ?_
              exact hR _ _ _ _ _ _ hm hI dX11_func_54
