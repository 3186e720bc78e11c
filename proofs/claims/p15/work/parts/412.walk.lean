def f_X12_swapTop (N n : Nat) (σ : Sg)  : Option (Int32 × Sg) := bd (f_X12_pop N n σ ) (fun r1 σ2 => bd (f_X12_pop N n σ2 ) (fun r4 σ5 => bd (f_X12_push N n σ5 r1) (fun r7 σ8 => bd (f_X12_push N n σ8 r4) (fun r10 σ11 => some (0, σ11)))))
set_option maxHeartbeats 4000000 in
set_option maxRecDepth 100000 in
theorem c_X12_swapTop {l : Launch} {g : GG} {q : Nat} (N n : Nat) {σ : Sg}  {r : Int32} {σ' : Sg} (hm : f_X12_swapTop N n σ  = some (r, σ')) : CTv l yX12_swapTop cX12_swapTop 3 none 1 22 g q n [.ref (ga g 59)] σ σ' := by
  refine e_v (r := r) (by decide) (Nat.le_of_ble_eq_true rfl) ?_
  intro p e s m args below meth c A Q ls hC hl hI
  obtain ⟨hX, hK, hN, hZ, hA, hR⟩ := id hC
  have hx : p.tables.exec = Jvm.exec := hX.1
  have hb : c.code = cX12_swapTop := hX.2.1
  have hml : c.maxLocals = 3 := hX.2.2.1
  have hown : s.vm.findClass RX12 = some m.cls := hX.2.2.2.1
  have ht : ∀ w ∈ BIG, w.before args s = true := hX.2.2.2.2
  have hl : lv_has ls 3 [(0, .ref (ga g 59))] := hl
  unfold f_X12_swapTop at hm
  refine lv_aload_n hx hb dX12_swapTop_0 rfl (lv_at hl 0 rfl) ?_
  obtain ⟨r1, σ2, h3, hm⟩ := bd_some hm
  refine k_i hI hA (va_runV (As := []) (rest := []) hX (c_X12_pop N n h3 _) (cwV 0 ht (in_V mw_1021 mw_1022 mw_1023 mw_861 mw_1018) rfl rfl rfl pd_X12_pop ⟨Nat.le_of_ble_eq_true rfl, Nat.le_of_ble_eq_true rfl⟩) ⟨q_blind, va_recv hK hI.1 (ci := 11) (q0 := 59) rfl rfl, q_to hI hK hN hZ hA⟩ rfl rfl hl.1 rfl (lv_room (Nat.le_of_ble_eq_true rfl)) dX12_swapTop_1 (by decide)) (fun H locs hI => ?_)
  refine lv_istore_n (lv' := [(1, .int r1), (0, .ref (ga g 59))]) hx hb dX12_swapTop_4 rfl hl (by decide) rfl (fun ls hl => ?_)
  refine lv_aload_n hx hb dX12_swapTop_5 rfl (lv_at hl 1 rfl) ?_
  obtain ⟨r4, σ5, h6, hm⟩ := bd_some hm
  refine k_i hI hA (va_runV (As := []) (rest := []) hX (c_X12_pop N n h6 _) (cwV 0 ht (in_V mw_1021 mw_1022 mw_1023 mw_861 mw_1018) rfl rfl rfl pd_X12_pop ⟨Nat.le_of_ble_eq_true rfl, Nat.le_of_ble_eq_true rfl⟩) ⟨q_blind, va_recv hK hI.1 (ci := 11) (q0 := 59) rfl rfl, q_to hI hK hN hZ hA⟩ rfl rfl hl.1 rfl (lv_room (Nat.le_of_ble_eq_true rfl)) dX12_swapTop_6 (by decide)) (fun H locs hI => ?_)
  refine lv_istore_n (lv' := [(2, .int r4), (1, .int r1), (0, .ref (ga g 59))]) hx hb dX12_swapTop_9 rfl hl (by decide) rfl (fun ls hl => ?_)
  refine lv_aload_n hx hb dX12_swapTop_10 rfl (lv_at hl 2 rfl) ?_
  refine lv_iload_n hx hb dX12_swapTop_11 rfl (lv_at hl 1 rfl) ?_
  obtain ⟨r7, σ8, h9, hm⟩ := bd_some hm
  refine k_v hI hA (va_runV (As := [.int r1]) (rest := []) hX (c_X12_push N n h9 _) (cwV 1 ht (in_V mw_1015 mw_1016 mw_1017 mw_861 mw_1010) rfl rfl rfl pd_X12_push ⟨Nat.le_of_ble_eq_true rfl, Nat.le_of_ble_eq_true rfl⟩) ⟨q_blind, va_recv hK hI.1 (ci := 11) (q0 := 59) rfl rfl, q_to hI hK hN hZ hA⟩ rfl rfl hl.1 rfl (lv_room (Nat.le_of_ble_eq_true rfl)) dX12_swapTop_12 (by decide)) (fun H locs hI => ?_)
  refine lv_aload_n hx hb dX12_swapTop_15 rfl (lv_at hl 2 rfl) ?_
  refine lv_iload_n hx hb dX12_swapTop_16 rfl (lv_at hl 0 rfl) ?_
  obtain ⟨r10, σ11, h12, hm⟩ := bd_some hm
  refine k_v hI hA (va_runV (As := [.int r4]) (rest := []) hX (c_X12_push N n h12 _) (cwV 1 ht (in_V mw_1015 mw_1016 mw_1017 mw_861 mw_1010) rfl rfl rfl pd_X12_push ⟨Nat.le_of_ble_eq_true rfl, Nat.le_of_ble_eq_true rfl⟩) ⟨q_blind, va_recv hK hI.1 (ci := 11) (q0 := 59) rfl rfl, q_to hI hK hN hZ hA⟩ rfl rfl hl.1 rfl (lv_room (Nat.le_of_ble_eq_true rfl)) dX12_swapTop_17 (by decide)) (fun H locs hI => ?_)
  exact hR _ _ _ _ _ hm hI dX12_swapTop_20
def f_X12_writeStack (N n : Nat) (σ : Sg)  : Option (Int32 × Sg) := bd (f_X12_pop N n σ ) (fun r1 σ2 => bd (f_X12_pop N n σ2 ) (fun r4 σ5 => bd (f_X12_isCell N n σ5 r1) (fun r7 σ8 => if r7 = 0 then (bd (f_X12_ends N n σ8 0 3) (fun r12 σ13 => some (0, σ13))) else (gb r1 128 (some (0, sg σ8 88 (ix r1) r4))))))
set_option maxHeartbeats 4000000 in
set_option maxRecDepth 100000 in
theorem c_X12_writeStack {l : Launch} {g : GG} {q : Nat} (N n : Nat) {σ : Sg}  {r : Int32} {σ' : Sg} (hm : f_X12_writeStack N n σ  = some (r, σ')) : CTv l yX12_writeStack cX12_writeStack 3 none 1 22 g q n [.ref (ga g 59)] σ σ' := by
  refine e_v (r := r) (by decide) (Nat.le_of_ble_eq_true rfl) ?_
  intro p e s m args below meth c A Q ls hC hl hI
  obtain ⟨hX, hK, hN, hZ, hA, hR⟩ := id hC
  have hx : p.tables.exec = Jvm.exec := hX.1
  have hb : c.code = cX12_writeStack := hX.2.1
  have hml : c.maxLocals = 3 := hX.2.2.1
  have hown : s.vm.findClass RX12 = some m.cls := hX.2.2.2.1
  have ht : ∀ w ∈ BIG, w.before args s = true := hX.2.2.2.2
  have hl : lv_has ls 3 [(0, .ref (ga g 59))] := hl
  unfold f_X12_writeStack at hm
  refine lv_aload_n hx hb dX12_writeStack_0 rfl (lv_at hl 0 rfl) ?_
  obtain ⟨r1, σ2, h3, hm⟩ := bd_some hm
  refine k_i hI hA (va_runV (As := []) (rest := []) hX (c_X12_pop N n h3 _) (cwV 0 ht (in_V mw_1021 mw_1022 mw_1023 mw_861 mw_1018) rfl rfl rfl pd_X12_pop ⟨Nat.le_of_ble_eq_true rfl, Nat.le_of_ble_eq_true rfl⟩) ⟨q_blind, va_recv hK hI.1 (ci := 11) (q0 := 59) rfl rfl, q_to hI hK hN hZ hA⟩ rfl rfl hl.1 rfl (lv_room (Nat.le_of_ble_eq_true rfl)) dX12_writeStack_1 (by decide)) (fun H locs hI => ?_)
  refine lv_istore_n (lv' := [(1, .int r1), (0, .ref (ga g 59))]) hx hb dX12_writeStack_4 rfl hl (by decide) rfl (fun ls hl => ?_)
  refine lv_aload_n hx hb dX12_writeStack_5 rfl (lv_at hl 1 rfl) ?_
  obtain ⟨r4, σ5, h6, hm⟩ := bd_some hm
  refine k_i hI hA (va_runV (As := []) (rest := []) hX (c_X12_pop N n h6 _) (cwV 0 ht (in_V mw_1021 mw_1022 mw_1023 mw_861 mw_1018) rfl rfl rfl pd_X12_pop ⟨Nat.le_of_ble_eq_true rfl, Nat.le_of_ble_eq_true rfl⟩) ⟨q_blind, va_recv hK hI.1 (ci := 11) (q0 := 59) rfl rfl, q_to hI hK hN hZ hA⟩ rfl rfl hl.1 rfl (lv_room (Nat.le_of_ble_eq_true rfl)) dX12_writeStack_6 (by decide)) (fun H locs hI => ?_)
  refine lv_istore_n (lv' := [(2, .int r4), (1, .int r1), (0, .ref (ga g 59))]) hx hb dX12_writeStack_9 rfl hl (by decide) rfl (fun ls hl => ?_)
  refine lv_iload_n hx hb dX12_writeStack_10 rfl (lv_at hl 1 rfl) ?_
  obtain ⟨r7, σ8, h9, hm⟩ := bd_some hm
  refine k_i hI hA (va_runS (As := [.int r1]) (rest := []) hX (c_X12_isCell N n h9 _) (va_cwS 1 ht (in_S mw_1030 mw_1031 mw_861 mw_1028) rfl rfl rfl pd_X12_isCell ⟨Nat.le_of_ble_eq_true rfl, Nat.le_of_ble_eq_true rfl⟩) ⟨q_blind, q_to hI hK hN hZ hA⟩ rfl rfl hl.1 rfl (lv_room (Nat.le_of_ble_eq_true rfl)) dX12_writeStack_11 (by decide)) (fun H locs hI => ?_)
  refine lv_if_ne (tgt := 24) hx hb dX12_writeStack_14 (by decide) (fun c10 => ?_) (fun c10 => ?_)
  · have hm := (if_neg c10).symm.trans hm
    refine lv_aload_n hx hb dX12_writeStack_24 rfl (lv_at hl 2 rfl) ?_
    refine gf_59_38 hx hb ht hK hI mw_783 (fun _ h9 => h9) hown dX12_writeStack_25 ?_
    refine lv_iload_n hx hb dX12_writeStack_28 rfl (lv_at hl 1 rfl) ?_
    refine lv_iload_n hx hb dX12_writeStack_29 rfl (lv_at hl 0 rfl) ?_
    obtain ⟨g11, hm⟩ := gb_some hm
    refine sv_88 hx hb hK hI g11 dX12_writeStack_30 (fun H locs hI => ?_)
    exact hR _ _ _ _ _ hm hI dX12_writeStack_31
  · have hm := (if_pos c10).symm.trans hm
    refine lv_aload_n hx hb dX12_writeStack_17 rfl (lv_at hl 2 rfl) ?_
    refine lv_iconst (v := 0) hx hb dX12_writeStack_18 (by decide) ?_
    refine lv_iconst (v := 3) hx hb dX12_writeStack_19 (by decide) ?_
    obtain ⟨r12, σ13, h14, hm⟩ := bd_some hm
    refine k_v hI hA (va_runV (As := [.int 0, .int 3]) (rest := []) hX (c_X12_ends N n h14 _) (cwV 2 ht (in_V mw_1012 mw_1013 mw_1014 mw_861 mw_1009) rfl rfl rfl pd_X12_ends ⟨Nat.le_of_ble_eq_true rfl, Nat.le_of_ble_eq_true rfl⟩) ⟨q_blind, va_recv hK hI.1 (ci := 11) (q0 := 59) rfl rfl, q_to hI hK hN hZ hA⟩ rfl rfl hl.1 rfl (lv_room (Nat.le_of_ble_eq_true rfl)) dX12_writeStack_20 (by decide)) (fun H locs hI => ?_)
    exact hR _ _ _ _ _ hm hI dX12_writeStack_23
def f_X12_workStack (N n : Nat) (σ : Sg) (p0 : Int32) : Option (Int32 × Sg) := bd (f_X12_pop N n σ ) (fun r1 σ2 => bd (f_X12_pop N n σ2 ) (fun r4 σ5 => if p0 = 6 then (if r1 = 0 then (bd (f_X12_ends N n σ5 0 2) (fun r21 σ22 => some (0, σ22))) else (bd (f_X12_works N n σ5 p0 r4 r1) (fun r15 σ16 => bd (f_X12_push N n σ16 r15) (fun r18 σ19 => some (0, σ19))))) else (bd (f_X12_works N n σ5 p0 r4 r1) (fun r8 σ9 => bd (f_X12_push N n σ9 r8) (fun r11 σ12 => some (0, σ12))))))
set_option maxHeartbeats 4000000 in
set_option maxRecDepth 100000 in
theorem c_X12_workStack {l : Launch} {g : GG} {q : Nat} (N n : Nat) {σ : Sg} {p0 : Int32} {r : Int32} {σ' : Sg} (hm : f_X12_workStack N n σ p0 = some (r, σ')) : CTv l yX12_workStack cX12_workStack 4 none 1 23 g q n [.ref (ga g 59), .int p0] σ σ' := by
  refine e_v (r := r) (by decide) (Nat.le_of_ble_eq_true rfl) ?_
  intro p e s m args below meth c A Q ls hC hl hI
  obtain ⟨hX, hK, hN, hZ, hA, hR⟩ := id hC
  have hx : p.tables.exec = Jvm.exec := hX.1
  have hb : c.code = cX12_workStack := hX.2.1
  have hml : c.maxLocals = 4 := hX.2.2.1
  have hown : s.vm.findClass RX12 = some m.cls := hX.2.2.2.1
  have ht : ∀ w ∈ BIG, w.before args s = true := hX.2.2.2.2
  have hl : lv_has ls 4 [(0, .ref (ga g 59)), (1, .int p0)] := hl
  unfold f_X12_workStack at hm
  refine lv_aload_n hx hb dX12_workStack_0 rfl (lv_at hl 0 rfl) ?_
  obtain ⟨r1, σ2, h3, hm⟩ := bd_some hm
  refine k_i hI hA (va_runV (As := []) (rest := []) hX (c_X12_pop N n h3 _) (cwV 0 ht (in_V mw_1021 mw_1022 mw_1023 mw_861 mw_1018) rfl rfl rfl pd_X12_pop ⟨Nat.le_of_ble_eq_true rfl, Nat.le_of_ble_eq_true rfl⟩) ⟨q_blind, va_recv hK hI.1 (ci := 11) (q0 := 59) rfl rfl, q_to hI hK hN hZ hA⟩ rfl rfl hl.1 rfl (lv_room (Nat.le_of_ble_eq_true rfl)) dX12_workStack_1 (by decide)) (fun H locs hI => ?_)
  refine lv_istore_n (lv' := [(2, .int r1), (0, .ref (ga g 59)), (1, .int p0)]) hx hb dX12_workStack_4 rfl hl (by decide) rfl (fun ls hl => ?_)
  refine lv_aload_n hx hb dX12_workStack_5 rfl (lv_at hl 1 rfl) ?_
  obtain ⟨r4, σ5, h6, hm⟩ := bd_some hm
  refine k_i hI hA (va_runV (As := []) (rest := []) hX (c_X12_pop N n h6 _) (cwV 0 ht (in_V mw_1021 mw_1022 mw_1023 mw_861 mw_1018) rfl rfl rfl pd_X12_pop ⟨Nat.le_of_ble_eq_true rfl, Nat.le_of_ble_eq_true rfl⟩) ⟨q_blind, va_recv hK hI.1 (ci := 11) (q0 := 59) rfl rfl, q_to hI hK hN hZ hA⟩ rfl rfl hl.1 rfl (lv_room (Nat.le_of_ble_eq_true rfl)) dX12_workStack_6 (by decide)) (fun H locs hI => ?_)
  refine lv_istore_n (lv' := [(3, .int r4), (2, .int r1), (0, .ref (ga g 59)), (1, .int p0)]) hx hb dX12_workStack_9 rfl hl (by decide) rfl (fun ls hl => ?_)
  refine lv_iload_n hx hb dX12_workStack_10 rfl (lv_at hl 3 rfl) ?_
  refine lv_bipush (v := 6) hx hb dX12_workStack_11 (by decide) ?_
  refine lv_icmp_ne (tgt := 27) hx hb dX12_workStack_13 (by decide) (fun c7 => ?_) (fun c7 => ?_)
  · have hm := (if_neg c7).symm.trans hm
    refine lv_aload_n hx hb dX12_workStack_27 rfl (lv_at hl 2 rfl) ?_
    refine lv_aload_n hx hb dX12_workStack_28 rfl (lv_at hl 2 rfl) ?_
    refine lv_iload_n hx hb dX12_workStack_29 rfl (lv_at hl 3 rfl) ?_
    refine lv_iload_n hx hb dX12_workStack_30 rfl (lv_at hl 0 rfl) ?_
    refine lv_iload_n hx hb dX12_workStack_31 rfl (lv_at hl 1 rfl) ?_
    obtain ⟨r8, σ9, h10, hm⟩ := bd_some hm
    refine k_i hI hA (va_runV (As := [.int p0, .int r4, .int r1]) (rest := [.ref (ga g 59)]) hX (c_X12_works N n h10 _) (cwV 3 ht (in_V mw_1034 mw_1035 mw_1036 mw_861 mw_1019) rfl rfl rfl pd_X12_works ⟨Nat.le_of_ble_eq_true rfl, Nat.le_of_ble_eq_true rfl⟩) ⟨q_blind, va_recv hK hI.1 (ci := 11) (q0 := 59) rfl rfl, q_to hI hK hN hZ hA⟩ rfl rfl hl.1 rfl (lv_room (Nat.le_of_ble_eq_true rfl)) dX12_workStack_32 (by decide)) (fun H locs hI => ?_)
    obtain ⟨r11, σ12, h13, hm⟩ := bd_some hm
    refine k_v hI hA (va_runV (As := [.int r8]) (rest := []) hX (c_X12_push N n h13 _) (cwV 1 ht (in_V mw_1015 mw_1016 mw_1017 mw_861 mw_1010) rfl rfl rfl pd_X12_push ⟨Nat.le_of_ble_eq_true rfl, Nat.le_of_ble_eq_true rfl⟩) ⟨q_blind, va_recv hK hI.1 (ci := 11) (q0 := 59) rfl rfl, q_to hI hK hN hZ hA⟩ rfl rfl hl.1 rfl (lv_room (Nat.le_of_ble_eq_true rfl)) dX12_workStack_35 (by decide)) (fun H locs hI => ?_)
    exact hR _ _ _ _ _ hm hI dX12_workStack_38
  · have hm := (if_pos c7).symm.trans hm
    refine lv_iload_n hx hb dX12_workStack_16 rfl (lv_at hl 1 rfl) ?_
    refine lv_if_ne (tgt := 27) hx hb dX12_workStack_17 (by decide) (fun c14 => ?_) (fun c14 => ?_)
    · have hm := (if_neg c14).symm.trans hm
      refine lv_aload_n hx hb dX12_workStack_27 rfl (lv_at hl 2 rfl) ?_
      refine lv_aload_n hx hb dX12_workStack_28 rfl (lv_at hl 2 rfl) ?_
      refine lv_iload_n hx hb dX12_workStack_29 rfl (lv_at hl 3 rfl) ?_
      refine lv_iload_n hx hb dX12_workStack_30 rfl (lv_at hl 0 rfl) ?_
      refine lv_iload_n hx hb dX12_workStack_31 rfl (lv_at hl 1 rfl) ?_
      obtain ⟨r15, σ16, h17, hm⟩ := bd_some hm
      refine k_i hI hA (va_runV (As := [.int p0, .int r4, .int r1]) (rest := [.ref (ga g 59)]) hX (c_X12_works N n h17 _) (cwV 3 ht (in_V mw_1034 mw_1035 mw_1036 mw_861 mw_1019) rfl rfl rfl pd_X12_works ⟨Nat.le_of_ble_eq_true rfl, Nat.le_of_ble_eq_true rfl⟩) ⟨q_blind, va_recv hK hI.1 (ci := 11) (q0 := 59) rfl rfl, q_to hI hK hN hZ hA⟩ rfl rfl hl.1 rfl (lv_room (Nat.le_of_ble_eq_true rfl)) dX12_workStack_32 (by decide)) (fun H locs hI => ?_)
      obtain ⟨r18, σ19, h20, hm⟩ := bd_some hm
      refine k_v hI hA (va_runV (As := [.int r15]) (rest := []) hX (c_X12_push N n h20 _) (cwV 1 ht (in_V mw_1015 mw_1016 mw_1017 mw_861 mw_1010) rfl rfl rfl pd_X12_push ⟨Nat.le_of_ble_eq_true rfl, Nat.le_of_ble_eq_true rfl⟩) ⟨q_blind, va_recv hK hI.1 (ci := 11) (q0 := 59) rfl rfl, q_to hI hK hN hZ hA⟩ rfl rfl hl.1 rfl (lv_room (Nat.le_of_ble_eq_true rfl)) dX12_workStack_35 (by decide)) (fun H locs hI => ?_)
      exact hR _ _ _ _ _ hm hI dX12_workStack_38
    · have hm := (if_pos c14).symm.trans hm
      refine lv_aload_n hx hb dX12_workStack_20 rfl (lv_at hl 2 rfl) ?_
      refine lv_iconst (v := 0) hx hb dX12_workStack_21 (by decide) ?_
      refine lv_iconst (v := 2) hx hb dX12_workStack_22 (by decide) ?_
      obtain ⟨r21, σ22, h23, hm⟩ := bd_some hm
      refine k_v hI hA (va_runV (As := [.int 0, .int 2]) (rest := []) hX (c_X12_ends N n h23 _) (cwV 2 ht (in_V mw_1012 mw_1013 mw_1014 mw_861 mw_1009) rfl rfl rfl pd_X12_ends ⟨Nat.le_of_ble_eq_true rfl, Nat.le_of_ble_eq_true rfl⟩) ⟨q_blind, va_recv hK hI.1 (ci := 11) (q0 := 59) rfl rfl, q_to hI hK hN hZ hA⟩ rfl rfl hl.1 rfl (lv_room (Nat.le_of_ble_eq_true rfl)) dX12_workStack_23 (by decide)) (fun H locs hI => ?_)
      exact hR _ _ _ _ _ hm hI dX12_workStack_26
def f_X12_stepStack (N n : Nat) (σ : Sg)  : Option (Int32 × Sg) := gb 0 2 (if (σ 93 (ix 0)) = 0 then (bd (f_X12_enters N n σ 0 0) (fun r73 σ74 => gb 0 2 (gb ((σ74 93 (ix 0)) - 1) 60 (gb (σ74 94 (ix ((σ74 93 (ix 0)) - 1))) 12 (gb ((σ74 93 (ix 0)) - 1) 60 (gb ((σ74 62 (ix (σ74 94 (ix ((σ74 93 (ix 0)) - 1))))) + (σ74 95 (ix ((σ74 93 (ix 0)) - 1)))) 300 (gb ((σ74 93 (ix 0)) - 1) 60 (gb ((σ74 93 (ix 0)) - 1) 60 (gb 0 2 (gb 0 2 (gb ((σ74 62 (ix (σ74 94 (ix ((σ74 93 (ix 0)) - 1))))) + (σ74 95 (ix ((σ74 93 (ix 0)) - 1)))) 300 (if (σ74 64 (ix ((σ74 62 (ix (σ74 94 (ix ((σ74 93 (ix 0)) - 1))))) + (σ74 95 (ix ((σ74 93 (ix 0)) - 1)))))) = 0 then (bd (f_X12_push N n (sg (sg σ74 95 (ix ((σ74 93 (ix 0)) - 1)) ((σ74 95 (ix ((σ74 93 (ix 0)) - 1))) + 1)) 91 (ix 0) ((σ74 91 (ix 0)) + 1)) (σ74 65 (ix ((σ74 62 (ix (σ74 94 (ix ((σ74 93 (ix 0)) - 1))))) + (σ74 95 (ix ((σ74 93 (ix 0)) - 1))))))) (fun r87 σ88 => some (0, σ88))) else (if (σ74 64 (ix ((σ74 62 (ix (σ74 94 (ix ((σ74 93 (ix 0)) - 1))))) + (σ74 95 (ix ((σ74 93 (ix 0)) - 1)))))) = 1 then (gb ((24 * ((σ74 93 (ix 0)) - 1)) + (σ74 65 (ix ((σ74 62 (ix (σ74 94 (ix ((σ74 93 (ix 0)) - 1))))) + (σ74 95 (ix ((σ74 93 (ix 0)) - 1))))))) 1440 (bd (f_X12_push N n (sg (sg σ74 95 (ix ((σ74 93 (ix 0)) - 1)) ((σ74 95 (ix ((σ74 93 (ix 0)) - 1))) + 1)) 91 (ix 0) ((σ74 91 (ix 0)) + 1)) (σ74 96 (ix ((24 * ((σ74 93 (ix 0)) - 1)) + (σ74 65 (ix ((σ74 62 (ix (σ74 94 (ix ((σ74 93 (ix 0)) - 1))))) + (σ74 95 (ix ((σ74 93 (ix 0)) - 1)))))))))) (fun r92 σ93 => some (0, σ93)))) else (if (σ74 64 (ix ((σ74 62 (ix (σ74 94 (ix ((σ74 93 (ix 0)) - 1))))) + (σ74 95 (ix ((σ74 93 (ix 0)) - 1)))))) = 2 then (bd (f_X12_pop N n (sg (sg σ74 95 (ix ((σ74 93 (ix 0)) - 1)) ((σ74 95 (ix ((σ74 93 (ix 0)) - 1))) + 1)) 91 (ix 0) ((σ74 91 (ix 0)) + 1)) ) (fun r96 σ97 => gb ((24 * ((σ74 93 (ix 0)) - 1)) + (σ74 65 (ix ((σ74 62 (ix (σ74 94 (ix ((σ74 93 (ix 0)) - 1))))) + (σ74 95 (ix ((σ74 93 (ix 0)) - 1))))))) 1440 (some (0, sg σ97 96 (ix ((24 * ((σ74 93 (ix 0)) - 1)) + (σ74 65 (ix ((σ74 62 (ix (σ74 94 (ix ((σ74 93 (ix 0)) - 1))))) + (σ74 95 (ix ((σ74 93 (ix 0)) - 1)))))))) r96)))) else (if (σ74 64 (ix ((σ74 62 (ix (σ74 94 (ix ((σ74 93 (ix 0)) - 1))))) + (σ74 95 (ix ((σ74 93 (ix 0)) - 1)))))) = 9 then (gb ((σ74 93 (ix 0)) - 1) 60 (gb (((24 * ((σ74 93 (ix 0)) - 1)) + (σ74 97 (ix ((σ74 93 (ix 0)) - 1)))) - 1) 1440 (bd (f_X12_push N n (sg (sg σ74 95 (ix ((σ74 93 (ix 0)) - 1)) ((σ74 95 (ix ((σ74 93 (ix 0)) - 1))) + 1)) 91 (ix 0) ((σ74 91 (ix 0)) + 1)) (σ74 96 (ix (((24 * ((σ74 93 (ix 0)) - 1)) + (σ74 97 (ix ((σ74 93 (ix 0)) - 1)))) - 1)))) (fun r103 σ104 => some (0, σ104))))) else (if (σ74 64 (ix ((σ74 62 (ix (σ74 94 (ix ((σ74 93 (ix 0)) - 1))))) + (σ74 95 (ix ((σ74 93 (ix 0)) - 1)))))) = 10 then (bd (f_X12_swapTop N n (sg (sg σ74 95 (ix ((σ74 93 (ix 0)) - 1)) ((σ74 95 (ix ((σ74 93 (ix 0)) - 1))) + 1)) 91 (ix 0) ((σ74 91 (ix 0)) + 1)) ) (fun r107 σ108 => some (0, σ108))) else (if (σ74 64 (ix ((σ74 62 (ix (σ74 94 (ix ((σ74 93 (ix 0)) - 1))))) + (σ74 95 (ix ((σ74 93 (ix 0)) - 1)))))) = 11 then (gb ((σ74 93 (ix 0)) - 1) 60 (gb ((σ74 93 (ix 0)) - 1) 60 (some (0, sg (sg (sg σ74 95 (ix ((σ74 93 (ix 0)) - 1)) ((σ74 95 (ix ((σ74 93 (ix 0)) - 1))) + 1)) 91 (ix 0) ((σ74 91 (ix 0)) + 1)) 97 (ix ((σ74 93 (ix 0)) - 1)) ((σ74 97 (ix ((σ74 93 (ix 0)) - 1))) - 1))))) else (if (σ74 64 (ix ((σ74 62 (ix (σ74 94 (ix ((σ74 93 (ix 0)) - 1))))) + (σ74 95 (ix ((σ74 93 (ix 0)) - 1)))))) = 12 then (gb ((σ74 93 (ix 0)) - 1) 60 (some (0, sg (sg (sg σ74 95 (ix ((σ74 93 (ix 0)) - 1)) ((σ74 95 (ix ((σ74 93 (ix 0)) - 1))) + 1)) 91 (ix 0) ((σ74 91 (ix 0)) + 1)) 95 (ix ((σ74 93 (ix 0)) - 1)) (σ74 65 (ix ((σ74 62 (ix (σ74 94 (ix ((σ74 93 (ix 0)) - 1))))) + (σ74 95 (ix ((σ74 93 (ix 0)) - 1))))))))) else (if (σ74 64 (ix ((σ74 62 (ix (σ74 94 (ix ((σ74 93 (ix 0)) - 1))))) + (σ74 95 (ix ((σ74 93 (ix 0)) - 1)))))) = 13 then (bd (f_X12_pop N n (sg (sg σ74 95 (ix ((σ74 93 (ix 0)) - 1)) ((σ74 95 (ix ((σ74 93 (ix 0)) - 1))) + 1)) 91 (ix 0) ((σ74 91 (ix 0)) + 1)) ) (fun r116 σ117 => if r116 = 0 then (gb ((σ74 93 (ix 0)) - 1) 60 (some (0, sg σ117 95 (ix ((σ74 93 (ix 0)) - 1)) (σ74 65 (ix ((σ74 62 (ix (σ74 94 (ix ((σ74 93 (ix 0)) - 1))))) + (σ74 95 (ix ((σ74 93 (ix 0)) - 1))))))))) else (gb ((σ74 93 (ix 0)) - 1) 60 (gb ((σ74 93 (ix 0)) - 1) 60 (some (0, sg σ117 95 (ix ((σ74 93 (ix 0)) - 1)) (σ117 95 (ix ((σ74 93 (ix 0)) - 1))))))))) else (if (σ74 64 (ix ((σ74 62 (ix (σ74 94 (ix ((σ74 93 (ix 0)) - 1))))) + (σ74 95 (ix ((σ74 93 (ix 0)) - 1)))))) = 14 then (bd (f_X12_callStack N n (sg (sg σ74 95 (ix ((σ74 93 (ix 0)) - 1)) ((σ74 95 (ix ((σ74 93 (ix 0)) - 1))) + 1)) 91 (ix 0) ((σ74 91 (ix 0)) + 1)) (σ74 65 (ix ((σ74 62 (ix (σ74 94 (ix ((σ74 93 (ix 0)) - 1))))) + (σ74 95 (ix ((σ74 93 (ix 0)) - 1))))))) (fun r124 σ125 => some (0, σ125))) else (if (σ74 64 (ix ((σ74 62 (ix (σ74 94 (ix ((σ74 93 (ix 0)) - 1))))) + (σ74 95 (ix ((σ74 93 (ix 0)) - 1)))))) = 15 then (bd (f_X12_pop N n (sg (sg σ74 95 (ix ((σ74 93 (ix 0)) - 1)) ((σ74 95 (ix ((σ74 93 (ix 0)) - 1))) + 1)) 91 (ix 0) ((σ74 91 (ix 0)) + 1)) ) (fun r128 σ129 => bd (f_X12_over N n σ129 0 r128) (fun r131 σ132 => some (0, σ132)))) else (if (σ74 64 (ix ((σ74 62 (ix (σ74 94 (ix ((σ74 93 (ix 0)) - 1))))) + (σ74 95 (ix ((σ74 93 (ix 0)) - 1)))))) = 16 then (bd (f_X12_readStack N n (sg (sg σ74 95 (ix ((σ74 93 (ix 0)) - 1)) ((σ74 95 (ix ((σ74 93 (ix 0)) - 1))) + 1)) 91 (ix 0) ((σ74 91 (ix 0)) + 1)) ) (fun r135 σ136 => some (0, σ136))) else (if (σ74 64 (ix ((σ74 62 (ix (σ74 94 (ix ((σ74 93 (ix 0)) - 1))))) + (σ74 95 (ix ((σ74 93 (ix 0)) - 1)))))) = 17 then (bd (f_X12_writeStack N n (sg (sg σ74 95 (ix ((σ74 93 (ix 0)) - 1)) ((σ74 95 (ix ((σ74 93 (ix 0)) - 1))) + 1)) 91 (ix 0) ((σ74 91 (ix 0)) + 1)) ) (fun r139 σ140 => some (0, σ140))) else (gb ((σ74 62 (ix (σ74 94 (ix ((σ74 93 (ix 0)) - 1))))) + (σ74 95 (ix ((σ74 93 (ix 0)) - 1)))) 300 (bd (f_X12_workStack N n (sg (sg σ74 95 (ix ((σ74 93 (ix 0)) - 1)) ((σ74 95 (ix ((σ74 93 (ix 0)) - 1))) + 1)) 91 (ix 0) ((σ74 91 (ix 0)) + 1)) (σ74 64 (ix ((σ74 62 (ix (σ74 94 (ix ((σ74 93 (ix 0)) - 1))))) + (σ74 95 (ix ((σ74 93 (ix 0)) - 1))))))) (fun r143 σ144 => some (0, σ144))))))))))))))))))))))))))) else (gb 0 2 (gb ((σ 93 (ix 0)) - 1) 60 (gb (σ 94 (ix ((σ 93 (ix 0)) - 1))) 12 (gb ((σ 93 (ix 0)) - 1) 60 (gb ((σ 62 (ix (σ 94 (ix ((σ 93 (ix 0)) - 1))))) + (σ 95 (ix ((σ 93 (ix 0)) - 1)))) 300 (gb ((σ 93 (ix 0)) - 1) 60 (gb ((σ 93 (ix 0)) - 1) 60 (gb 0 2 (gb 0 2 (gb ((σ 62 (ix (σ 94 (ix ((σ 93 (ix 0)) - 1))))) + (σ 95 (ix ((σ 93 (ix 0)) - 1)))) 300 (if (σ 64 (ix ((σ 62 (ix (σ 94 (ix ((σ 93 (ix 0)) - 1))))) + (σ 95 (ix ((σ 93 (ix 0)) - 1)))))) = 0 then (bd (f_X12_push N n (sg (sg σ 95 (ix ((σ 93 (ix 0)) - 1)) ((σ 95 (ix ((σ 93 (ix 0)) - 1))) + 1)) 91 (ix 0) ((σ 91 (ix 0)) + 1)) (σ 65 (ix ((σ 62 (ix (σ 94 (ix ((σ 93 (ix 0)) - 1))))) + (σ 95 (ix ((σ 93 (ix 0)) - 1))))))) (fun r14 σ15 => some (0, σ15))) else (if (σ 64 (ix ((σ 62 (ix (σ 94 (ix ((σ 93 (ix 0)) - 1))))) + (σ 95 (ix ((σ 93 (ix 0)) - 1)))))) = 1 then (gb ((24 * ((σ 93 (ix 0)) - 1)) + (σ 65 (ix ((σ 62 (ix (σ 94 (ix ((σ 93 (ix 0)) - 1))))) + (σ 95 (ix ((σ 93 (ix 0)) - 1))))))) 1440 (bd (f_X12_push N n (sg (sg σ 95 (ix ((σ 93 (ix 0)) - 1)) ((σ 95 (ix ((σ 93 (ix 0)) - 1))) + 1)) 91 (ix 0) ((σ 91 (ix 0)) + 1)) (σ 96 (ix ((24 * ((σ 93 (ix 0)) - 1)) + (σ 65 (ix ((σ 62 (ix (σ 94 (ix ((σ 93 (ix 0)) - 1))))) + (σ 95 (ix ((σ 93 (ix 0)) - 1)))))))))) (fun r19 σ20 => some (0, σ20)))) else (if (σ 64 (ix ((σ 62 (ix (σ 94 (ix ((σ 93 (ix 0)) - 1))))) + (σ 95 (ix ((σ 93 (ix 0)) - 1)))))) = 2 then (bd (f_X12_pop N n (sg (sg σ 95 (ix ((σ 93 (ix 0)) - 1)) ((σ 95 (ix ((σ 93 (ix 0)) - 1))) + 1)) 91 (ix 0) ((σ 91 (ix 0)) + 1)) ) (fun r23 σ24 => gb ((24 * ((σ 93 (ix 0)) - 1)) + (σ 65 (ix ((σ 62 (ix (σ 94 (ix ((σ 93 (ix 0)) - 1))))) + (σ 95 (ix ((σ 93 (ix 0)) - 1))))))) 1440 (some (0, sg σ24 96 (ix ((24 * ((σ 93 (ix 0)) - 1)) + (σ 65 (ix ((σ 62 (ix (σ 94 (ix ((σ 93 (ix 0)) - 1))))) + (σ 95 (ix ((σ 93 (ix 0)) - 1)))))))) r23)))) else (if (σ 64 (ix ((σ 62 (ix (σ 94 (ix ((σ 93 (ix 0)) - 1))))) + (σ 95 (ix ((σ 93 (ix 0)) - 1)))))) = 9 then (gb ((σ 93 (ix 0)) - 1) 60 (gb (((24 * ((σ 93 (ix 0)) - 1)) + (σ 97 (ix ((σ 93 (ix 0)) - 1)))) - 1) 1440 (bd (f_X12_push N n (sg (sg σ 95 (ix ((σ 93 (ix 0)) - 1)) ((σ 95 (ix ((σ 93 (ix 0)) - 1))) + 1)) 91 (ix 0) ((σ 91 (ix 0)) + 1)) (σ 96 (ix (((24 * ((σ 93 (ix 0)) - 1)) + (σ 97 (ix ((σ 93 (ix 0)) - 1)))) - 1)))) (fun r30 σ31 => some (0, σ31))))) else (if (σ 64 (ix ((σ 62 (ix (σ 94 (ix ((σ 93 (ix 0)) - 1))))) + (σ 95 (ix ((σ 93 (ix 0)) - 1)))))) = 10 then (bd (f_X12_swapTop N n (sg (sg σ 95 (ix ((σ 93 (ix 0)) - 1)) ((σ 95 (ix ((σ 93 (ix 0)) - 1))) + 1)) 91 (ix 0) ((σ 91 (ix 0)) + 1)) ) (fun r34 σ35 => some (0, σ35))) else (if (σ 64 (ix ((σ 62 (ix (σ 94 (ix ((σ 93 (ix 0)) - 1))))) + (σ 95 (ix ((σ 93 (ix 0)) - 1)))))) = 11 then (gb ((σ 93 (ix 0)) - 1) 60 (gb ((σ 93 (ix 0)) - 1) 60 (some (0, sg (sg (sg σ 95 (ix ((σ 93 (ix 0)) - 1)) ((σ 95 (ix ((σ 93 (ix 0)) - 1))) + 1)) 91 (ix 0) ((σ 91 (ix 0)) + 1)) 97 (ix ((σ 93 (ix 0)) - 1)) ((σ 97 (ix ((σ 93 (ix 0)) - 1))) - 1))))) else (if (σ 64 (ix ((σ 62 (ix (σ 94 (ix ((σ 93 (ix 0)) - 1))))) + (σ 95 (ix ((σ 93 (ix 0)) - 1)))))) = 12 then (gb ((σ 93 (ix 0)) - 1) 60 (some (0, sg (sg (sg σ 95 (ix ((σ 93 (ix 0)) - 1)) ((σ 95 (ix ((σ 93 (ix 0)) - 1))) + 1)) 91 (ix 0) ((σ 91 (ix 0)) + 1)) 95 (ix ((σ 93 (ix 0)) - 1)) (σ 65 (ix ((σ 62 (ix (σ 94 (ix ((σ 93 (ix 0)) - 1))))) + (σ 95 (ix ((σ 93 (ix 0)) - 1))))))))) else (if (σ 64 (ix ((σ 62 (ix (σ 94 (ix ((σ 93 (ix 0)) - 1))))) + (σ 95 (ix ((σ 93 (ix 0)) - 1)))))) = 13 then (bd (f_X12_pop N n (sg (sg σ 95 (ix ((σ 93 (ix 0)) - 1)) ((σ 95 (ix ((σ 93 (ix 0)) - 1))) + 1)) 91 (ix 0) ((σ 91 (ix 0)) + 1)) ) (fun r43 σ44 => if r43 = 0 then (gb ((σ 93 (ix 0)) - 1) 60 (some (0, sg σ44 95 (ix ((σ 93 (ix 0)) - 1)) (σ 65 (ix ((σ 62 (ix (σ 94 (ix ((σ 93 (ix 0)) - 1))))) + (σ 95 (ix ((σ 93 (ix 0)) - 1))))))))) else (gb ((σ 93 (ix 0)) - 1) 60 (gb ((σ 93 (ix 0)) - 1) 60 (some (0, sg σ44 95 (ix ((σ 93 (ix 0)) - 1)) (σ44 95 (ix ((σ 93 (ix 0)) - 1))))))))) else (if (σ 64 (ix ((σ 62 (ix (σ 94 (ix ((σ 93 (ix 0)) - 1))))) + (σ 95 (ix ((σ 93 (ix 0)) - 1)))))) = 14 then (bd (f_X12_callStack N n (sg (sg σ 95 (ix ((σ 93 (ix 0)) - 1)) ((σ 95 (ix ((σ 93 (ix 0)) - 1))) + 1)) 91 (ix 0) ((σ 91 (ix 0)) + 1)) (σ 65 (ix ((σ 62 (ix (σ 94 (ix ((σ 93 (ix 0)) - 1))))) + (σ 95 (ix ((σ 93 (ix 0)) - 1))))))) (fun r51 σ52 => some (0, σ52))) else (if (σ 64 (ix ((σ 62 (ix (σ 94 (ix ((σ 93 (ix 0)) - 1))))) + (σ 95 (ix ((σ 93 (ix 0)) - 1)))))) = 15 then (bd (f_X12_pop N n (sg (sg σ 95 (ix ((σ 93 (ix 0)) - 1)) ((σ 95 (ix ((σ 93 (ix 0)) - 1))) + 1)) 91 (ix 0) ((σ 91 (ix 0)) + 1)) ) (fun r55 σ56 => bd (f_X12_over N n σ56 0 r55) (fun r58 σ59 => some (0, σ59)))) else (if (σ 64 (ix ((σ 62 (ix (σ 94 (ix ((σ 93 (ix 0)) - 1))))) + (σ 95 (ix ((σ 93 (ix 0)) - 1)))))) = 16 then (bd (f_X12_readStack N n (sg (sg σ 95 (ix ((σ 93 (ix 0)) - 1)) ((σ 95 (ix ((σ 93 (ix 0)) - 1))) + 1)) 91 (ix 0) ((σ 91 (ix 0)) + 1)) ) (fun r62 σ63 => some (0, σ63))) else (if (σ 64 (ix ((σ 62 (ix (σ 94 (ix ((σ 93 (ix 0)) - 1))))) + (σ 95 (ix ((σ 93 (ix 0)) - 1)))))) = 17 then (bd (f_X12_writeStack N n (sg (sg σ 95 (ix ((σ 93 (ix 0)) - 1)) ((σ 95 (ix ((σ 93 (ix 0)) - 1))) + 1)) 91 (ix 0) ((σ 91 (ix 0)) + 1)) ) (fun r66 σ67 => some (0, σ67))) else (gb ((σ 62 (ix (σ 94 (ix ((σ 93 (ix 0)) - 1))))) + (σ 95 (ix ((σ 93 (ix 0)) - 1)))) 300 (bd (f_X12_workStack N n (sg (sg σ 95 (ix ((σ 93 (ix 0)) - 1)) ((σ 95 (ix ((σ 93 (ix 0)) - 1))) + 1)) 91 (ix 0) ((σ 91 (ix 0)) + 1)) (σ 64 (ix ((σ 62 (ix (σ 94 (ix ((σ 93 (ix 0)) - 1))))) + (σ 95 (ix ((σ 93 (ix 0)) - 1))))))) (fun r70 σ71 => some (0, σ71)))))))))))))))))))))))))))
set_option maxHeartbeats 4000000 in
set_option maxRecDepth 100000 in
theorem c_X12_stepStack {l : Launch} {g : GG} {q : Nat} (N n : Nat) {σ : Sg}  {r : Int32} {σ' : Sg} (hm : f_X12_stepStack N n σ  = some (r, σ')) : CTv l yX12_stepStack cX12_stepStack 4 none 2 46 g q n [.ref (ga g 59)] σ σ' := by
  refine e_v (r := r) (by decide) (Nat.le_of_ble_eq_true rfl) ?_
  intro p e s m args below meth c A Q ls hC hl hI
  obtain ⟨hX, hK, hN, hZ, hA, hR⟩ := id hC
  have hx : p.tables.exec = Jvm.exec := hX.1
  have hb : c.code = cX12_stepStack := hX.2.1
  have hml : c.maxLocals = 4 := hX.2.2.1
  have hown : s.vm.findClass RX12 = some m.cls := hX.2.2.2.1
  have ht : ∀ w ∈ BIG, w.before args s = true := hX.2.2.2.2
  have hl : lv_has ls 4 [(0, .ref (ga g 59))] := hl
  unfold f_X12_stepStack at hm
  refine lv_aload_n hx hb dX12_stepStack_0 rfl (lv_at hl 0 rfl) ?_
  refine gf_59_43 hx hb ht hK hI mw_788 (fun _ h9 => h9) hown dX12_stepStack_1 ?_
  refine lv_iconst (v := 0) hx hb dX12_stepStack_4 (by decide) ?_
  obtain ⟨g1, hm⟩ := gb_some hm
  refine ld_93 hx hb hK hI g1 (v := σ 93 (ix 0)) rfl dX12_stepStack_5 ?_
  refine lv_if_ne (tgt := 15) hx hb dX12_stepStack_6 (by decide) (fun c2 => ?_) (fun c2 => ?_)
  · have hm := (if_neg c2).symm.trans hm
    refine lv_aload_n hx hb dX12_stepStack_15 rfl (lv_at hl 0 rfl) ?_
    refine gf_59_43 hx hb ht hK hI mw_788 (fun _ h9 => h9) hown dX12_stepStack_16 ?_
    refine lv_iconst (v := 0) hx hb dX12_stepStack_19 (by decide) ?_
    obtain ⟨g3, hm⟩ := gb_some hm
    refine ld_93 hx hb hK hI g3 (v := σ 93 (ix 0)) rfl dX12_stepStack_20 ?_
    refine lv_iconst (v := 1) hx hb dX12_stepStack_21 (by decide) ?_
    refine lv_isub hx hb dX12_stepStack_22 ?_
    refine lv_istore_n (lv' := [(1, .int ((σ 93 (ix 0)) - 1)), (0, .ref (ga g 59))]) hx hb dX12_stepStack_23 rfl hl (by decide) rfl (fun ls hl => ?_)
    refine lv_aload_n hx hb dX12_stepStack_24 rfl (lv_at hl 1 rfl) ?_
    refine gf_59_4 hx hb ht hK hI mw_757 (fun _ h9 => h9) hown dX12_stepStack_25 ?_
    refine lv_aload_n hx hb dX12_stepStack_28 rfl (lv_at hl 1 rfl) ?_
    refine gf_59_44 hx hb ht hK hI mw_789 (fun _ h9 => h9) hown dX12_stepStack_29 ?_
    refine lv_iload_n hx hb dX12_stepStack_32 rfl (lv_at hl 0 rfl) ?_
    obtain ⟨g4, hm⟩ := gb_some hm
    refine ld_94 hx hb hK hI g4 (v := σ 94 (ix ((σ 93 (ix 0)) - 1))) rfl dX12_stepStack_33 ?_
    obtain ⟨g5, hm⟩ := gb_some hm
    refine ld_62 hx hb hK hI g5 (v := σ 62 (ix (σ 94 (ix ((σ 93 (ix 0)) - 1))))) rfl dX12_stepStack_34 ?_
    refine lv_aload_n hx hb dX12_stepStack_35 rfl (lv_at hl 1 rfl) ?_
    refine gf_59_45 hx hb ht hK hI mw_790 (fun _ h9 => h9) hown dX12_stepStack_36 ?_
    refine lv_iload_n hx hb dX12_stepStack_39 rfl (lv_at hl 0 rfl) ?_
    obtain ⟨g6, hm⟩ := gb_some hm
    refine ld_95 hx hb hK hI g6 (v := σ 95 (ix ((σ 93 (ix 0)) - 1))) rfl dX12_stepStack_40 ?_
    refine lv_iadd hx hb dX12_stepStack_41 ?_
    refine lv_istore_n (lv' := [(2, .int ((σ 62 (ix (σ 94 (ix ((σ 93 (ix 0)) - 1))))) + (σ 95 (ix ((σ 93 (ix 0)) - 1))))), (1, .int ((σ 93 (ix 0)) - 1)), (0, .ref (ga g 59))]) hx hb dX12_stepStack_42 rfl hl (by decide) rfl (fun ls hl => ?_)
    refine lv_aload_n hx hb dX12_stepStack_43 rfl (lv_at hl 2 rfl) ?_
    refine gf_59_8 hx hb ht hK hI mw_760 (fun _ h9 => h9) hown dX12_stepStack_44 ?_
    refine lv_iload_n hx hb dX12_stepStack_47 rfl (lv_at hl 0 rfl) ?_
    obtain ⟨g7, hm⟩ := gb_some hm
    refine ld_65 hx hb hK hI g7 (v := σ 65 (ix ((σ 62 (ix (σ 94 (ix ((σ 93 (ix 0)) - 1))))) + (σ 95 (ix ((σ 93 (ix 0)) - 1)))))) rfl dX12_stepStack_48 ?_
    refine lv_istore_n (lv' := [(3, .int (σ 65 (ix ((σ 62 (ix (σ 94 (ix ((σ 93 (ix 0)) - 1))))) + (σ 95 (ix ((σ 93 (ix 0)) - 1))))))), (2, .int ((σ 62 (ix (σ 94 (ix ((σ 93 (ix 0)) - 1))))) + (σ 95 (ix ((σ 93 (ix 0)) - 1))))), (1, .int ((σ 93 (ix 0)) - 1)), (0, .ref (ga g 59))]) hx hb dX12_stepStack_49 rfl hl (by decide) rfl (fun ls hl => ?_)
    refine lv_aload_n hx hb dX12_stepStack_50 rfl (lv_at hl 3 rfl) ?_
    refine gf_59_45 hx hb ht hK hI mw_790 (fun _ h9 => h9) hown dX12_stepStack_51 ?_
    refine lv_iload_n hx hb dX12_stepStack_54 rfl (lv_at hl 2 rfl) ?_
    refine lv_dup2_11 hx hb dX12_stepStack_55 rfl rfl ?_
    obtain ⟨g8, hm⟩ := gb_some hm
    refine ld_95 hx hb hK hI g8 (v := σ 95 (ix ((σ 93 (ix 0)) - 1))) rfl dX12_stepStack_56 ?_
    refine lv_iconst (v := 1) hx hb dX12_stepStack_57 (by decide) ?_
    refine lv_iadd hx hb dX12_stepStack_58 ?_
    obtain ⟨g9, hm⟩ := gb_some hm
    refine sv_95 hx hb hK hI g9 dX12_stepStack_59 (fun H locs hI => ?_)
    refine lv_aload_n hx hb dX12_stepStack_60 rfl (lv_at hl 3 rfl) ?_
    refine gf_59_41 hx hb ht hK hI mw_786 (fun _ h9 => h9) hown dX12_stepStack_61 ?_
    refine lv_iconst (v := 0) hx hb dX12_stepStack_64 (by decide) ?_
    refine lv_dup2_11 hx hb dX12_stepStack_65 rfl rfl ?_
    obtain ⟨g10, hm⟩ := gb_some hm
    refine ld_91 hx hb hK hI g10 (v := σ 91 (ix 0)) rfl dX12_stepStack_66 ?_
    refine lv_iconst (v := 1) hx hb dX12_stepStack_67 (by decide) ?_
    refine lv_iadd hx hb dX12_stepStack_68 ?_
    obtain ⟨g11, hm⟩ := gb_some hm
    refine sv_91 hx hb hK hI g11 dX12_stepStack_69 (fun H locs hI => ?_)
    refine lv_aload_n hx hb dX12_stepStack_70 rfl (lv_at hl 3 rfl) ?_
    refine gf_59_7 hx hb ht hK hI mw_759 (fun _ h9 => h9) hown dX12_stepStack_71 ?_
    refine lv_iload_n hx hb dX12_stepStack_74 rfl (lv_at hl 1 rfl) ?_
    obtain ⟨g12, hm⟩ := gb_some hm
    refine ld_64 hx hb hK hI g12 (v := σ 64 (ix ((σ 62 (ix (σ 94 (ix ((σ 93 (ix 0)) - 1))))) + (σ 95 (ix ((σ 93 (ix 0)) - 1)))))) rfl dX12_stepStack_75 ?_
    by_cases c13 : (σ 64 (ix ((σ 62 (ix (σ 94 (ix ((σ 93 (ix 0)) - 1))))) + (σ 95 (ix ((σ 93 (ix 0)) - 1)))))) = 0
    · have hm := (if_pos c13).symm.trans hm
      refine lv_tableIn (off := 88) (tgt := 164) hx hb dX12_stepStack_76 (by (rw [c13]; decide)) (by (rw [c13]; decide)) (by (rw [c13]; rfl)) (by decide) ?_
      refine lv_aload_n hx hb dX12_stepStack_164 rfl (lv_at hl 3 rfl) ?_
      refine lv_iload_n hx hb dX12_stepStack_165 rfl (lv_at hl 0 rfl) ?_
      obtain ⟨r14, σ15, h16, hm⟩ := bd_some hm
      refine k_v hI hA (va_runV (As := [.int (σ 65 (ix ((σ 62 (ix (σ 94 (ix ((σ 93 (ix 0)) - 1))))) + (σ 95 (ix ((σ 93 (ix 0)) - 1))))))]) (rest := []) hX (c_X12_push N n h16 _) (cwV 1 ht (in_V mw_1015 mw_1016 mw_1017 mw_861 mw_1010) rfl rfl rfl pd_X12_push ⟨Nat.le_of_ble_eq_true rfl, Nat.le_of_ble_eq_true rfl⟩) ⟨q_blind, va_recv hK hI.1 (ci := 11) (q0 := 59) rfl rfl, q_to hI hK hN hZ hA⟩ rfl rfl hl.1 rfl (lv_room (Nat.le_of_ble_eq_true rfl)) dX12_stepStack_166 (by decide)) (fun H locs hI => ?_)
      exact hR _ _ _ _ _ hm hI dX12_stepStack_169
    have hm := (if_neg c13).symm.trans hm
    by_cases c17 : (σ 64 (ix ((σ 62 (ix (σ 94 (ix ((σ 93 (ix 0)) - 1))))) + (σ 95 (ix ((σ 93 (ix 0)) - 1)))))) = 1
    · have hm := (if_pos c17).symm.trans hm
      refine lv_tableIn (off := 94) (tgt := 170) hx hb dX12_stepStack_76 (by (rw [c17]; decide)) (by (rw [c17]; decide)) (by (rw [c17]; rfl)) (by decide) ?_
      refine lv_aload_n hx hb dX12_stepStack_170 rfl (lv_at hl 3 rfl) ?_
      refine lv_aload_n hx hb dX12_stepStack_171 rfl (lv_at hl 3 rfl) ?_
      refine gf_59_46 hx hb ht hK hI mw_791 (fun _ h9 => h9) hown dX12_stepStack_172 ?_
      refine lv_bipush (v := 24) hx hb dX12_stepStack_175 (by decide) ?_
      refine lv_iload_n hx hb dX12_stepStack_177 rfl (lv_at hl 2 rfl) ?_
      refine lv_imul hx hb dX12_stepStack_178 ?_
      refine lv_iload_n hx hb dX12_stepStack_179 rfl (lv_at hl 0 rfl) ?_
      refine lv_iadd hx hb dX12_stepStack_180 ?_
      obtain ⟨g18, hm⟩ := gb_some hm
      refine ld_96 hx hb hK hI g18 (v := σ 96 (ix ((24 * ((σ 93 (ix 0)) - 1)) + (σ 65 (ix ((σ 62 (ix (σ 94 (ix ((σ 93 (ix 0)) - 1))))) + (σ 95 (ix ((σ 93 (ix 0)) - 1))))))))) rfl dX12_stepStack_181 ?_
      obtain ⟨r19, σ20, h21, hm⟩ := bd_some hm
      refine k_v hI hA (va_runV (As := [.int (σ 96 (ix ((24 * ((σ 93 (ix 0)) - 1)) + (σ 65 (ix ((σ 62 (ix (σ 94 (ix ((σ 93 (ix 0)) - 1))))) + (σ 95 (ix ((σ 93 (ix 0)) - 1)))))))))]) (rest := []) hX (c_X12_push N n h21 _) (cwV 1 ht (in_V mw_1015 mw_1016 mw_1017 mw_861 mw_1010) rfl rfl rfl pd_X12_push ⟨Nat.le_of_ble_eq_true rfl, Nat.le_of_ble_eq_true rfl⟩) ⟨q_blind, va_recv hK hI.1 (ci := 11) (q0 := 59) rfl rfl, q_to hI hK hN hZ hA⟩ rfl rfl hl.1 rfl (lv_room (Nat.le_of_ble_eq_true rfl)) dX12_stepStack_182 (by decide)) (fun H locs hI => ?_)
      exact hR _ _ _ _ _ hm hI dX12_stepStack_185
    have hm := (if_neg c17).symm.trans hm
    by_cases c22 : (σ 64 (ix ((σ 62 (ix (σ 94 (ix ((σ 93 (ix 0)) - 1))))) + (σ 95 (ix ((σ 93 (ix 0)) - 1)))))) = 2
    · have hm := (if_pos c22).symm.trans hm
      refine lv_tableIn (off := 110) (tgt := 186) hx hb dX12_stepStack_76 (by (rw [c22]; decide)) (by (rw [c22]; decide)) (by (rw [c22]; rfl)) (by decide) ?_
      refine lv_aload_n hx hb dX12_stepStack_186 rfl (lv_at hl 3 rfl) ?_
      refine gf_59_46 hx hb ht hK hI mw_791 (fun _ h9 => h9) hown dX12_stepStack_187 ?_
      refine lv_bipush (v := 24) hx hb dX12_stepStack_190 (by decide) ?_
      refine lv_iload_n hx hb dX12_stepStack_192 rfl (lv_at hl 2 rfl) ?_
      refine lv_imul hx hb dX12_stepStack_193 ?_
      refine lv_iload_n hx hb dX12_stepStack_194 rfl (lv_at hl 0 rfl) ?_
      refine lv_iadd hx hb dX12_stepStack_195 ?_
      refine lv_aload_n hx hb dX12_stepStack_196 rfl (lv_at hl 3 rfl) ?_
      obtain ⟨r23, σ24, h25, hm⟩ := bd_some hm
      refine k_i hI hA (va_runV (As := []) (rest := [.int ((24 * ((σ 93 (ix 0)) - 1)) + (σ 65 (ix ((σ 62 (ix (σ 94 (ix ((σ 93 (ix 0)) - 1))))) + (σ 95 (ix ((σ 93 (ix 0)) - 1))))))), .ref (ga g 96)]) hX (c_X12_pop N n h25 _) (cwV 0 ht (in_V mw_1021 mw_1022 mw_1023 mw_861 mw_1018) rfl rfl rfl pd_X12_pop ⟨Nat.le_of_ble_eq_true rfl, Nat.le_of_ble_eq_true rfl⟩) ⟨q_blind, va_recv hK hI.1 (ci := 11) (q0 := 59) rfl rfl, q_to hI hK hN hZ hA⟩ rfl rfl hl.1 rfl (lv_room (Nat.le_of_ble_eq_true rfl)) dX12_stepStack_197 (by decide)) (fun H locs hI => ?_)
      obtain ⟨g26, hm⟩ := gb_some hm
      refine sv_96 hx hb hK hI g26 dX12_stepStack_200 (fun H locs hI => ?_)
      exact hR _ _ _ _ _ hm hI dX12_stepStack_201
    have hm := (if_neg c22).symm.trans hm
    by_cases c27 : (σ 64 (ix ((σ 62 (ix (σ 94 (ix ((σ 93 (ix 0)) - 1))))) + (σ 95 (ix ((σ 93 (ix 0)) - 1)))))) = 9
    · have hm := (if_pos c27).symm.trans hm
      refine lv_tableIn (off := 126) (tgt := 202) hx hb dX12_stepStack_76 (by (rw [c27]; decide)) (by (rw [c27]; decide)) (by (rw [c27]; rfl)) (by decide) ?_
      refine lv_aload_n hx hb dX12_stepStack_202 rfl (lv_at hl 3 rfl) ?_
      refine lv_aload_n hx hb dX12_stepStack_203 rfl (lv_at hl 3 rfl) ?_
      refine gf_59_46 hx hb ht hK hI mw_791 (fun _ h9 => h9) hown dX12_stepStack_204 ?_
      refine lv_bipush (v := 24) hx hb dX12_stepStack_207 (by decide) ?_
      refine lv_iload_n hx hb dX12_stepStack_209 rfl (lv_at hl 2 rfl) ?_
      refine lv_imul hx hb dX12_stepStack_210 ?_
      refine lv_aload_n hx hb dX12_stepStack_211 rfl (lv_at hl 3 rfl) ?_
      refine gf_59_47 hx hb ht hK hI mw_792 (fun _ h9 => h9) hown dX12_stepStack_212 ?_
      refine lv_iload_n hx hb dX12_stepStack_215 rfl (lv_at hl 2 rfl) ?_
      obtain ⟨g28, hm⟩ := gb_some hm
      refine ld_97 hx hb hK hI g28 (v := σ 97 (ix ((σ 93 (ix 0)) - 1))) rfl dX12_stepStack_216 ?_
      refine lv_iadd hx hb dX12_stepStack_217 ?_
      refine lv_iconst (v := 1) hx hb dX12_stepStack_218 (by decide) ?_
      refine lv_isub hx hb dX12_stepStack_219 ?_
      obtain ⟨g29, hm⟩ := gb_some hm
      refine ld_96 hx hb hK hI g29 (v := σ 96 (ix (((24 * ((σ 93 (ix 0)) - 1)) + (σ 97 (ix ((σ 93 (ix 0)) - 1)))) - 1))) rfl dX12_stepStack_220 ?_
      obtain ⟨r30, σ31, h32, hm⟩ := bd_some hm
      refine k_v hI hA (va_runV (As := [.int (σ 96 (ix (((24 * ((σ 93 (ix 0)) - 1)) + (σ 97 (ix ((σ 93 (ix 0)) - 1)))) - 1)))]) (rest := []) hX (c_X12_push N n h32 _) (cwV 1 ht (in_V mw_1015 mw_1016 mw_1017 mw_861 mw_1010) rfl rfl rfl pd_X12_push ⟨Nat.le_of_ble_eq_true rfl, Nat.le_of_ble_eq_true rfl⟩) ⟨q_blind, va_recv hK hI.1 (ci := 11) (q0 := 59) rfl rfl, q_to hI hK hN hZ hA⟩ rfl rfl hl.1 rfl (lv_room (Nat.le_of_ble_eq_true rfl)) dX12_stepStack_221 (by decide)) (fun H locs hI => ?_)
      exact hR _ _ _ _ _ hm hI dX12_stepStack_224
    have hm := (if_neg c27).symm.trans hm
    by_cases c33 : (σ 64 (ix ((σ 62 (ix (σ 94 (ix ((σ 93 (ix 0)) - 1))))) + (σ 95 (ix ((σ 93 (ix 0)) - 1)))))) = 10
    · have hm := (if_pos c33).symm.trans hm
      refine lv_tableIn (off := 149) (tgt := 225) hx hb dX12_stepStack_76 (by (rw [c33]; decide)) (by (rw [c33]; decide)) (by (rw [c33]; rfl)) (by decide) ?_
      refine lv_aload_n hx hb dX12_stepStack_225 rfl (lv_at hl 3 rfl) ?_
      obtain ⟨r34, σ35, h36, hm⟩ := bd_some hm
      refine k_v hI hA (va_runV (As := []) (rest := []) hX (c_X12_swapTop N n h36 _) (cwV 0 ht (in_V mw_1037 mw_1038 mw_1039 mw_861 mw_1020) rfl rfl rfl pd_X12_swapTop ⟨Nat.le_of_ble_eq_true rfl, Nat.le_of_ble_eq_true rfl⟩) ⟨q_blind, va_recv hK hI.1 (ci := 11) (q0 := 59) rfl rfl, q_to hI hK hN hZ hA⟩ rfl rfl hl.1 rfl (lv_room (Nat.le_of_ble_eq_true rfl)) dX12_stepStack_226 (by decide)) (fun H locs hI => ?_)
      exact hR _ _ _ _ _ hm hI dX12_stepStack_229
    have hm := (if_neg c33).symm.trans hm
    by_cases c37 : (σ 64 (ix ((σ 62 (ix (σ 94 (ix ((σ 93 (ix 0)) - 1))))) + (σ 95 (ix ((σ 93 (ix 0)) - 1)))))) = 11
    · have hm := (if_pos c37).symm.trans hm
      refine lv_tableIn (off := 154) (tgt := 230) hx hb dX12_stepStack_76 (by (rw [c37]; decide)) (by (rw [c37]; decide)) (by (rw [c37]; rfl)) (by decide) ?_
      refine lv_aload_n hx hb dX12_stepStack_230 rfl (lv_at hl 3 rfl) ?_
      refine gf_59_47 hx hb ht hK hI mw_792 (fun _ h9 => h9) hown dX12_stepStack_231 ?_
      refine lv_iload_n hx hb dX12_stepStack_234 rfl (lv_at hl 2 rfl) ?_
      refine lv_dup2_11 hx hb dX12_stepStack_235 rfl rfl ?_
      obtain ⟨g38, hm⟩ := gb_some hm
      refine ld_97 hx hb hK hI g38 (v := σ 97 (ix ((σ 93 (ix 0)) - 1))) rfl dX12_stepStack_236 ?_
      refine lv_iconst (v := 1) hx hb dX12_stepStack_237 (by decide) ?_
      refine lv_isub hx hb dX12_stepStack_238 ?_
      obtain ⟨g39, hm⟩ := gb_some hm
      refine sv_97 hx hb hK hI g39 dX12_stepStack_239 (fun H locs hI => ?_)
      exact hR _ _ _ _ _ hm hI dX12_stepStack_240
    have hm := (if_neg c37).symm.trans hm
    by_cases c40 : (σ 64 (ix ((σ 62 (ix (σ 94 (ix ((σ 93 (ix 0)) - 1))))) + (σ 95 (ix ((σ 93 (ix 0)) - 1)))))) = 12
    · have hm := (if_pos c40).symm.trans hm
      refine lv_tableIn (off := 165) (tgt := 241) hx hb dX12_stepStack_76 (by (rw [c40]; decide)) (by (rw [c40]; decide)) (by (rw [c40]; rfl)) (by decide) ?_
      refine lv_aload_n hx hb dX12_stepStack_241 rfl (lv_at hl 3 rfl) ?_
      refine gf_59_45 hx hb ht hK hI mw_790 (fun _ h9 => h9) hown dX12_stepStack_242 ?_
      refine lv_iload_n hx hb dX12_stepStack_245 rfl (lv_at hl 2 rfl) ?_
      refine lv_iload_n hx hb dX12_stepStack_246 rfl (lv_at hl 0 rfl) ?_
      obtain ⟨g41, hm⟩ := gb_some hm
      refine sv_95 hx hb hK hI g41 dX12_stepStack_247 (fun H locs hI => ?_)
      exact hR _ _ _ _ _ hm hI dX12_stepStack_248
    have hm := (if_neg c40).symm.trans hm
    by_cases c42 : (σ 64 (ix ((σ 62 (ix (σ 94 (ix ((σ 93 (ix 0)) - 1))))) + (σ 95 (ix ((σ 93 (ix 0)) - 1)))))) = 13
    · have hm := (if_pos c42).symm.trans hm
      refine lv_tableIn (off := 173) (tgt := 249) hx hb dX12_stepStack_76 (by (rw [c42]; decide)) (by (rw [c42]; decide)) (by (rw [c42]; rfl)) (by decide) ?_
      refine lv_aload_n hx hb dX12_stepStack_249 rfl (lv_at hl 3 rfl) ?_
      refine gf_59_45 hx hb ht hK hI mw_790 (fun _ h9 => h9) hown dX12_stepStack_250 ?_
      refine lv_iload_n hx hb dX12_stepStack_253 rfl (lv_at hl 2 rfl) ?_
      refine lv_aload_n hx hb dX12_stepStack_254 rfl (lv_at hl 3 rfl) ?_
      obtain ⟨r43, σ44, h45, hm⟩ := bd_some hm
      refine k_i hI hA (va_runV (As := []) (rest := [.int ((σ 93 (ix 0)) - 1), .ref (ga g 95)]) hX (c_X12_pop N n h45 _) (cwV 0 ht (in_V mw_1021 mw_1022 mw_1023 mw_861 mw_1018) rfl rfl rfl pd_X12_pop ⟨Nat.le_of_ble_eq_true rfl, Nat.le_of_ble_eq_true rfl⟩) ⟨q_blind, va_recv hK hI.1 (ci := 11) (q0 := 59) rfl rfl, q_to hI hK hN hZ hA⟩ rfl rfl hl.1 rfl (lv_room (Nat.le_of_ble_eq_true rfl)) dX12_stepStack_255 (by decide)) (fun H locs hI => ?_)
      refine lv_if_ne (tgt := 265) hx hb dX12_stepStack_258 (by decide) (fun c46 => ?_) (fun c46 => ?_)
      · have hm := (if_neg c46).symm.trans hm
        refine lv_aload_n hx hb dX12_stepStack_265 rfl (lv_at hl 3 rfl) ?_
        refine gf_59_45 hx hb ht hK hI mw_790 (fun _ h9 => h9) hown dX12_stepStack_266 ?_
        refine lv_iload_n hx hb dX12_stepStack_269 rfl (lv_at hl 2 rfl) ?_
        obtain ⟨g47, hm⟩ := gb_some hm
        refine ld_95 hx hb hK hI g47 (v := σ44 95 (ix ((σ 93 (ix 0)) - 1))) rfl dX12_stepStack_270 ?_
        obtain ⟨g48, hm⟩ := gb_some hm
        refine sv_95 hx hb hK hI g48 dX12_stepStack_271 (fun H locs hI => ?_)
        exact hR _ _ _ _ _ hm hI dX12_stepStack_272
      · have hm := (if_pos c46).symm.trans hm
        refine lv_iload_n hx hb dX12_stepStack_261 rfl (lv_at hl 0 rfl) ?_
        refine lv_goto (tgt := 271) hx hb dX12_stepStack_262 (by decide) ?_
        obtain ⟨g49, hm⟩ := gb_some hm
        refine sv_95 hx hb hK hI g49 dX12_stepStack_271 (fun H locs hI => ?_)
        exact hR _ _ _ _ _ hm hI dX12_stepStack_272
    have hm := (if_neg c42).symm.trans hm
    by_cases c50 : (σ 64 (ix ((σ 62 (ix (σ 94 (ix ((σ 93 (ix 0)) - 1))))) + (σ 95 (ix ((σ 93 (ix 0)) - 1)))))) = 14
    · have hm := (if_pos c50).symm.trans hm
      refine lv_tableIn (off := 197) (tgt := 273) hx hb dX12_stepStack_76 (by (rw [c50]; decide)) (by (rw [c50]; decide)) (by (rw [c50]; rfl)) (by decide) ?_
      refine lv_aload_n hx hb dX12_stepStack_273 rfl (lv_at hl 3 rfl) ?_
      refine lv_iload_n hx hb dX12_stepStack_274 rfl (lv_at hl 0 rfl) ?_
      obtain ⟨r51, σ52, h53, hm⟩ := bd_some hm
      refine k_v hI hA (va_runV (As := [.int (σ 65 (ix ((σ 62 (ix (σ 94 (ix ((σ 93 (ix 0)) - 1))))) + (σ 95 (ix ((σ 93 (ix 0)) - 1))))))]) (rest := []) hX (c_X12_callStack N n h53 _) (cwV 1 ht (in_V mw_1040 mw_1041 mw_1042 mw_861 mw_1027) rfl rfl rfl pd_X12_callStack ⟨Nat.le_of_ble_eq_true rfl, Nat.le_of_ble_eq_true rfl⟩) ⟨q_blind, va_recv hK hI.1 (ci := 11) (q0 := 59) rfl rfl, q_to hI hK hN hZ hA⟩ rfl rfl hl.1 rfl (lv_room (Nat.le_of_ble_eq_true rfl)) dX12_stepStack_275 (by decide)) (fun H locs hI => ?_)
      exact hR _ _ _ _ _ hm hI dX12_stepStack_278
    have hm := (if_neg c50).symm.trans hm
    by_cases c54 : (σ 64 (ix ((σ 62 (ix (σ 94 (ix ((σ 93 (ix 0)) - 1))))) + (σ 95 (ix ((σ 93 (ix 0)) - 1)))))) = 15
    · have hm := (if_pos c54).symm.trans hm
      refine lv_tableIn (off := 203) (tgt := 279) hx hb dX12_stepStack_76 (by (rw [c54]; decide)) (by (rw [c54]; decide)) (by (rw [c54]; rfl)) (by decide) ?_
      refine lv_aload_n hx hb dX12_stepStack_279 rfl (lv_at hl 3 rfl) ?_
      refine lv_iconst (v := 0) hx hb dX12_stepStack_280 (by decide) ?_
      refine lv_aload_n hx hb dX12_stepStack_281 rfl (lv_at hl 3 rfl) ?_
      obtain ⟨r55, σ56, h57, hm⟩ := bd_some hm
      refine k_i hI hA (va_runV (As := []) (rest := [.int 0, .ref (ga g 59)]) hX (c_X12_pop N n h57 _) (cwV 0 ht (in_V mw_1021 mw_1022 mw_1023 mw_861 mw_1018) rfl rfl rfl pd_X12_pop ⟨Nat.le_of_ble_eq_true rfl, Nat.le_of_ble_eq_true rfl⟩) ⟨q_blind, va_recv hK hI.1 (ci := 11) (q0 := 59) rfl rfl, q_to hI hK hN hZ hA⟩ rfl rfl hl.1 rfl (lv_room (Nat.le_of_ble_eq_true rfl)) dX12_stepStack_282 (by decide)) (fun H locs hI => ?_)
      obtain ⟨r58, σ59, h60, hm⟩ := bd_some hm
      refine k_v hI hA (va_runV (As := [.int 0, .int r55]) (rest := []) hX (c_X12_over N n h60 _) (cwV 2 ht (in_V mw_1043 mw_1044 mw_1045 mw_861 mw_1011) rfl rfl rfl pd_X12_over ⟨Nat.le_of_ble_eq_true rfl, Nat.le_of_ble_eq_true rfl⟩) ⟨q_blind, va_recv hK hI.1 (ci := 11) (q0 := 59) rfl rfl, q_to hI hK hN hZ hA⟩ rfl rfl hl.1 rfl (lv_room (Nat.le_of_ble_eq_true rfl)) dX12_stepStack_285 (by decide)) (fun H locs hI => ?_)
      exact hR _ _ _ _ _ hm hI dX12_stepStack_288
    have hm := (if_neg c54).symm.trans hm
    by_cases c61 : (σ 64 (ix ((σ 62 (ix (σ 94 (ix ((σ 93 (ix 0)) - 1))))) + (σ 95 (ix ((σ 93 (ix 0)) - 1)))))) = 16
    · have hm := (if_pos c61).symm.trans hm
      refine lv_tableIn (off := 213) (tgt := 289) hx hb dX12_stepStack_76 (by (rw [c61]; decide)) (by (rw [c61]; decide)) (by (rw [c61]; rfl)) (by decide) ?_
      refine lv_aload_n hx hb dX12_stepStack_289 rfl (lv_at hl 3 rfl) ?_
      obtain ⟨r62, σ63, h64, hm⟩ := bd_some hm
      refine k_v hI hA (va_runV (As := []) (rest := []) hX (c_X12_readStack N n h64 _) (cwV 0 ht (in_V mw_1046 mw_1047 mw_1048 mw_861 mw_1029) rfl rfl rfl pd_X12_readStack ⟨Nat.le_of_ble_eq_true rfl, Nat.le_of_ble_eq_true rfl⟩) ⟨q_blind, va_recv hK hI.1 (ci := 11) (q0 := 59) rfl rfl, q_to hI hK hN hZ hA⟩ rfl rfl hl.1 rfl (lv_room (Nat.le_of_ble_eq_true rfl)) dX12_stepStack_290 (by decide)) (fun H locs hI => ?_)
      exact hR _ _ _ _ _ hm hI dX12_stepStack_293
    have hm := (if_neg c61).symm.trans hm
    by_cases c65 : (σ 64 (ix ((σ 62 (ix (σ 94 (ix ((σ 93 (ix 0)) - 1))))) + (σ 95 (ix ((σ 93 (ix 0)) - 1)))))) = 17
    · have hm := (if_pos c65).symm.trans hm
      refine lv_tableIn (off := 218) (tgt := 294) hx hb dX12_stepStack_76 (by (rw [c65]; decide)) (by (rw [c65]; decide)) (by (rw [c65]; rfl)) (by decide) ?_
      refine lv_aload_n hx hb dX12_stepStack_294 rfl (lv_at hl 3 rfl) ?_
      obtain ⟨r66, σ67, h68, hm⟩ := bd_some hm
      refine k_v hI hA (va_runV (As := []) (rest := []) hX (c_X12_writeStack N n h68 _) (cwV 0 ht (in_V mw_1049 mw_1050 mw_1051 mw_861 mw_1032) rfl rfl rfl pd_X12_writeStack ⟨Nat.le_of_ble_eq_true rfl, Nat.le_of_ble_eq_true rfl⟩) ⟨q_blind, va_recv hK hI.1 (ci := 11) (q0 := 59) rfl rfl, q_to hI hK hN hZ hA⟩ rfl rfl hl.1 rfl (lv_room (Nat.le_of_ble_eq_true rfl)) dX12_stepStack_295 (by decide)) (fun H locs hI => ?_)
      exact hR _ _ _ _ _ hm hI dX12_stepStack_298
    have hm := (if_neg c65).symm.trans hm
    refine sw_d (tgt := 299) hx hb [0, 1, 2, 9, 10, 11, 12, 13, 14, 15, 16, 17] dX12_stepStack_76 (by decide) (by decide) (ne_c (lv_neT c13 (by decide)) (ne_c (lv_neT c17 (by decide)) (ne_c (lv_neT c22 (by decide)) (ne_c (lv_neT c27 (by decide)) (ne_c (lv_neT c33 (by decide)) (ne_c (lv_neT c37 (by decide)) (ne_c (lv_neT c40 (by decide)) (ne_c (lv_neT c42 (by decide)) (ne_c (lv_neT c50 (by decide)) (ne_c (lv_neT c54 (by decide)) (ne_c (lv_neT c61 (by decide)) (ne_c (lv_neT c65 (by decide)) ne_n)))))))))))) (by decide) ?_
    refine lv_aload_n hx hb dX12_stepStack_299 rfl (lv_at hl 3 rfl) ?_
    refine lv_aload_n hx hb dX12_stepStack_300 rfl (lv_at hl 3 rfl) ?_
    refine gf_59_7 hx hb ht hK hI mw_759 (fun _ h9 => h9) hown dX12_stepStack_301 ?_
    refine lv_iload_n hx hb dX12_stepStack_304 rfl (lv_at hl 1 rfl) ?_
    obtain ⟨g69, hm⟩ := gb_some hm
    refine ld_64 hx hb hK hI g69 (v := σ 64 (ix ((σ 62 (ix (σ 94 (ix ((σ 93 (ix 0)) - 1))))) + (σ 95 (ix ((σ 93 (ix 0)) - 1)))))) rfl dX12_stepStack_305 ?_
    obtain ⟨r70, σ71, h72, hm⟩ := bd_some hm
    refine k_v hI hA (va_runV (As := [.int (σ 64 (ix ((σ 62 (ix (σ 94 (ix ((σ 93 (ix 0)) - 1))))) + (σ 95 (ix ((σ 93 (ix 0)) - 1))))))]) (rest := []) hX (c_X12_workStack N n h72 _) (cwV 1 ht (in_V mw_1052 mw_1053 mw_1054 mw_861 mw_1033) rfl rfl rfl pd_X12_workStack ⟨Nat.le_of_ble_eq_true rfl, Nat.le_of_ble_eq_true rfl⟩) ⟨q_blind, va_recv hK hI.1 (ci := 11) (q0 := 59) rfl rfl, q_to hI hK hN hZ hA⟩ rfl rfl hl.1 rfl (lv_room (Nat.le_of_ble_eq_true rfl)) dX12_stepStack_306 (by decide)) (fun H locs hI => ?_)
    exact hR _ _ _ _ _ hm hI dX12_stepStack_309
  · have hm := (if_pos c2).symm.trans hm
    refine lv_aload_n hx hb dX12_stepStack_9 rfl (lv_at hl 0 rfl) ?_
    refine lv_iconst (v := 0) hx hb dX12_stepStack_10 (by decide) ?_
    refine lv_iconst (v := 0) hx hb dX12_stepStack_11 (by decide) ?_
    obtain ⟨r73, σ74, h75, hm⟩ := bd_some hm
    refine k_v hI hA (va_runV (As := [.int 0, .int 0]) (rest := []) hX (c_X12_enters N n h75 _) (cwV 2 ht (in_V mw_1024 mw_1025 mw_1026 mw_861 mw_1008) rfl rfl rfl pd_X12_enters ⟨Nat.le_of_ble_eq_true rfl, Nat.le_of_ble_eq_true rfl⟩) ⟨q_blind, va_recv hK hI.1 (ci := 11) (q0 := 59) rfl rfl, q_to hI hK hN hZ hA⟩ rfl rfl hl.1 rfl (lv_room (Nat.le_of_ble_eq_true rfl)) dX12_stepStack_12 (by decide)) (fun H locs hI => ?_)
    refine lv_aload_n hx hb dX12_stepStack_15 rfl (lv_at hl 0 rfl) ?_
    refine gf_59_43 hx hb ht hK hI mw_788 (fun _ h9 => h9) hown dX12_stepStack_16 ?_
    refine lv_iconst (v := 0) hx hb dX12_stepStack_19 (by decide) ?_
    obtain ⟨g76, hm⟩ := gb_some hm
    refine ld_93 hx hb hK hI g76 (v := σ74 93 (ix 0)) rfl dX12_stepStack_20 ?_
    refine lv_iconst (v := 1) hx hb dX12_stepStack_21 (by decide) ?_
    refine lv_isub hx hb dX12_stepStack_22 ?_
    refine lv_istore_n (lv' := [(1, .int ((σ74 93 (ix 0)) - 1)), (0, .ref (ga g 59))]) hx hb dX12_stepStack_23 rfl hl (by decide) rfl (fun ls hl => ?_)
    refine lv_aload_n hx hb dX12_stepStack_24 rfl (lv_at hl 1 rfl) ?_
    refine gf_59_4 hx hb ht hK hI mw_757 (fun _ h9 => h9) hown dX12_stepStack_25 ?_
    refine lv_aload_n hx hb dX12_stepStack_28 rfl (lv_at hl 1 rfl) ?_
    refine gf_59_44 hx hb ht hK hI mw_789 (fun _ h9 => h9) hown dX12_stepStack_29 ?_
    refine lv_iload_n hx hb dX12_stepStack_32 rfl (lv_at hl 0 rfl) ?_
    obtain ⟨g77, hm⟩ := gb_some hm
    refine ld_94 hx hb hK hI g77 (v := σ74 94 (ix ((σ74 93 (ix 0)) - 1))) rfl dX12_stepStack_33 ?_
    obtain ⟨g78, hm⟩ := gb_some hm
    refine ld_62 hx hb hK hI g78 (v := σ74 62 (ix (σ74 94 (ix ((σ74 93 (ix 0)) - 1))))) rfl dX12_stepStack_34 ?_
    refine lv_aload_n hx hb dX12_stepStack_35 rfl (lv_at hl 1 rfl) ?_
    refine gf_59_45 hx hb ht hK hI mw_790 (fun _ h9 => h9) hown dX12_stepStack_36 ?_
    refine lv_iload_n hx hb dX12_stepStack_39 rfl (lv_at hl 0 rfl) ?_
    obtain ⟨g79, hm⟩ := gb_some hm
    refine ld_95 hx hb hK hI g79 (v := σ74 95 (ix ((σ74 93 (ix 0)) - 1))) rfl dX12_stepStack_40 ?_
    refine lv_iadd hx hb dX12_stepStack_41 ?_
    refine lv_istore_n (lv' := [(2, .int ((σ74 62 (ix (σ74 94 (ix ((σ74 93 (ix 0)) - 1))))) + (σ74 95 (ix ((σ74 93 (ix 0)) - 1))))), (1, .int ((σ74 93 (ix 0)) - 1)), (0, .ref (ga g 59))]) hx hb dX12_stepStack_42 rfl hl (by decide) rfl (fun ls hl => ?_)
    refine lv_aload_n hx hb dX12_stepStack_43 rfl (lv_at hl 2 rfl) ?_
    refine gf_59_8 hx hb ht hK hI mw_760 (fun _ h9 => h9) hown dX12_stepStack_44 ?_
    refine lv_iload_n hx hb dX12_stepStack_47 rfl (lv_at hl 0 rfl) ?_
    obtain ⟨g80, hm⟩ := gb_some hm
    refine ld_65 hx hb hK hI g80 (v := σ74 65 (ix ((σ74 62 (ix (σ74 94 (ix ((σ74 93 (ix 0)) - 1))))) + (σ74 95 (ix ((σ74 93 (ix 0)) - 1)))))) rfl dX12_stepStack_48 ?_
    refine lv_istore_n (lv' := [(3, .int (σ74 65 (ix ((σ74 62 (ix (σ74 94 (ix ((σ74 93 (ix 0)) - 1))))) + (σ74 95 (ix ((σ74 93 (ix 0)) - 1))))))), (2, .int ((σ74 62 (ix (σ74 94 (ix ((σ74 93 (ix 0)) - 1))))) + (σ74 95 (ix ((σ74 93 (ix 0)) - 1))))), (1, .int ((σ74 93 (ix 0)) - 1)), (0, .ref (ga g 59))]) hx hb dX12_stepStack_49 rfl hl (by decide) rfl (fun ls hl => ?_)
    refine lv_aload_n hx hb dX12_stepStack_50 rfl (lv_at hl 3 rfl) ?_
    refine gf_59_45 hx hb ht hK hI mw_790 (fun _ h9 => h9) hown dX12_stepStack_51 ?_
    refine lv_iload_n hx hb dX12_stepStack_54 rfl (lv_at hl 2 rfl) ?_
    refine lv_dup2_11 hx hb dX12_stepStack_55 rfl rfl ?_
    obtain ⟨g81, hm⟩ := gb_some hm
    refine ld_95 hx hb hK hI g81 (v := σ74 95 (ix ((σ74 93 (ix 0)) - 1))) rfl dX12_stepStack_56 ?_
    refine lv_iconst (v := 1) hx hb dX12_stepStack_57 (by decide) ?_
    refine lv_iadd hx hb dX12_stepStack_58 ?_
    obtain ⟨g82, hm⟩ := gb_some hm
    refine sv_95 hx hb hK hI g82 dX12_stepStack_59 (fun H locs hI => ?_)
    refine lv_aload_n hx hb dX12_stepStack_60 rfl (lv_at hl 3 rfl) ?_
    refine gf_59_41 hx hb ht hK hI mw_786 (fun _ h9 => h9) hown dX12_stepStack_61 ?_
    refine lv_iconst (v := 0) hx hb dX12_stepStack_64 (by decide) ?_
    refine lv_dup2_11 hx hb dX12_stepStack_65 rfl rfl ?_
    obtain ⟨g83, hm⟩ := gb_some hm
    refine ld_91 hx hb hK hI g83 (v := σ74 91 (ix 0)) rfl dX12_stepStack_66 ?_
    refine lv_iconst (v := 1) hx hb dX12_stepStack_67 (by decide) ?_
    refine lv_iadd hx hb dX12_stepStack_68 ?_
    obtain ⟨g84, hm⟩ := gb_some hm
    refine sv_91 hx hb hK hI g84 dX12_stepStack_69 (fun H locs hI => ?_)
    refine lv_aload_n hx hb dX12_stepStack_70 rfl (lv_at hl 3 rfl) ?_
    refine gf_59_7 hx hb ht hK hI mw_759 (fun _ h9 => h9) hown dX12_stepStack_71 ?_
    refine lv_iload_n hx hb dX12_stepStack_74 rfl (lv_at hl 1 rfl) ?_
    obtain ⟨g85, hm⟩ := gb_some hm
    refine ld_64 hx hb hK hI g85 (v := σ74 64 (ix ((σ74 62 (ix (σ74 94 (ix ((σ74 93 (ix 0)) - 1))))) + (σ74 95 (ix ((σ74 93 (ix 0)) - 1)))))) rfl dX12_stepStack_75 ?_
    by_cases c86 : (σ74 64 (ix ((σ74 62 (ix (σ74 94 (ix ((σ74 93 (ix 0)) - 1))))) + (σ74 95 (ix ((σ74 93 (ix 0)) - 1)))))) = 0
    · have hm := (if_pos c86).symm.trans hm
      refine lv_tableIn (off := 88) (tgt := 164) hx hb dX12_stepStack_76 (by (rw [c86]; decide)) (by (rw [c86]; decide)) (by (rw [c86]; rfl)) (by decide) ?_
      refine lv_aload_n hx hb dX12_stepStack_164 rfl (lv_at hl 3 rfl) ?_
      refine lv_iload_n hx hb dX12_stepStack_165 rfl (lv_at hl 0 rfl) ?_
      obtain ⟨r87, σ88, h89, hm⟩ := bd_some hm
      refine k_v hI hA (va_runV (As := [.int (σ74 65 (ix ((σ74 62 (ix (σ74 94 (ix ((σ74 93 (ix 0)) - 1))))) + (σ74 95 (ix ((σ74 93 (ix 0)) - 1))))))]) (rest := []) hX (c_X12_push N n h89 _) (cwV 1 ht (in_V mw_1015 mw_1016 mw_1017 mw_861 mw_1010) rfl rfl rfl pd_X12_push ⟨Nat.le_of_ble_eq_true rfl, Nat.le_of_ble_eq_true rfl⟩) ⟨q_blind, va_recv hK hI.1 (ci := 11) (q0 := 59) rfl rfl, q_to hI hK hN hZ hA⟩ rfl rfl hl.1 rfl (lv_room (Nat.le_of_ble_eq_true rfl)) dX12_stepStack_166 (by decide)) (fun H locs hI => ?_)
      exact hR _ _ _ _ _ hm hI dX12_stepStack_169
    have hm := (if_neg c86).symm.trans hm
    by_cases c90 : (σ74 64 (ix ((σ74 62 (ix (σ74 94 (ix ((σ74 93 (ix 0)) - 1))))) + (σ74 95 (ix ((σ74 93 (ix 0)) - 1)))))) = 1
    · have hm := (if_pos c90).symm.trans hm
      refine lv_tableIn (off := 94) (tgt := 170) hx hb dX12_stepStack_76 (by (rw [c90]; decide)) (by (rw [c90]; decide)) (by (rw [c90]; rfl)) (by decide) ?_
      refine lv_aload_n hx hb dX12_stepStack_170 rfl (lv_at hl 3 rfl) ?_
      refine lv_aload_n hx hb dX12_stepStack_171 rfl (lv_at hl 3 rfl) ?_
      refine gf_59_46 hx hb ht hK hI mw_791 (fun _ h9 => h9) hown dX12_stepStack_172 ?_
      refine lv_bipush (v := 24) hx hb dX12_stepStack_175 (by decide) ?_
      refine lv_iload_n hx hb dX12_stepStack_177 rfl (lv_at hl 2 rfl) ?_
      refine lv_imul hx hb dX12_stepStack_178 ?_
      refine lv_iload_n hx hb dX12_stepStack_179 rfl (lv_at hl 0 rfl) ?_
      refine lv_iadd hx hb dX12_stepStack_180 ?_
      obtain ⟨g91, hm⟩ := gb_some hm
      refine ld_96 hx hb hK hI g91 (v := σ74 96 (ix ((24 * ((σ74 93 (ix 0)) - 1)) + (σ74 65 (ix ((σ74 62 (ix (σ74 94 (ix ((σ74 93 (ix 0)) - 1))))) + (σ74 95 (ix ((σ74 93 (ix 0)) - 1))))))))) rfl dX12_stepStack_181 ?_
      obtain ⟨r92, σ93, h94, hm⟩ := bd_some hm
      refine k_v hI hA (va_runV (As := [.int (σ74 96 (ix ((24 * ((σ74 93 (ix 0)) - 1)) + (σ74 65 (ix ((σ74 62 (ix (σ74 94 (ix ((σ74 93 (ix 0)) - 1))))) + (σ74 95 (ix ((σ74 93 (ix 0)) - 1)))))))))]) (rest := []) hX (c_X12_push N n h94 _) (cwV 1 ht (in_V mw_1015 mw_1016 mw_1017 mw_861 mw_1010) rfl rfl rfl pd_X12_push ⟨Nat.le_of_ble_eq_true rfl, Nat.le_of_ble_eq_true rfl⟩) ⟨q_blind, va_recv hK hI.1 (ci := 11) (q0 := 59) rfl rfl, q_to hI hK hN hZ hA⟩ rfl rfl hl.1 rfl (lv_room (Nat.le_of_ble_eq_true rfl)) dX12_stepStack_182 (by decide)) (fun H locs hI => ?_)
      exact hR _ _ _ _ _ hm hI dX12_stepStack_185
    have hm := (if_neg c90).symm.trans hm
    by_cases c95 : (σ74 64 (ix ((σ74 62 (ix (σ74 94 (ix ((σ74 93 (ix 0)) - 1))))) + (σ74 95 (ix ((σ74 93 (ix 0)) - 1)))))) = 2
    · have hm := (if_pos c95).symm.trans hm
      refine lv_tableIn (off := 110) (tgt := 186) hx hb dX12_stepStack_76 (by (rw [c95]; decide)) (by (rw [c95]; decide)) (by (rw [c95]; rfl)) (by decide) ?_
      refine lv_aload_n hx hb dX12_stepStack_186 rfl (lv_at hl 3 rfl) ?_
      refine gf_59_46 hx hb ht hK hI mw_791 (fun _ h9 => h9) hown dX12_stepStack_187 ?_
      refine lv_bipush (v := 24) hx hb dX12_stepStack_190 (by decide) ?_
      refine lv_iload_n hx hb dX12_stepStack_192 rfl (lv_at hl 2 rfl) ?_
      refine lv_imul hx hb dX12_stepStack_193 ?_
      refine lv_iload_n hx hb dX12_stepStack_194 rfl (lv_at hl 0 rfl) ?_
      refine lv_iadd hx hb dX12_stepStack_195 ?_
      refine lv_aload_n hx hb dX12_stepStack_196 rfl (lv_at hl 3 rfl) ?_
      obtain ⟨r96, σ97, h98, hm⟩ := bd_some hm
      refine k_i hI hA (va_runV (As := []) (rest := [.int ((24 * ((σ74 93 (ix 0)) - 1)) + (σ74 65 (ix ((σ74 62 (ix (σ74 94 (ix ((σ74 93 (ix 0)) - 1))))) + (σ74 95 (ix ((σ74 93 (ix 0)) - 1))))))), .ref (ga g 96)]) hX (c_X12_pop N n h98 _) (cwV 0 ht (in_V mw_1021 mw_1022 mw_1023 mw_861 mw_1018) rfl rfl rfl pd_X12_pop ⟨Nat.le_of_ble_eq_true rfl, Nat.le_of_ble_eq_true rfl⟩) ⟨q_blind, va_recv hK hI.1 (ci := 11) (q0 := 59) rfl rfl, q_to hI hK hN hZ hA⟩ rfl rfl hl.1 rfl (lv_room (Nat.le_of_ble_eq_true rfl)) dX12_stepStack_197 (by decide)) (fun H locs hI => ?_)
      obtain ⟨g99, hm⟩ := gb_some hm
      refine sv_96 hx hb hK hI g99 dX12_stepStack_200 (fun H locs hI => ?_)
      exact hR _ _ _ _ _ hm hI dX12_stepStack_201
    have hm := (if_neg c95).symm.trans hm
    by_cases c100 : (σ74 64 (ix ((σ74 62 (ix (σ74 94 (ix ((σ74 93 (ix 0)) - 1))))) + (σ74 95 (ix ((σ74 93 (ix 0)) - 1)))))) = 9
    · have hm := (if_pos c100).symm.trans hm
      refine lv_tableIn (off := 126) (tgt := 202) hx hb dX12_stepStack_76 (by (rw [c100]; decide)) (by (rw [c100]; decide)) (by (rw [c100]; rfl)) (by decide) ?_
      refine lv_aload_n hx hb dX12_stepStack_202 rfl (lv_at hl 3 rfl) ?_
      refine lv_aload_n hx hb dX12_stepStack_203 rfl (lv_at hl 3 rfl) ?_
      refine gf_59_46 hx hb ht hK hI mw_791 (fun _ h9 => h9) hown dX12_stepStack_204 ?_
      refine lv_bipush (v := 24) hx hb dX12_stepStack_207 (by decide) ?_
      refine lv_iload_n hx hb dX12_stepStack_209 rfl (lv_at hl 2 rfl) ?_
      refine lv_imul hx hb dX12_stepStack_210 ?_
      refine lv_aload_n hx hb dX12_stepStack_211 rfl (lv_at hl 3 rfl) ?_
      refine gf_59_47 hx hb ht hK hI mw_792 (fun _ h9 => h9) hown dX12_stepStack_212 ?_
      refine lv_iload_n hx hb dX12_stepStack_215 rfl (lv_at hl 2 rfl) ?_
      obtain ⟨g101, hm⟩ := gb_some hm
      refine ld_97 hx hb hK hI g101 (v := σ74 97 (ix ((σ74 93 (ix 0)) - 1))) rfl dX12_stepStack_216 ?_
      refine lv_iadd hx hb dX12_stepStack_217 ?_
      refine lv_iconst (v := 1) hx hb dX12_stepStack_218 (by decide) ?_
      refine lv_isub hx hb dX12_stepStack_219 ?_
      obtain ⟨g102, hm⟩ := gb_some hm
      refine ld_96 hx hb hK hI g102 (v := σ74 96 (ix (((24 * ((σ74 93 (ix 0)) - 1)) + (σ74 97 (ix ((σ74 93 (ix 0)) - 1)))) - 1))) rfl dX12_stepStack_220 ?_
      obtain ⟨r103, σ104, h105, hm⟩ := bd_some hm
      refine k_v hI hA (va_runV (As := [.int (σ74 96 (ix (((24 * ((σ74 93 (ix 0)) - 1)) + (σ74 97 (ix ((σ74 93 (ix 0)) - 1)))) - 1)))]) (rest := []) hX (c_X12_push N n h105 _) (cwV 1 ht (in_V mw_1015 mw_1016 mw_1017 mw_861 mw_1010) rfl rfl rfl pd_X12_push ⟨Nat.le_of_ble_eq_true rfl, Nat.le_of_ble_eq_true rfl⟩) ⟨q_blind, va_recv hK hI.1 (ci := 11) (q0 := 59) rfl rfl, q_to hI hK hN hZ hA⟩ rfl rfl hl.1 rfl (lv_room (Nat.le_of_ble_eq_true rfl)) dX12_stepStack_221 (by decide)) (fun H locs hI => ?_)
      exact hR _ _ _ _ _ hm hI dX12_stepStack_224
    have hm := (if_neg c100).symm.trans hm
    by_cases c106 : (σ74 64 (ix ((σ74 62 (ix (σ74 94 (ix ((σ74 93 (ix 0)) - 1))))) + (σ74 95 (ix ((σ74 93 (ix 0)) - 1)))))) = 10
    · have hm := (if_pos c106).symm.trans hm
      refine lv_tableIn (off := 149) (tgt := 225) hx hb dX12_stepStack_76 (by (rw [c106]; decide)) (by (rw [c106]; decide)) (by (rw [c106]; rfl)) (by decide) ?_
      refine lv_aload_n hx hb dX12_stepStack_225 rfl (lv_at hl 3 rfl) ?_
      obtain ⟨r107, σ108, h109, hm⟩ := bd_some hm
      refine k_v hI hA (va_runV (As := []) (rest := []) hX (c_X12_swapTop N n h109 _) (cwV 0 ht (in_V mw_1037 mw_1038 mw_1039 mw_861 mw_1020) rfl rfl rfl pd_X12_swapTop ⟨Nat.le_of_ble_eq_true rfl, Nat.le_of_ble_eq_true rfl⟩) ⟨q_blind, va_recv hK hI.1 (ci := 11) (q0 := 59) rfl rfl, q_to hI hK hN hZ hA⟩ rfl rfl hl.1 rfl (lv_room (Nat.le_of_ble_eq_true rfl)) dX12_stepStack_226 (by decide)) (fun H locs hI => ?_)
      exact hR _ _ _ _ _ hm hI dX12_stepStack_229
    have hm := (if_neg c106).symm.trans hm
    by_cases c110 : (σ74 64 (ix ((σ74 62 (ix (σ74 94 (ix ((σ74 93 (ix 0)) - 1))))) + (σ74 95 (ix ((σ74 93 (ix 0)) - 1)))))) = 11
    · have hm := (if_pos c110).symm.trans hm
      refine lv_tableIn (off := 154) (tgt := 230) hx hb dX12_stepStack_76 (by (rw [c110]; decide)) (by (rw [c110]; decide)) (by (rw [c110]; rfl)) (by decide) ?_
      refine lv_aload_n hx hb dX12_stepStack_230 rfl (lv_at hl 3 rfl) ?_
      refine gf_59_47 hx hb ht hK hI mw_792 (fun _ h9 => h9) hown dX12_stepStack_231 ?_
      refine lv_iload_n hx hb dX12_stepStack_234 rfl (lv_at hl 2 rfl) ?_
      refine lv_dup2_11 hx hb dX12_stepStack_235 rfl rfl ?_
      obtain ⟨g111, hm⟩ := gb_some hm
      refine ld_97 hx hb hK hI g111 (v := σ74 97 (ix ((σ74 93 (ix 0)) - 1))) rfl dX12_stepStack_236 ?_
      refine lv_iconst (v := 1) hx hb dX12_stepStack_237 (by decide) ?_
      refine lv_isub hx hb dX12_stepStack_238 ?_
      obtain ⟨g112, hm⟩ := gb_some hm
      refine sv_97 hx hb hK hI g112 dX12_stepStack_239 (fun H locs hI => ?_)
      exact hR _ _ _ _ _ hm hI dX12_stepStack_240
    have hm := (if_neg c110).symm.trans hm
    by_cases c113 : (σ74 64 (ix ((σ74 62 (ix (σ74 94 (ix ((σ74 93 (ix 0)) - 1))))) + (σ74 95 (ix ((σ74 93 (ix 0)) - 1)))))) = 12
    · have hm := (if_pos c113).symm.trans hm
      refine lv_tableIn (off := 165) (tgt := 241) hx hb dX12_stepStack_76 (by (rw [c113]; decide)) (by (rw [c113]; decide)) (by (rw [c113]; rfl)) (by decide) ?_
      refine lv_aload_n hx hb dX12_stepStack_241 rfl (lv_at hl 3 rfl) ?_
      refine gf_59_45 hx hb ht hK hI mw_790 (fun _ h9 => h9) hown dX12_stepStack_242 ?_
      refine lv_iload_n hx hb dX12_stepStack_245 rfl (lv_at hl 2 rfl) ?_
      refine lv_iload_n hx hb dX12_stepStack_246 rfl (lv_at hl 0 rfl) ?_
      obtain ⟨g114, hm⟩ := gb_some hm
      refine sv_95 hx hb hK hI g114 dX12_stepStack_247 (fun H locs hI => ?_)
      exact hR _ _ _ _ _ hm hI dX12_stepStack_248
    have hm := (if_neg c113).symm.trans hm
    by_cases c115 : (σ74 64 (ix ((σ74 62 (ix (σ74 94 (ix ((σ74 93 (ix 0)) - 1))))) + (σ74 95 (ix ((σ74 93 (ix 0)) - 1)))))) = 13
    · have hm := (if_pos c115).symm.trans hm
      refine lv_tableIn (off := 173) (tgt := 249) hx hb dX12_stepStack_76 (by (rw [c115]; decide)) (by (rw [c115]; decide)) (by (rw [c115]; rfl)) (by decide) ?_
      refine lv_aload_n hx hb dX12_stepStack_249 rfl (lv_at hl 3 rfl) ?_
      refine gf_59_45 hx hb ht hK hI mw_790 (fun _ h9 => h9) hown dX12_stepStack_250 ?_
      refine lv_iload_n hx hb dX12_stepStack_253 rfl (lv_at hl 2 rfl) ?_
      refine lv_aload_n hx hb dX12_stepStack_254 rfl (lv_at hl 3 rfl) ?_
      obtain ⟨r116, σ117, h118, hm⟩ := bd_some hm
      refine k_i hI hA (va_runV (As := []) (rest := [.int ((σ74 93 (ix 0)) - 1), .ref (ga g 95)]) hX (c_X12_pop N n h118 _) (cwV 0 ht (in_V mw_1021 mw_1022 mw_1023 mw_861 mw_1018) rfl rfl rfl pd_X12_pop ⟨Nat.le_of_ble_eq_true rfl, Nat.le_of_ble_eq_true rfl⟩) ⟨q_blind, va_recv hK hI.1 (ci := 11) (q0 := 59) rfl rfl, q_to hI hK hN hZ hA⟩ rfl rfl hl.1 rfl (lv_room (Nat.le_of_ble_eq_true rfl)) dX12_stepStack_255 (by decide)) (fun H locs hI => ?_)
      refine lv_if_ne (tgt := 265) hx hb dX12_stepStack_258 (by decide) (fun c119 => ?_) (fun c119 => ?_)
      · have hm := (if_neg c119).symm.trans hm
        refine lv_aload_n hx hb dX12_stepStack_265 rfl (lv_at hl 3 rfl) ?_
        refine gf_59_45 hx hb ht hK hI mw_790 (fun _ h9 => h9) hown dX12_stepStack_266 ?_
        refine lv_iload_n hx hb dX12_stepStack_269 rfl (lv_at hl 2 rfl) ?_
        obtain ⟨g120, hm⟩ := gb_some hm
        refine ld_95 hx hb hK hI g120 (v := σ117 95 (ix ((σ74 93 (ix 0)) - 1))) rfl dX12_stepStack_270 ?_
        obtain ⟨g121, hm⟩ := gb_some hm
        refine sv_95 hx hb hK hI g121 dX12_stepStack_271 (fun H locs hI => ?_)
        exact hR _ _ _ _ _ hm hI dX12_stepStack_272
      · have hm := (if_pos c119).symm.trans hm
        refine lv_iload_n hx hb dX12_stepStack_261 rfl (lv_at hl 0 rfl) ?_
        refine lv_goto (tgt := 271) hx hb dX12_stepStack_262 (by decide) ?_
        obtain ⟨g122, hm⟩ := gb_some hm
        refine sv_95 hx hb hK hI g122 dX12_stepStack_271 (fun H locs hI => ?_)
        exact hR _ _ _ _ _ hm hI dX12_stepStack_272
    have hm := (if_neg c115).symm.trans hm
    by_cases c123 : (σ74 64 (ix ((σ74 62 (ix (σ74 94 (ix ((σ74 93 (ix 0)) - 1))))) + (σ74 95 (ix ((σ74 93 (ix 0)) - 1)))))) = 14
    · have hm := (if_pos c123).symm.trans hm
      refine lv_tableIn (off := 197) (tgt := 273) hx hb dX12_stepStack_76 (by (rw [c123]; decide)) (by (rw [c123]; decide)) (by (rw [c123]; rfl)) (by decide) ?_
      refine lv_aload_n hx hb dX12_stepStack_273 rfl (lv_at hl 3 rfl) ?_
      refine lv_iload_n hx hb dX12_stepStack_274 rfl (lv_at hl 0 rfl) ?_
      obtain ⟨r124, σ125, h126, hm⟩ := bd_some hm
      refine k_v hI hA (va_runV (As := [.int (σ74 65 (ix ((σ74 62 (ix (σ74 94 (ix ((σ74 93 (ix 0)) - 1))))) + (σ74 95 (ix ((σ74 93 (ix 0)) - 1))))))]) (rest := []) hX (c_X12_callStack N n h126 _) (cwV 1 ht (in_V mw_1040 mw_1041 mw_1042 mw_861 mw_1027) rfl rfl rfl pd_X12_callStack ⟨Nat.le_of_ble_eq_true rfl, Nat.le_of_ble_eq_true rfl⟩) ⟨q_blind, va_recv hK hI.1 (ci := 11) (q0 := 59) rfl rfl, q_to hI hK hN hZ hA⟩ rfl rfl hl.1 rfl (lv_room (Nat.le_of_ble_eq_true rfl)) dX12_stepStack_275 (by decide)) (fun H locs hI => ?_)
      exact hR _ _ _ _ _ hm hI dX12_stepStack_278
    have hm := (if_neg c123).symm.trans hm
    by_cases c127 : (σ74 64 (ix ((σ74 62 (ix (σ74 94 (ix ((σ74 93 (ix 0)) - 1))))) + (σ74 95 (ix ((σ74 93 (ix 0)) - 1)))))) = 15
    · have hm := (if_pos c127).symm.trans hm
      refine lv_tableIn (off := 203) (tgt := 279) hx hb dX12_stepStack_76 (by (rw [c127]; decide)) (by (rw [c127]; decide)) (by (rw [c127]; rfl)) (by decide) ?_
      refine lv_aload_n hx hb dX12_stepStack_279 rfl (lv_at hl 3 rfl) ?_
      refine lv_iconst (v := 0) hx hb dX12_stepStack_280 (by decide) ?_
      refine lv_aload_n hx hb dX12_stepStack_281 rfl (lv_at hl 3 rfl) ?_
      obtain ⟨r128, σ129, h130, hm⟩ := bd_some hm
      refine k_i hI hA (va_runV (As := []) (rest := [.int 0, .ref (ga g 59)]) hX (c_X12_pop N n h130 _) (cwV 0 ht (in_V mw_1021 mw_1022 mw_1023 mw_861 mw_1018) rfl rfl rfl pd_X12_pop ⟨Nat.le_of_ble_eq_true rfl, Nat.le_of_ble_eq_true rfl⟩) ⟨q_blind, va_recv hK hI.1 (ci := 11) (q0 := 59) rfl rfl, q_to hI hK hN hZ hA⟩ rfl rfl hl.1 rfl (lv_room (Nat.le_of_ble_eq_true rfl)) dX12_stepStack_282 (by decide)) (fun H locs hI => ?_)
      obtain ⟨r131, σ132, h133, hm⟩ := bd_some hm
      refine k_v hI hA (va_runV (As := [.int 0, .int r128]) (rest := []) hX (c_X12_over N n h133 _) (cwV 2 ht (in_V mw_1043 mw_1044 mw_1045 mw_861 mw_1011) rfl rfl rfl pd_X12_over ⟨Nat.le_of_ble_eq_true rfl, Nat.le_of_ble_eq_true rfl⟩) ⟨q_blind, va_recv hK hI.1 (ci := 11) (q0 := 59) rfl rfl, q_to hI hK hN hZ hA⟩ rfl rfl hl.1 rfl (lv_room (Nat.le_of_ble_eq_true rfl)) dX12_stepStack_285 (by decide)) (fun H locs hI => ?_)
      exact hR _ _ _ _ _ hm hI dX12_stepStack_288
    have hm := (if_neg c127).symm.trans hm
    by_cases c134 : (σ74 64 (ix ((σ74 62 (ix (σ74 94 (ix ((σ74 93 (ix 0)) - 1))))) + (σ74 95 (ix ((σ74 93 (ix 0)) - 1)))))) = 16
    · have hm := (if_pos c134).symm.trans hm
      refine lv_tableIn (off := 213) (tgt := 289) hx hb dX12_stepStack_76 (by (rw [c134]; decide)) (by (rw [c134]; decide)) (by (rw [c134]; rfl)) (by decide) ?_
      refine lv_aload_n hx hb dX12_stepStack_289 rfl (lv_at hl 3 rfl) ?_
      obtain ⟨r135, σ136, h137, hm⟩ := bd_some hm
      refine k_v hI hA (va_runV (As := []) (rest := []) hX (c_X12_readStack N n h137 _) (cwV 0 ht (in_V mw_1046 mw_1047 mw_1048 mw_861 mw_1029) rfl rfl rfl pd_X12_readStack ⟨Nat.le_of_ble_eq_true rfl, Nat.le_of_ble_eq_true rfl⟩) ⟨q_blind, va_recv hK hI.1 (ci := 11) (q0 := 59) rfl rfl, q_to hI hK hN hZ hA⟩ rfl rfl hl.1 rfl (lv_room (Nat.le_of_ble_eq_true rfl)) dX12_stepStack_290 (by decide)) (fun H locs hI => ?_)
      exact hR _ _ _ _ _ hm hI dX12_stepStack_293
    have hm := (if_neg c134).symm.trans hm
    by_cases c138 : (σ74 64 (ix ((σ74 62 (ix (σ74 94 (ix ((σ74 93 (ix 0)) - 1))))) + (σ74 95 (ix ((σ74 93 (ix 0)) - 1)))))) = 17
    · have hm := (if_pos c138).symm.trans hm
      refine lv_tableIn (off := 218) (tgt := 294) hx hb dX12_stepStack_76 (by (rw [c138]; decide)) (by (rw [c138]; decide)) (by (rw [c138]; rfl)) (by decide) ?_
      refine lv_aload_n hx hb dX12_stepStack_294 rfl (lv_at hl 3 rfl) ?_
      obtain ⟨r139, σ140, h141, hm⟩ := bd_some hm
      refine k_v hI hA (va_runV (As := []) (rest := []) hX (c_X12_writeStack N n h141 _) (cwV 0 ht (in_V mw_1049 mw_1050 mw_1051 mw_861 mw_1032) rfl rfl rfl pd_X12_writeStack ⟨Nat.le_of_ble_eq_true rfl, Nat.le_of_ble_eq_true rfl⟩) ⟨q_blind, va_recv hK hI.1 (ci := 11) (q0 := 59) rfl rfl, q_to hI hK hN hZ hA⟩ rfl rfl hl.1 rfl (lv_room (Nat.le_of_ble_eq_true rfl)) dX12_stepStack_295 (by decide)) (fun H locs hI => ?_)
      exact hR _ _ _ _ _ hm hI dX12_stepStack_298
    have hm := (if_neg c138).symm.trans hm
    refine sw_d (tgt := 299) hx hb [0, 1, 2, 9, 10, 11, 12, 13, 14, 15, 16, 17] dX12_stepStack_76 (by decide) (by decide) (ne_c (lv_neT c86 (by decide)) (ne_c (lv_neT c90 (by decide)) (ne_c (lv_neT c95 (by decide)) (ne_c (lv_neT c100 (by decide)) (ne_c (lv_neT c106 (by decide)) (ne_c (lv_neT c110 (by decide)) (ne_c (lv_neT c113 (by decide)) (ne_c (lv_neT c115 (by decide)) (ne_c (lv_neT c123 (by decide)) (ne_c (lv_neT c127 (by decide)) (ne_c (lv_neT c134 (by decide)) (ne_c (lv_neT c138 (by decide)) ne_n)))))))))))) (by decide) ?_
    refine lv_aload_n hx hb dX12_stepStack_299 rfl (lv_at hl 3 rfl) ?_
    refine lv_aload_n hx hb dX12_stepStack_300 rfl (lv_at hl 3 rfl) ?_
    refine gf_59_7 hx hb ht hK hI mw_759 (fun _ h9 => h9) hown dX12_stepStack_301 ?_
    refine lv_iload_n hx hb dX12_stepStack_304 rfl (lv_at hl 1 rfl) ?_
    obtain ⟨g142, hm⟩ := gb_some hm
    refine ld_64 hx hb hK hI g142 (v := σ74 64 (ix ((σ74 62 (ix (σ74 94 (ix ((σ74 93 (ix 0)) - 1))))) + (σ74 95 (ix ((σ74 93 (ix 0)) - 1)))))) rfl dX12_stepStack_305 ?_
    obtain ⟨r143, σ144, h145, hm⟩ := bd_some hm
    refine k_v hI hA (va_runV (As := [.int (σ74 64 (ix ((σ74 62 (ix (σ74 94 (ix ((σ74 93 (ix 0)) - 1))))) + (σ74 95 (ix ((σ74 93 (ix 0)) - 1))))))]) (rest := []) hX (c_X12_workStack N n h145 _) (cwV 1 ht (in_V mw_1052 mw_1053 mw_1054 mw_861 mw_1033) rfl rfl rfl pd_X12_workStack ⟨Nat.le_of_ble_eq_true rfl, Nat.le_of_ble_eq_true rfl⟩) ⟨q_blind, va_recv hK hI.1 (ci := 11) (q0 := 59) rfl rfl, q_to hI hK hN hZ hA⟩ rfl rfl hl.1 rfl (lv_room (Nat.le_of_ble_eq_true rfl)) dX12_stepStack_306 (by decide)) (fun H locs hI => ?_)
    exact hR _ _ _ _ _ hm hI dX12_stepStack_309
def lb_X12_run_2 (N n : Nat) (u1 : Int32) (u2 : Int32) (K37 : (Sg → Int32 → Option (Int32 × Sg))) (rec : (Sg → Int32 → Option (Int32 × Sg))) (σ : Sg) (v3 : Int32) : Option (Int32 × Sg) := if u2 ≤ v3 then (K37 σ v3) else (gb u1 2 (if (σ 89 (ix u1)) = 0 then (if u1 = 0 then (bd (f_X12_stepStack N n σ ) (fun r8 σ9 => rec σ9 (v3 + 1))) else (bd (f_X12_stepRegisters N n σ ) (fun r5 σ6 => rec σ6 (v3 + 1)))) else (K37 σ v3)))
def lf_X12_run_2 (N n : Nat) (u1 : Int32) (u2 : Int32) (K37 : (Sg → Int32 → Option (Int32 × Sg))) : Nat → (Sg → Int32 → Option (Int32 × Sg))
  | 0 => fun _ _ => none
  | k + 1 => lb_X12_run_2 N n u1 u2 K37 (lf_X12_run_2 N n u1 u2 K37 k)
def f_X12_run (N n : Nat) (σ : Sg) (p0 : Int32) (p1 : Int32) : Option (Int32 × Sg) := lf_X12_run_2 N n p0 p1 (fun σ11 w12 => gb p0 2 (some (σ11 89 (ix p0), σ11))) N σ 0
set_option maxHeartbeats 4000000 in
set_option maxRecDepth 100000 in
theorem lp_X12_run_2 {p : Program} {l : Launch} {e : Env} {s : State} {m : MethodId} {args : Array Value} {below : List Frame} {meth : Method} {c : Code} {Q : State → Prop} {A : Nat → Prop} {g : GG} {q N n : Nat} {out : Int32 × Sg} {u1 : Int32} {u2 : Int32} {K37 : (Sg → Int32 → Option (Int32 × Sg))}
    (hC : CXi p l e (qR 3 76) s m args below meth c cX12_run 4 RX12 g q n A Q (some out)) :
    ∀ (k : Nat) (σ : Sg) (v3 : Int32) (H : Heap) (locs : List Loc) (ls : Array Slot), lf_X12_run_2 N n u1 u2 K37 k σ v3 = some out → wI g q n σ A s.heap H locs → lv_has ls 4 [(0, .ref (ga g 59)), (1, .int u1), (2, .int u2), (3, .int v3)] → (∀ (σ : Sg) (v3 : Int32) (H : Heap) (locs : List Loc) (ls : Array Slot), K37 σ v3 = some out → wI g q n σ A s.heap H locs → lv_has ls 4 [(0, .ref (ga g 59)), (1, .int u1)] → W p l e (qR 3 76) s m args below meth c H locs 0 0 Q (F0 m 37 ls [])) → W p l e (qR 3 76) s m args below meth c H locs 0 0 Q (F0 m 2 ls []) := by
  obtain ⟨hX, hK, hN, hZ, hA, hR⟩ := id hC
  have hx : p.tables.exec = Jvm.exec := hX.1
  have hb : c.code = cX12_run := hX.2.1
  have hml : c.maxLocals = 4 := hX.2.2.1
  have hown : s.vm.findClass RX12 = some m.cls := hX.2.2.2.1
  have ht : ∀ w ∈ BIG, w.before args s = true := hX.2.2.2.2
  intro k
  induction k with
  | zero =>
    intro σ v3 H locs ls hm
    have hm : none = some out := hm
    exact nomatch hm
  | succ k ih =>
    intro σ v3 H locs ls hm hI hl hx37
    have hm : lb_X12_run_2 N n u1 u2 K37 (lf_X12_run_2 N n u1 u2 K37 k) σ v3 = some out := hm
    unfold lb_X12_run_2 at hm
    refine lv_iload_n hx hb dX12_run_2 rfl (lv_at hl 3 rfl) ?_
    refine lv_iload_n hx hb dX12_run_3 rfl (lv_at hl 2 rfl) ?_
    refine lv_icmp_ge (tgt := 37) hx hb dX12_run_4 (by decide) (fun c1 => ?_) (fun c1 => ?_)
    · have hm := (if_pos c1).symm.trans hm
      exact hx37 σ v3 _ _ _ hm hI (lv_sub hl [0, 1] rfl)
    · have hm := (if_neg c1).symm.trans hm
      refine lv_aload_n hx hb dX12_run_7 rfl (lv_at hl 0 rfl) ?_
      refine gf_59_39 hx hb ht hK hI mw_784 (fun _ h9 => h9) hown dX12_run_8 ?_
      refine lv_iload_n hx hb dX12_run_11 rfl (lv_at hl 1 rfl) ?_
      obtain ⟨g2, hm⟩ := gb_some hm
      refine ld_89 hx hb hK hI g2 (v := σ 89 (ix u1)) rfl dX12_run_12 ?_
      refine lv_if_ne (tgt := 37) hx hb dX12_run_13 (by decide) (fun c3 => ?_) (fun c3 => ?_)
      · have hm := (if_neg c3).symm.trans hm
        exact hx37 σ v3 _ _ _ hm hI (lv_sub hl [0, 1] rfl)
      · have hm := (if_pos c3).symm.trans hm
        refine lv_iload_n hx hb dX12_run_16 rfl (lv_at hl 1 rfl) ?_
        refine lv_if_ne (tgt := 27) hx hb dX12_run_17 (by decide) (fun c4 => ?_) (fun c4 => ?_)
        · have hm := (if_neg c4).symm.trans hm
          refine lv_aload_n hx hb dX12_run_27 rfl (lv_at hl 0 rfl) ?_
          obtain ⟨r5, σ6, h7, hm⟩ := bd_some hm
          refine k_v hI hA (va_runV (As := []) (rest := []) hX (c_X12_stepRegisters N n h7 _) (cwV 0 ht (in_V mw_1064 mw_1065 mw_1066 mw_861 mw_1060) rfl rfl rfl pd_X12_stepRegisters ⟨Nat.le_of_ble_eq_true rfl, Nat.le_of_ble_eq_true rfl⟩) ⟨q_blind, va_recv hK hI.1 (ci := 11) (q0 := 59) rfl rfl, q_to hI hK hN hZ hA⟩ rfl rfl hl.1 rfl (lv_room (Nat.le_of_ble_eq_true rfl)) dX12_run_28 (by decide)) (fun H locs hI => ?_)
          refine lv_iinc (v := v3 + 1) (lv' := [(3, .int (v3 + 1)), (0, .ref (ga g 59)), (1, .int u1), (2, .int u2)]) hx hb dX12_run_31 hl (k := 3) rfl (congrArg (fun z => v3 + z) (show Int32.ofInt 1 = 1 by decide)) (by decide) rfl (fun ls hl => ?_)
          refine lv_goto (tgt := 2) hx hb dX12_run_34 (by decide) ?_
          exact ih σ6 (v3 + 1) _ _ _ hm hI (lv_sub hl [1, 2, 3, 0] rfl) hx37
        · have hm := (if_pos c4).symm.trans hm
          refine lv_aload_n hx hb dX12_run_20 rfl (lv_at hl 0 rfl) ?_
          obtain ⟨r8, σ9, h10, hm⟩ := bd_some hm
          refine k_v hI hA (va_runV (As := []) (rest := []) hX (c_X12_stepStack N n h10 _) (cwV 0 ht (in_V mw_1061 mw_1062 mw_1063 mw_861 mw_1055) rfl rfl rfl pd_X12_stepStack ⟨Nat.le_of_ble_eq_true rfl, Nat.le_of_ble_eq_true rfl⟩) ⟨q_blind, va_recv hK hI.1 (ci := 11) (q0 := 59) rfl rfl, q_to hI hK hN hZ hA⟩ rfl rfl hl.1 rfl (lv_room (Nat.le_of_ble_eq_true rfl)) dX12_run_21 (by decide)) (fun H locs hI => ?_)
          refine lv_goto (tgt := 31) hx hb dX12_run_24 (by decide) ?_
          refine lv_iinc (v := v3 + 1) (lv' := [(3, .int (v3 + 1)), (0, .ref (ga g 59)), (1, .int u1), (2, .int u2)]) hx hb dX12_run_31 hl (k := 3) rfl (congrArg (fun z => v3 + z) (show Int32.ofInt 1 = 1 by decide)) (by decide) rfl (fun ls hl => ?_)
          refine lv_goto (tgt := 2) hx hb dX12_run_34 (by decide) ?_
          exact ih σ9 (v3 + 1) _ _ _ hm hI (lv_sub hl [1, 2, 3, 0] rfl) hx37
set_option maxHeartbeats 4000000 in
set_option maxRecDepth 100000 in
theorem c_X12_run {l : Launch} {g : GG} {q : Nat} (N n : Nat) {σ : Sg} {p0 : Int32} {p1 : Int32} {r : Int32} {σ' : Sg} (hm : f_X12_run N n σ p0 p1 = some (r, σ')) : CTi l yX12_run cX12_run 4 (some .int) 3 76 g q n [.ref (ga g 59), .int p0, .int p1] σ r σ' := by
  refine e_i (r := r) (by decide) (Nat.le_of_ble_eq_true rfl) ?_
  intro p e s m args below meth c A Q ls hC hl hI
  obtain ⟨hX, hK, hN, hZ, hA, hR⟩ := id hC
  have hx : p.tables.exec = Jvm.exec := hX.1
  have hb : c.code = cX12_run := hX.2.1
  have hml : c.maxLocals = 4 := hX.2.2.1
  have hown : s.vm.findClass RX12 = some m.cls := hX.2.2.2.1
  have ht : ∀ w ∈ BIG, w.before args s = true := hX.2.2.2.2
  have hl : lv_has ls 4 [(0, .ref (ga g 59)), (1, .int p0), (2, .int p1)] := hl
  unfold f_X12_run at hm
  refine lv_iconst (v := 0) hx hb dX12_run_0 (by decide) ?_
  refine lv_istore_n (lv' := [(3, .int 0), (0, .ref (ga g 59)), (1, .int p0), (2, .int p1)]) hx hb dX12_run_1 rfl hl (by decide) rfl (fun ls hl => ?_)
  refine lp_X12_run_2 hC N _ _ _ _ _ hm hI (lv_sub hl [1, 2, 3, 0] rfl) ?_
  intro σ11 w12 H locs ls hm hI hl
  refine lv_aload_n hx hb dX12_run_37 rfl (lv_at hl 0 rfl) ?_
  refine gf_59_39 hx hb ht hK hI mw_784 (fun _ h9 => h9) hown dX12_run_38 ?_
  refine lv_iload_n hx hb dX12_run_41 rfl (lv_at hl 1 rfl) ?_
  obtain ⟨g13, hm⟩ := gb_some hm
  refine ld_89 hx hb hK hI g13 (v := σ11 89 (ix p0)) rfl dX12_run_42 ?_
  exact hR _ _ _ _ _ _ hm hI dX12_run_43
def f_X12_runRegisters (N n : Nat) (σ : Sg) (p0 : Int32) : Option (Int32 × Sg) := if (σ 59 37) = 0 then (some ((-1), sg σ 59 0 0)) else (if p0 < 1 then (some ((-1), sg σ 59 0 0)) else (if p0 ≤ 20000 then (bd (f_X12_run N n (sg σ 59 0 0) 1 p0) (fun r4 σ5 => some (r4, σ5))) else (some ((-1), sg σ 59 0 0))))
set_option maxHeartbeats 4000000 in
set_option maxRecDepth 100000 in
theorem c_X12_runRegisters {l : Launch} {g : GG} {q : Nat} (N n : Nat) {σ : Sg} {p0 : Int32} {r : Int32} {σ' : Sg} (hm : f_X12_runRegisters N n σ p0 = some (r, σ')) : CTi l yX12_runRegisters cX12_runRegisters 2 (some .int) 4 99 g q n [.ref (ga g 59), .int p0] σ r σ' := by
  refine e_i (r := r) (by decide) (Nat.le_of_ble_eq_true rfl) ?_
  intro p e s m args below meth c A Q ls hC hl hI
  obtain ⟨hX, hK, hN, hZ, hA, hR⟩ := id hC
  have hx : p.tables.exec = Jvm.exec := hX.1
  have hb : c.code = cX12_runRegisters := hX.2.1
  have hml : c.maxLocals = 2 := hX.2.2.1
  have hown : s.vm.findClass RX12 = some m.cls := hX.2.2.2.1
  have ht : ∀ w ∈ BIG, w.before args s = true := hX.2.2.2.2
  have hl : lv_has ls 2 [(0, .ref (ga g 59)), (1, .int p0)] := hl
  unfold f_X12_runRegisters at hm
  refine lv_aload_n hx hb dX12_runRegisters_0 rfl (lv_at hl 0 rfl) ?_
  refine lv_iconst (v := 0) hx hb dX12_runRegisters_1 (by decide) ?_
  refine pf_59_0 hx hb ht hK hI mw_851 (fun _ h9 => h9) hown dX12_runRegisters_2 (fun H locs hI => ?_)
  refine lv_aload_n hx hb dX12_runRegisters_5 rfl (lv_at hl 0 rfl) ?_
  refine gf_59_37 hx hb ht hK hI (v := σ 59 37) rfl mw_991 (fun _ h9 => h9) hown dX12_runRegisters_6 ?_
  refine lv_if_eq (tgt := 24) hx hb dX12_runRegisters_9 (by decide) (fun c1 => ?_) (fun c1 => ?_)
  · have hm := (if_pos c1).symm.trans hm
    refine lv_iconst (v := (-1)) hx hb dX12_runRegisters_24 (by decide) ?_
    refine lv_goto (tgt := 34) hx hb dX12_runRegisters_25 (by decide) ?_
    exact hR _ _ _ _ _ _ hm hI dX12_runRegisters_34
  · have hm := (if_neg c1).symm.trans hm
    refine lv_iload_n hx hb dX12_runRegisters_12 rfl (lv_at hl 1 rfl) ?_
    refine lv_iconst (v := 1) hx hb dX12_runRegisters_13 (by decide) ?_
    refine lv_icmp_lt (tgt := 24) hx hb dX12_runRegisters_14 (by decide) (fun c2 => ?_) (fun c2 => ?_)
    · have hm := (if_pos c2).symm.trans hm
      refine lv_iconst (v := (-1)) hx hb dX12_runRegisters_24 (by decide) ?_
      refine lv_goto (tgt := 34) hx hb dX12_runRegisters_25 (by decide) ?_
      exact hR _ _ _ _ _ _ hm hI dX12_runRegisters_34
    · have hm := (if_neg c2).symm.trans hm
      refine lv_iload_n hx hb dX12_runRegisters_17 rfl (lv_at hl 1 rfl) ?_
      refine lv_sipush (v := 20000) hx hb dX12_runRegisters_18 (by decide) ?_
      refine lv_icmp_le (tgt := 28) hx hb dX12_runRegisters_21 (by decide) (fun c3 => ?_) (fun c3 => ?_)
      · have hm := (if_pos c3).symm.trans hm
        refine lv_aload_n hx hb dX12_runRegisters_28 rfl (lv_at hl 0 rfl) ?_
        refine lv_iconst (v := 1) hx hb dX12_runRegisters_29 (by decide) ?_
        refine lv_iload_n hx hb dX12_runRegisters_30 rfl (lv_at hl 1 rfl) ?_
        obtain ⟨r4, σ5, h6, hm⟩ := bd_some hm
        refine k_i hI hA (va_runV (As := [.int 1, .int p0]) (rest := []) hX (c_X12_run N n h6 _) (cwV 2 ht (in_V mw_1068 mw_1069 mw_1070 mw_861 mw_1067) rfl rfl rfl pd_X12_run ⟨Nat.le_of_ble_eq_true rfl, Nat.le_of_ble_eq_true rfl⟩) ⟨q_blind, va_recv hK hI.1 (ci := 11) (q0 := 59) rfl rfl, q_to hI hK hN hZ hA⟩ rfl rfl hl.1 rfl (lv_room (Nat.le_of_ble_eq_true rfl)) dX12_runRegisters_31 (by decide)) (fun H locs hI => ?_)
        exact hR _ _ _ _ _ _ hm hI dX12_runRegisters_34
      · have hm := (if_neg c3).symm.trans hm
        refine lv_iconst (v := (-1)) hx hb dX12_runRegisters_24 (by decide) ?_
        refine lv_goto (tgt := 34) hx hb dX12_runRegisters_25 (by decide) ?_
        exact hR _ _ _ _ _ _ hm hI dX12_runRegisters_34
def f_X12_runStack (N n : Nat) (σ : Sg) (p0 : Int32) : Option (Int32 × Sg) := if (σ 59 10) = 0 then (some ((-1), sg σ 59 0 0)) else (if p0 < 1 then (some ((-1), sg σ 59 0 0)) else (if p0 ≤ 20000 then (bd (f_X12_run N n (sg σ 59 0 0) 0 p0) (fun r4 σ5 => some (r4, σ5))) else (some ((-1), sg σ 59 0 0))))
set_option maxHeartbeats 4000000 in
set_option maxRecDepth 100000 in
theorem c_X12_runStack {l : Launch} {g : GG} {q : Nat} (N n : Nat) {σ : Sg} {p0 : Int32} {r : Int32} {σ' : Sg} (hm : f_X12_runStack N n σ p0 = some (r, σ')) : CTi l yX12_runStack cX12_runStack 2 (some .int) 4 99 g q n [.ref (ga g 59), .int p0] σ r σ' := by
  refine e_i (r := r) (by decide) (Nat.le_of_ble_eq_true rfl) ?_
  intro p e s m args below meth c A Q ls hC hl hI
  obtain ⟨hX, hK, hN, hZ, hA, hR⟩ := id hC
  have hx : p.tables.exec = Jvm.exec := hX.1
  have hb : c.code = cX12_runStack := hX.2.1
  have hml : c.maxLocals = 2 := hX.2.2.1
  have hown : s.vm.findClass RX12 = some m.cls := hX.2.2.2.1
  have ht : ∀ w ∈ BIG, w.before args s = true := hX.2.2.2.2
  have hl : lv_has ls 2 [(0, .ref (ga g 59)), (1, .int p0)] := hl
  unfold f_X12_runStack at hm
  refine lv_aload_n hx hb dX12_runStack_0 rfl (lv_at hl 0 rfl) ?_
  refine lv_iconst (v := 0) hx hb dX12_runStack_1 (by decide) ?_
  refine pf_59_0 hx hb ht hK hI mw_851 (fun _ h9 => h9) hown dX12_runStack_2 (fun H locs hI => ?_)
  refine lv_aload_n hx hb dX12_runStack_5 rfl (lv_at hl 0 rfl) ?_
  refine gf_59_10 hx hb ht hK hI (v := σ 59 10) rfl mw_853 (fun _ h9 => h9) hown dX12_runStack_6 ?_
  refine lv_if_eq (tgt := 24) hx hb dX12_runStack_9 (by decide) (fun c1 => ?_) (fun c1 => ?_)
  · have hm := (if_pos c1).symm.trans hm
    refine lv_iconst (v := (-1)) hx hb dX12_runStack_24 (by decide) ?_
    refine lv_goto (tgt := 34) hx hb dX12_runStack_25 (by decide) ?_
    exact hR _ _ _ _ _ _ hm hI dX12_runStack_34
  · have hm := (if_neg c1).symm.trans hm
    refine lv_iload_n hx hb dX12_runStack_12 rfl (lv_at hl 1 rfl) ?_
    refine lv_iconst (v := 1) hx hb dX12_runStack_13 (by decide) ?_
    refine lv_icmp_lt (tgt := 24) hx hb dX12_runStack_14 (by decide) (fun c2 => ?_) (fun c2 => ?_)
    · have hm := (if_pos c2).symm.trans hm
      refine lv_iconst (v := (-1)) hx hb dX12_runStack_24 (by decide) ?_
      refine lv_goto (tgt := 34) hx hb dX12_runStack_25 (by decide) ?_
      exact hR _ _ _ _ _ _ hm hI dX12_runStack_34
    · have hm := (if_neg c2).symm.trans hm
      refine lv_iload_n hx hb dX12_runStack_17 rfl (lv_at hl 1 rfl) ?_
      refine lv_sipush (v := 20000) hx hb dX12_runStack_18 (by decide) ?_
      refine lv_icmp_le (tgt := 28) hx hb dX12_runStack_21 (by decide) (fun c3 => ?_) (fun c3 => ?_)
      · have hm := (if_pos c3).symm.trans hm
        refine lv_aload_n hx hb dX12_runStack_28 rfl (lv_at hl 0 rfl) ?_
        refine lv_iconst (v := 0) hx hb dX12_runStack_29 (by decide) ?_
        refine lv_iload_n hx hb dX12_runStack_30 rfl (lv_at hl 1 rfl) ?_
        obtain ⟨r4, σ5, h6, hm⟩ := bd_some hm
        refine k_i hI hA (va_runV (As := [.int 0, .int p0]) (rest := []) hX (c_X12_run N n h6 _) (cwV 2 ht (in_V mw_1068 mw_1069 mw_1070 mw_861 mw_1067) rfl rfl rfl pd_X12_run ⟨Nat.le_of_ble_eq_true rfl, Nat.le_of_ble_eq_true rfl⟩) ⟨q_blind, va_recv hK hI.1 (ci := 11) (q0 := 59) rfl rfl, q_to hI hK hN hZ hA⟩ rfl rfl hl.1 rfl (lv_room (Nat.le_of_ble_eq_true rfl)) dX12_runStack_31 (by decide)) (fun H locs hI => ?_)
        exact hR _ _ _ _ _ _ hm hI dX12_runStack_34
      · have hm := (if_neg c3).symm.trans hm
        refine lv_iconst (v := (-1)) hx hb dX12_runStack_24 (by decide) ?_
        refine lv_goto (tgt := 34) hx hb dX12_runStack_25 (by decide) ?_
        exact hR _ _ _ _ _ _ hm hI dX12_runStack_34
def lb_X12_scans_18 (N n : Nat) (u1 : Int32) (u2 : Int32) (u3 : Int32) (K103 : (Sg → Int32 → Int32 → Option (Int32 × Sg))) (rec : (Sg → Int32 → Int32 → Option (Int32 × Sg))) (σ : Sg) (v4 : Int32) (v5 : Int32) : Option (Int32 × Sg) := if 24 ≤ v5 then (K103 σ v4 v5) else (gb v5 24 (if (σ 83 (ix v5)) = 0 then (gb v5 24 (gb v5 24 (rec (sg σ 83 (ix v5) 0) v4 (v5 + 1)))) else (gb ((24 * u1) + v5) 288 (if (σ 78 (ix ((24 * u1) + v5))) < u3 then (gb v5 24 (gb v5 24 (rec (sg σ 83 (ix v5) 0) v4 (v5 + 1)))) else (gb v5 24 (gb v5 24 (gb ((24 * u1) + v5) 288 (rec (sg σ 83 (ix v5) 1) (v4 ||| (1 <<< ((σ 79 (ix ((24 * u1) + v5))) &&& 31))) (v5 + 1)))))))))
def lf_X12_scans_18 (N n : Nat) (u1 : Int32) (u2 : Int32) (u3 : Int32) (K103 : (Sg → Int32 → Int32 → Option (Int32 × Sg))) : Nat → (Sg → Int32 → Int32 → Option (Int32 × Sg))
  | 0 => fun _ _ _ => none
  | k + 1 => lb_X12_scans_18 N n u1 u2 u3 K103 (lf_X12_scans_18 N n u1 u2 u3 K103 k)
def lb_X12_scans_106 (N n : Nat) (u1 : Int32) (u2 : Int32) (u4 : Int32) (K134 : (Sg → Int32 → Option (Int32 × Sg))) (rec : (Sg → Int32 → Option (Int32 × Sg))) (σ : Sg) (v5 : Int32) : Option (Int32 × Sg) := if ((σ 59 22) - 2) ≤ v5 then (K134 σ v5) else (if ((u4 >>> (v5 &&& 31)) &&& 1) = 1 then (rec σ (v5 + 1)) else (K134 σ v5))
def lf_X12_scans_106 (N n : Nat) (u1 : Int32) (u2 : Int32) (u4 : Int32) (K134 : (Sg → Int32 → Option (Int32 × Sg))) : Nat → (Sg → Int32 → Option (Int32 × Sg))
  | 0 => fun _ _ => none
  | k + 1 => lb_X12_scans_106 N n u1 u2 u4 K134 (lf_X12_scans_106 N n u1 u2 u4 K134 k)
def lb_X12_scans_172 (N n : Nat) (u1 : Int32) (u2 : Int32) (K277 : (Sg → Int32 → Int32 → Option (Int32 × Sg))) (rec : (Sg → Int32 → Int32 → Option (Int32 × Sg))) (σ : Sg) (v6 : Int32) (v7 : Int32) : Option (Int32 × Sg) := if 24 ≤ v7 then (K277 σ v6 v7) else (gb ((24 * u1) + v7) 288 (gb ((24 * u1) + v6) 288 (if (σ 78 (ix ((24 * u1) + v6))) < (σ 78 (ix ((24 * u1) + v7))) then (gb v7 24 (if (σ 83 (ix v7)) = 0 then (rec σ v6 (v7 + 1)) else (rec σ v7 (v7 + 1)))) else (gb ((24 * u1) + v7) 288 (gb ((24 * u1) + v6) 288 (if (σ 78 (ix ((24 * u1) + v7))) = (σ 78 (ix ((24 * u1) + v6))) then (if v7 ≤ v6 then (gb v7 24 (if (σ 83 (ix v7)) = 0 then (rec σ v6 (v7 + 1)) else (rec σ v6 (v7 + 1)))) else (gb v7 24 (if (σ 83 (ix v7)) = 0 then (rec σ v6 (v7 + 1)) else (rec σ v7 (v7 + 1))))) else (gb v7 24 (if (σ 83 (ix v7)) = 0 then (rec σ v6 (v7 + 1)) else (rec σ v6 (v7 + 1))))))))))
def lf_X12_scans_172 (N n : Nat) (u1 : Int32) (u2 : Int32) (K277 : (Sg → Int32 → Int32 → Option (Int32 × Sg))) : Nat → (Sg → Int32 → Int32 → Option (Int32 × Sg))
  | 0 => fun _ _ _ => none
  | k + 1 => lb_X12_scans_172 N n u1 u2 K277 (lf_X12_scans_172 N n u1 u2 K277 k)
def f_X12_scans (N n : Nat) (σ : Sg) (p0 : Int32) (p1 : Int32) : Option (Int32 × Sg) := gb ((24 * p0) + p1) 288 (lf_X12_scans_18 N n p0 p1 (σ 77 (ix ((24 * p0) + p1))) (fun σ14 w15 w16 => lf_X12_scans_106 N n p0 p1 w15 (fun σ19 w20 => if ((σ19 59 22) - 2) ≤ w20 then (lf_X12_scans_172 N n p0 p1 (fun σ38 w39 w40 => gb p0 12 (gb ((24 * p0) + w39) 288 (gb p0 12 (gb p0 12 (if w39 = p1 then (some (0, sg (sg σ38 80 (ix ((24 * p0) + w39)) (σ38 81 (ix p0))) 81 (ix p0) ((σ38 81 (ix p0)) + 1))) else (gb ((24 * p0) + w39) 288 (gb ((24 * p0) + p1) 288 (gb ((24 * p0) + w39) 288 (gb w39 24 (gb p1 24 (some (0, sg (sg (sg (sg (sg (sg σ38 80 (ix ((24 * p0) + w39)) (σ38 81 (ix p0))) 81 (ix p0) ((σ38 81 (ix p0)) + 1)) 79 (ix ((24 * p0) + p1)) (σ38 79 (ix ((24 * p0) + w39)))) 79 (ix ((24 * p0) + w39)) (-1)) 83 (ix w39) 0) 83 (ix p1) 1)))))))))))) N σ19 p1 0) else (gb ((24 * p0) + p1) 288 (gb p1 24 (some (0, sg (sg σ19 79 (ix ((24 * p0) + p1)) w20) 83 (ix p1) 1))))) N σ14 0) N σ 0 0)
set_option maxHeartbeats 4000000 in
set_option maxRecDepth 100000 in
theorem lp_X12_scans_18 {p : Program} {l : Launch} {e : Env} {s : State} {m : MethodId} {args : Array Value} {below : List Frame} {meth : Method} {c : Code} {Q : State → Prop} {A : Nat → Prop} {g : GG} {q N n : Nat} {out : Int32 × Sg} {u1 : Int32} {u2 : Int32} {u3 : Int32} {K103 : (Sg → Int32 → Int32 → Option (Int32 × Sg))}
    (hC : CXv p l e (qR 0 0) s m args below meth c cX12_scans 9 RX12 g q n A Q (some out)) :
    ∀ (k : Nat) (σ : Sg) (v4 : Int32) (v5 : Int32) (H : Heap) (locs : List Loc) (ls : Array Slot), lf_X12_scans_18 N n u1 u2 u3 K103 k σ v4 v5 = some out → wI g q n σ A s.heap H locs → lv_has ls 9 [(0, .ref (ga g 59)), (1, .int u1), (2, .int u2), (3, .int u3), (4, .int v4), (5, .int v5)] → (∀ (σ : Sg) (v4 : Int32) (v5 : Int32) (H : Heap) (locs : List Loc) (ls : Array Slot), K103 σ v4 v5 = some out → wI g q n σ A s.heap H locs → lv_has ls 9 [(0, .ref (ga g 59)), (1, .int u1), (2, .int u2), (4, .int v4)] → W p l e (qR 0 0) s m args below meth c H locs 0 0 Q (F0 m 103 ls [])) → W p l e (qR 0 0) s m args below meth c H locs 0 0 Q (F0 m 18 ls []) := by
  obtain ⟨hX, hK, hN, hZ, hA, hR⟩ := id hC
  have hx : p.tables.exec = Jvm.exec := hX.1
  have hb : c.code = cX12_scans := hX.2.1
  have hml : c.maxLocals = 9 := hX.2.2.1
  have hown : s.vm.findClass RX12 = some m.cls := hX.2.2.2.1
  have ht : ∀ w ∈ BIG, w.before args s = true := hX.2.2.2.2
  intro k
  induction k with
  | zero =>
    intro σ v4 v5 H locs ls hm
    have hm : none = some out := hm
    exact nomatch hm
  | succ k ih =>
    intro σ v4 v5 H locs ls hm hI hl hx103
    have hm : lb_X12_scans_18 N n u1 u2 u3 K103 (lf_X12_scans_18 N n u1 u2 u3 K103 k) σ v4 v5 = some out := hm
    unfold lb_X12_scans_18 at hm
    refine lv_iload hx hb dX12_scans_18 (lv_at hl 5 rfl) ?_
    refine lv_bipush (v := 24) hx hb dX12_scans_20 (by decide) ?_
    refine lv_icmp_ge (tgt := 103) hx hb dX12_scans_22 (by decide) (fun c2 => ?_) (fun c2 => ?_)
    · have hm := (if_pos c2).symm.trans hm
      exact hx103 σ v4 v5 _ _ _ hm hI (lv_sub hl [0, 1, 2, 4] rfl)
    · have hm := (if_neg c2).symm.trans hm
      refine lv_aload_n hx hb dX12_scans_25 rfl (lv_at hl 0 rfl) ?_
      refine gf_59_29 hx hb ht hK hI mw_778 (fun _ h9 => h9) hown dX12_scans_26 ?_
      refine lv_iload hx hb dX12_scans_29 (lv_at hl 5 rfl) ?_
      refine lv_aload_n hx hb dX12_scans_31 rfl (lv_at hl 0 rfl) ?_
      refine gf_59_29 hx hb ht hK hI mw_778 (fun _ h9 => h9) hown dX12_scans_32 ?_
      refine lv_iload hx hb dX12_scans_35 (lv_at hl 5 rfl) ?_
      obtain ⟨g3, hm⟩ := gb_some hm
      refine ld_83 hx hb hK hI g3 (v := σ 83 (ix v5)) rfl dX12_scans_37 ?_
      refine lv_if_eq (tgt := 61) hx hb dX12_scans_38 (by decide) (fun c4 => ?_) (fun c4 => ?_)
      · have hm := (if_pos c4).symm.trans hm
        refine lv_iconst (v := 0) hx hb dX12_scans_61 (by decide) ?_
        obtain ⟨g5, hm⟩ := gb_some hm
        refine sv_83 hx hb hK hI g5 (by decide) dX12_scans_62 (fun H locs hI => ?_)
        refine lv_aload_n hx hb dX12_scans_63 rfl (lv_at hl 0 rfl) ?_
        refine gf_59_29 hx hb ht hK hI mw_778 (fun _ h9 => h9) hown dX12_scans_64 ?_
        refine lv_iload hx hb dX12_scans_67 (lv_at hl 5 rfl) ?_
        obtain ⟨g6, hm⟩ := gb_some hm
        refine ld_83 hx hb hK hI g6 (v := 0) (show upd (σ 83) (ix v5) 0 (ix v5) = 0 from up_same _ _ _) dX12_scans_69 ?_
        refine lv_if_eq (tgt := 93) hx hb dX12_scans_70 (by decide) (fun _ => ?_) (fun h => absurd h (by decide))
        refine lv_iload hx hb dX12_scans_93 (lv_at hl 4 rfl) ?_
        refine lv_istore (lv' := [(4, .int v4), (0, .ref (ga g 59)), (1, .int u1), (2, .int u2), (3, .int u3), (5, .int v5)]) hx hb dX12_scans_95 hl (by decide) rfl (fun ls hl => ?_)
        refine lv_iinc (v := v5 + 1) (lv' := [(5, .int (v5 + 1)), (4, .int v4), (0, .ref (ga g 59)), (1, .int u1), (2, .int u2), (3, .int u3)]) hx hb dX12_scans_97 hl (k := 5) rfl (congrArg (fun z => v5 + z) (show Int32.ofInt 1 = 1 by decide)) (by decide) rfl (fun ls hl => ?_)
        refine lv_goto (tgt := 18) hx hb dX12_scans_100 (by decide) ?_
        exact ih (sg σ 83 (ix v5) 0) v4 (v5 + 1) _ _ _ hm hI (lv_sub hl [2, 3, 4, 5, 1, 0] rfl) hx103
      · have hm := (if_neg c4).symm.trans hm
        refine lv_aload_n hx hb dX12_scans_41 rfl (lv_at hl 0 rfl) ?_
        refine gf_59_24 hx hb ht hK hI mw_773 (fun _ h9 => h9) hown dX12_scans_42 ?_
        refine lv_bipush (v := 24) hx hb dX12_scans_45 (by decide) ?_
        refine lv_iload_n hx hb dX12_scans_47 rfl (lv_at hl 1 rfl) ?_
        refine lv_imul hx hb dX12_scans_48 ?_
        refine lv_iload hx hb dX12_scans_49 (lv_at hl 5 rfl) ?_
        refine lv_iadd hx hb dX12_scans_51 ?_
        obtain ⟨g7, hm⟩ := gb_some hm
        refine ld_78 hx hb hK hI g7 (v := σ 78 (ix ((24 * u1) + v5))) rfl dX12_scans_52 ?_
        refine lv_iload_n hx hb dX12_scans_53 rfl (lv_at hl 3 rfl) ?_
        refine lv_icmp_lt (tgt := 61) hx hb dX12_scans_54 (by decide) (fun c8 => ?_) (fun c8 => ?_)
        · have hm := (if_pos c8).symm.trans hm
          refine lv_iconst (v := 0) hx hb dX12_scans_61 (by decide) ?_
          obtain ⟨g9, hm⟩ := gb_some hm
          refine sv_83 hx hb hK hI g9 (by decide) dX12_scans_62 (fun H locs hI => ?_)
          refine lv_aload_n hx hb dX12_scans_63 rfl (lv_at hl 0 rfl) ?_
          refine gf_59_29 hx hb ht hK hI mw_778 (fun _ h9 => h9) hown dX12_scans_64 ?_
          refine lv_iload hx hb dX12_scans_67 (lv_at hl 5 rfl) ?_
          obtain ⟨g10, hm⟩ := gb_some hm
          refine ld_83 hx hb hK hI g10 (v := 0) (show upd (σ 83) (ix v5) 0 (ix v5) = 0 from up_same _ _ _) dX12_scans_69 ?_
          refine lv_if_eq (tgt := 93) hx hb dX12_scans_70 (by decide) (fun _ => ?_) (fun h => absurd h (by decide))
          refine lv_iload hx hb dX12_scans_93 (lv_at hl 4 rfl) ?_
          refine lv_istore (lv' := [(4, .int v4), (0, .ref (ga g 59)), (1, .int u1), (2, .int u2), (3, .int u3), (5, .int v5)]) hx hb dX12_scans_95 hl (by decide) rfl (fun ls hl => ?_)
          refine lv_iinc (v := v5 + 1) (lv' := [(5, .int (v5 + 1)), (4, .int v4), (0, .ref (ga g 59)), (1, .int u1), (2, .int u2), (3, .int u3)]) hx hb dX12_scans_97 hl (k := 5) rfl (congrArg (fun z => v5 + z) (show Int32.ofInt 1 = 1 by decide)) (by decide) rfl (fun ls hl => ?_)
          refine lv_goto (tgt := 18) hx hb dX12_scans_100 (by decide) ?_
          exact ih (sg σ 83 (ix v5) 0) v4 (v5 + 1) _ _ _ hm hI (lv_sub hl [2, 3, 4, 5, 1, 0] rfl) hx103
        · have hm := (if_neg c8).symm.trans hm
          refine lv_iconst (v := 1) hx hb dX12_scans_57 (by decide) ?_
          refine lv_goto (tgt := 62) hx hb dX12_scans_58 (by decide) ?_
          obtain ⟨g11, hm⟩ := gb_some hm
          refine sv_83 hx hb hK hI g11 (by decide) dX12_scans_62 (fun H locs hI => ?_)
          refine lv_aload_n hx hb dX12_scans_63 rfl (lv_at hl 0 rfl) ?_
          refine gf_59_29 hx hb ht hK hI mw_778 (fun _ h9 => h9) hown dX12_scans_64 ?_
          refine lv_iload hx hb dX12_scans_67 (lv_at hl 5 rfl) ?_
          obtain ⟨g12, hm⟩ := gb_some hm
          refine ld_83 hx hb hK hI g12 (v := 1) (show upd (σ 83) (ix v5) 1 (ix v5) = 1 from up_same _ _ _) dX12_scans_69 ?_
          refine lv_if_eq (tgt := 93) hx hb dX12_scans_70 (by decide) (fun h => absurd h (by decide)) (fun _ => ?_)
          refine lv_iload hx hb dX12_scans_73 (lv_at hl 4 rfl) ?_
          refine lv_iconst (v := 1) hx hb dX12_scans_75 (by decide) ?_
          refine lv_aload_n hx hb dX12_scans_76 rfl (lv_at hl 0 rfl) ?_
          refine gf_59_25 hx hb ht hK hI mw_774 (fun _ h9 => h9) hown dX12_scans_77 ?_
          refine lv_bipush (v := 24) hx hb dX12_scans_80 (by decide) ?_
          refine lv_iload_n hx hb dX12_scans_82 rfl (lv_at hl 1 rfl) ?_
          refine lv_imul hx hb dX12_scans_83 ?_
          refine lv_iload hx hb dX12_scans_84 (lv_at hl 5 rfl) ?_
          refine lv_iadd hx hb dX12_scans_86 ?_
          obtain ⟨g13, hm⟩ := gb_some hm
          refine ld_79 hx hb hK hI g13 (v := σ 79 (ix ((24 * u1) + v5))) rfl dX12_scans_87 ?_
          refine lv_ishl hx hb dX12_scans_88 ?_
          refine lv_ior hx hb dX12_scans_89 ?_
          refine lv_goto (tgt := 95) hx hb dX12_scans_90 (by decide) ?_
          refine lv_istore (lv' := [(4, .int (v4 ||| (1 <<< ((σ 79 (ix ((24 * u1) + v5))) &&& 31)))), (0, .ref (ga g 59)), (1, .int u1), (2, .int u2), (3, .int u3), (5, .int v5)]) hx hb dX12_scans_95 hl (by decide) rfl (fun ls hl => ?_)
          refine lv_iinc (v := v5 + 1) (lv' := [(5, .int (v5 + 1)), (4, .int (v4 ||| (1 <<< ((σ 79 (ix ((24 * u1) + v5))) &&& 31)))), (0, .ref (ga g 59)), (1, .int u1), (2, .int u2), (3, .int u3)]) hx hb dX12_scans_97 hl (k := 5) rfl (congrArg (fun z => v5 + z) (show Int32.ofInt 1 = 1 by decide)) (by decide) rfl (fun ls hl => ?_)
          refine lv_goto (tgt := 18) hx hb dX12_scans_100 (by decide) ?_
          exact ih (sg σ 83 (ix v5) 1) (v4 ||| (1 <<< ((σ 79 (ix ((24 * u1) + v5))) &&& 31))) (v5 + 1) _ _ _ hm hI (lv_sub hl [2, 3, 4, 5, 1, 0] rfl) hx103
set_option maxHeartbeats 4000000 in
set_option maxRecDepth 100000 in
theorem lp_X12_scans_106 {p : Program} {l : Launch} {e : Env} {s : State} {m : MethodId} {args : Array Value} {below : List Frame} {meth : Method} {c : Code} {Q : State → Prop} {A : Nat → Prop} {g : GG} {q N n : Nat} {out : Int32 × Sg} {u1 : Int32} {u2 : Int32} {u4 : Int32} {K134 : (Sg → Int32 → Option (Int32 × Sg))}
    (hC : CXv p l e (qR 0 0) s m args below meth c cX12_scans 9 RX12 g q n A Q (some out)) :
    ∀ (k : Nat) (σ : Sg) (v5 : Int32) (H : Heap) (locs : List Loc) (ls : Array Slot), lf_X12_scans_106 N n u1 u2 u4 K134 k σ v5 = some out → wI g q n σ A s.heap H locs → lv_has ls 9 [(0, .ref (ga g 59)), (1, .int u1), (2, .int u2), (4, .int u4), (5, .int v5)] → (∀ (σ : Sg) (v5 : Int32) (H : Heap) (locs : List Loc) (ls : Array Slot), K134 σ v5 = some out → wI g q n σ A s.heap H locs → lv_has ls 9 [(0, .ref (ga g 59)), (1, .int u1), (2, .int u2), (5, .int v5)] → W p l e (qR 0 0) s m args below meth c H locs 0 0 Q (F0 m 134 ls [])) → W p l e (qR 0 0) s m args below meth c H locs 0 0 Q (F0 m 106 ls []) := by
  obtain ⟨hX, hK, hN, hZ, hA, hR⟩ := id hC
  have hx : p.tables.exec = Jvm.exec := hX.1
  have hb : c.code = cX12_scans := hX.2.1
  have hml : c.maxLocals = 9 := hX.2.2.1
  have hown : s.vm.findClass RX12 = some m.cls := hX.2.2.2.1
  have ht : ∀ w ∈ BIG, w.before args s = true := hX.2.2.2.2
  intro k
  induction k with
  | zero =>
    intro σ v5 H locs ls hm
    have hm : none = some out := hm
    exact nomatch hm
  | succ k ih =>
    intro σ v5 H locs ls hm hI hl hx134
    have hm : lb_X12_scans_106 N n u1 u2 u4 K134 (lf_X12_scans_106 N n u1 u2 u4 K134 k) σ v5 = some out := hm
    unfold lb_X12_scans_106 at hm
    refine lv_iload hx hb dX12_scans_106 (lv_at hl 4 rfl) ?_
    refine lv_aload_n hx hb dX12_scans_108 rfl (lv_at hl 0 rfl) ?_
    refine gf_59_22 hx hb ht hK hI (v := σ 59 22) rfl mw_938 (fun _ h9 => h9) hown dX12_scans_109 ?_
    refine lv_iconst (v := 2) hx hb dX12_scans_112 (by decide) ?_
    refine lv_isub hx hb dX12_scans_113 ?_
    refine lv_icmp_ge (tgt := 134) hx hb dX12_scans_114 (by decide) (fun c17 => ?_) (fun c17 => ?_)
    · have hm := (if_pos c17).symm.trans hm
      exact hx134 σ v5 _ _ _ hm hI (lv_sub hl [0, 1, 2, 4] rfl)
    · have hm := (if_neg c17).symm.trans hm
      refine lv_iload hx hb dX12_scans_117 (lv_at hl 3 rfl) ?_
      refine lv_iload hx hb dX12_scans_119 (lv_at hl 4 rfl) ?_
      refine lv_ishr hx hb dX12_scans_121 ?_
      refine lv_iconst (v := 1) hx hb dX12_scans_122 (by decide) ?_
      refine lv_iand hx hb dX12_scans_123 ?_
      refine lv_iconst (v := 1) hx hb dX12_scans_124 (by decide) ?_
      refine lv_icmp_ne (tgt := 134) hx hb dX12_scans_125 (by decide) (fun c18 => ?_) (fun c18 => ?_)
      · have hm := (if_neg c18).symm.trans hm
        exact hx134 σ v5 _ _ _ hm hI (lv_sub hl [0, 1, 2, 4] rfl)
      · have hm := (if_pos c18).symm.trans hm
        refine lv_iinc (v := v5 + 1) (lv' := [(5, .int (v5 + 1)), (0, .ref (ga g 59)), (1, .int u1), (2, .int u2), (4, .int u4)]) hx hb dX12_scans_128 hl (k := 4) rfl (congrArg (fun z => v5 + z) (show Int32.ofInt 1 = 1 by decide)) (by decide) rfl (fun ls hl => ?_)
        refine lv_goto (tgt := 106) hx hb dX12_scans_131 (by decide) ?_
        exact ih σ (v5 + 1) _ _ _ hm hI (lv_sub hl [1, 2, 3, 4, 0] rfl) hx134
set_option maxHeartbeats 4000000 in
set_option maxRecDepth 100000 in
theorem lp_X12_scans_172 {p : Program} {l : Launch} {e : Env} {s : State} {m : MethodId} {args : Array Value} {below : List Frame} {meth : Method} {c : Code} {Q : State → Prop} {A : Nat → Prop} {g : GG} {q N n : Nat} {out : Int32 × Sg} {u1 : Int32} {u2 : Int32} {K277 : (Sg → Int32 → Int32 → Option (Int32 × Sg))}
    (hC : CXv p l e (qR 0 0) s m args below meth c cX12_scans 9 RX12 g q n A Q (some out)) :
    ∀ (k : Nat) (σ : Sg) (v6 : Int32) (v7 : Int32) (H : Heap) (locs : List Loc) (ls : Array Slot), lf_X12_scans_172 N n u1 u2 K277 k σ v6 v7 = some out → wI g q n σ A s.heap H locs → lv_has ls 9 [(0, .ref (ga g 59)), (1, .int u1), (2, .int u2), (6, .int v6), (7, .int v7)] → (∀ (σ : Sg) (v6 : Int32) (v7 : Int32) (H : Heap) (locs : List Loc) (ls : Array Slot), K277 σ v6 v7 = some out → wI g q n σ A s.heap H locs → lv_has ls 9 [(0, .ref (ga g 59)), (1, .int u1), (2, .int u2), (6, .int v6)] → W p l e (qR 0 0) s m args below meth c H locs 0 0 Q (F0 m 277 ls [])) → W p l e (qR 0 0) s m args below meth c H locs 0 0 Q (F0 m 172 ls []) := by
  obtain ⟨hX, hK, hN, hZ, hA, hR⟩ := id hC
  have hx : p.tables.exec = Jvm.exec := hX.1
  have hb : c.code = cX12_scans := hX.2.1
  have hml : c.maxLocals = 9 := hX.2.2.1
  have hown : s.vm.findClass RX12 = some m.cls := hX.2.2.2.1
  have ht : ∀ w ∈ BIG, w.before args s = true := hX.2.2.2.2
  intro k
  induction k with
  | zero =>
    intro σ v6 v7 H locs ls hm
    have hm : none = some out := hm
    exact nomatch hm
  | succ k ih =>
    intro σ v6 v7 H locs ls hm hI hl hx277
    have hm : lb_X12_scans_172 N n u1 u2 K277 (lf_X12_scans_172 N n u1 u2 K277 k) σ v6 v7 = some out := hm
    unfold lb_X12_scans_172 at hm
    refine lv_iload hx hb dX12_scans_172 (lv_at hl 4 rfl) ?_
    refine lv_bipush (v := 24) hx hb dX12_scans_174 (by decide) ?_
    refine lv_icmp_ge (tgt := 277) hx hb dX12_scans_176 (by decide) (fun c22 => ?_) (fun c22 => ?_)
    · have hm := (if_pos c22).symm.trans hm
      exact hx277 σ v6 v7 _ _ _ hm hI (lv_sub hl [0, 1, 2, 3] rfl)
    · have hm := (if_neg c22).symm.trans hm
      refine lv_aload_n hx hb dX12_scans_179 rfl (lv_at hl 0 rfl) ?_
      refine gf_59_24 hx hb ht hK hI mw_773 (fun _ h9 => h9) hown dX12_scans_180 ?_
      refine lv_bipush (v := 24) hx hb dX12_scans_183 (by decide) ?_
      refine lv_iload_n hx hb dX12_scans_185 rfl (lv_at hl 1 rfl) ?_
      refine lv_imul hx hb dX12_scans_186 ?_
      refine lv_iload hx hb dX12_scans_187 (lv_at hl 4 rfl) ?_
      refine lv_iadd hx hb dX12_scans_189 ?_
      obtain ⟨g23, hm⟩ := gb_some hm
      refine ld_78 hx hb hK hI g23 (v := σ 78 (ix ((24 * u1) + v7))) rfl dX12_scans_190 ?_
      refine lv_aload_n hx hb dX12_scans_191 rfl (lv_at hl 0 rfl) ?_
      refine gf_59_24 hx hb ht hK hI mw_773 (fun _ h9 => h9) hown dX12_scans_192 ?_
      refine lv_bipush (v := 24) hx hb dX12_scans_195 (by decide) ?_
      refine lv_iload_n hx hb dX12_scans_197 rfl (lv_at hl 1 rfl) ?_
      refine lv_imul hx hb dX12_scans_198 ?_
      refine lv_iload hx hb dX12_scans_199 (lv_at hl 3 rfl) ?_
      refine lv_iadd hx hb dX12_scans_201 ?_
      obtain ⟨g24, hm⟩ := gb_some hm
      refine ld_78 hx hb hK hI g24 (v := σ 78 (ix ((24 * u1) + v6))) rfl dX12_scans_202 ?_
      refine lv_icmp_gt (tgt := 240) hx hb dX12_scans_203 (by decide) (fun c25 => ?_) (fun c25 => ?_)
      · have hm := (if_pos c25).symm.trans hm
        refine lv_iconst (v := 1) hx hb dX12_scans_240 (by decide) ?_
        refine lv_goto (tgt := 245) hx hb dX12_scans_241 (by decide) ?_
        refine lv_istore (lv' := [(8, .int 1), (0, .ref (ga g 59)), (1, .int u1), (2, .int u2), (6, .int v6), (7, .int v7)]) hx hb dX12_scans_245 hl (by decide) rfl (fun ls hl => ?_)
        refine lv_aload_n hx hb dX12_scans_247 rfl (lv_at hl 1 rfl) ?_
        refine gf_59_29 hx hb ht hK hI mw_778 (fun _ h9 => h9) hown dX12_scans_248 ?_
        refine lv_iload hx hb dX12_scans_251 (lv_at hl 5 rfl) ?_
        obtain ⟨g26, hm⟩ := gb_some hm
        refine ld_83 hx hb hK hI g26 (v := σ 83 (ix v7)) rfl dX12_scans_253 ?_
        refine lv_if_eq (tgt := 267) hx hb dX12_scans_254 (by decide) (fun c27 => ?_) (fun c27 => ?_)
        · have hm := (if_pos c27).symm.trans hm
          refine lv_iload hx hb dX12_scans_267 (lv_at hl 4 rfl) ?_
          refine lv_istore (lv' := [(6, .int v6), (8, .int 1), (0, .ref (ga g 59)), (1, .int u1), (2, .int u2), (7, .int v7)]) hx hb dX12_scans_269 hl (by decide) rfl (fun ls hl => ?_)
          refine lv_iinc (v := v7 + 1) (lv' := [(7, .int (v7 + 1)), (6, .int v6), (8, .int 1), (0, .ref (ga g 59)), (1, .int u1), (2, .int u2)]) hx hb dX12_scans_271 hl (k := 5) rfl (congrArg (fun z => v7 + z) (show Int32.ofInt 1 = 1 by decide)) (by decide) rfl (fun ls hl => ?_)
          refine lv_goto (tgt := 172) hx hb dX12_scans_274 (by decide) ?_
          exact ih σ v6 (v7 + 1) _ _ _ hm hI (lv_sub hl [3, 4, 5, 1, 0] rfl) hx277
        · have hm := (if_neg c27).symm.trans hm
          refine lv_iload hx hb dX12_scans_257 (lv_at hl 0 rfl) ?_
          refine lv_if_eq (tgt := 267) hx hb dX12_scans_259 (by decide) (fun h => absurd h (by decide)) (fun _ => ?_)
          refine lv_iload hx hb dX12_scans_262 (lv_at hl 5 rfl) ?_
          refine lv_goto (tgt := 269) hx hb dX12_scans_264 (by decide) ?_
          refine lv_istore (lv' := [(6, .int v7), (8, .int 1), (0, .ref (ga g 59)), (1, .int u1), (2, .int u2), (7, .int v7)]) hx hb dX12_scans_269 hl (by decide) rfl (fun ls hl => ?_)
          refine lv_iinc (v := v7 + 1) (lv' := [(7, .int (v7 + 1)), (6, .int v7), (8, .int 1), (0, .ref (ga g 59)), (1, .int u1), (2, .int u2)]) hx hb dX12_scans_271 hl (k := 5) rfl (congrArg (fun z => v7 + z) (show Int32.ofInt 1 = 1 by decide)) (by decide) rfl (fun ls hl => ?_)
          refine lv_goto (tgt := 172) hx hb dX12_scans_274 (by decide) ?_
          exact ih σ v7 (v7 + 1) _ _ _ hm hI (lv_sub hl [3, 4, 5, 1, 0] rfl) hx277
      · have hm := (if_neg c25).symm.trans hm
        refine lv_aload_n hx hb dX12_scans_206 rfl (lv_at hl 0 rfl) ?_
        refine gf_59_24 hx hb ht hK hI mw_773 (fun _ h9 => h9) hown dX12_scans_207 ?_
        refine lv_bipush (v := 24) hx hb dX12_scans_210 (by decide) ?_
        refine lv_iload_n hx hb dX12_scans_212 rfl (lv_at hl 1 rfl) ?_
        refine lv_imul hx hb dX12_scans_213 ?_
        refine lv_iload hx hb dX12_scans_214 (lv_at hl 4 rfl) ?_
        refine lv_iadd hx hb dX12_scans_216 ?_
        obtain ⟨g28, hm⟩ := gb_some hm
        refine ld_78 hx hb hK hI g28 (v := σ 78 (ix ((24 * u1) + v7))) rfl dX12_scans_217 ?_
        refine lv_aload_n hx hb dX12_scans_218 rfl (lv_at hl 0 rfl) ?_
        refine gf_59_24 hx hb ht hK hI mw_773 (fun _ h9 => h9) hown dX12_scans_219 ?_
        refine lv_bipush (v := 24) hx hb dX12_scans_222 (by decide) ?_
        refine lv_iload_n hx hb dX12_scans_224 rfl (lv_at hl 1 rfl) ?_
        refine lv_imul hx hb dX12_scans_225 ?_
        refine lv_iload hx hb dX12_scans_226 (lv_at hl 3 rfl) ?_
        refine lv_iadd hx hb dX12_scans_228 ?_
        obtain ⟨g29, hm⟩ := gb_some hm
        refine ld_78 hx hb hK hI g29 (v := σ 78 (ix ((24 * u1) + v6))) rfl dX12_scans_229 ?_
        refine lv_icmp_ne (tgt := 244) hx hb dX12_scans_230 (by decide) (fun c30 => ?_) (fun c30 => ?_)
        · have hm := (if_neg c30).symm.trans hm
          refine lv_iconst (v := 0) hx hb dX12_scans_244 (by decide) ?_
          refine lv_istore (lv' := [(8, .int 0), (0, .ref (ga g 59)), (1, .int u1), (2, .int u2), (6, .int v6), (7, .int v7)]) hx hb dX12_scans_245 hl (by decide) rfl (fun ls hl => ?_)
          refine lv_aload_n hx hb dX12_scans_247 rfl (lv_at hl 1 rfl) ?_
          refine gf_59_29 hx hb ht hK hI mw_778 (fun _ h9 => h9) hown dX12_scans_248 ?_
          refine lv_iload hx hb dX12_scans_251 (lv_at hl 5 rfl) ?_
          obtain ⟨g31, hm⟩ := gb_some hm
          refine ld_83 hx hb hK hI g31 (v := σ 83 (ix v7)) rfl dX12_scans_253 ?_
          refine lv_if_eq (tgt := 267) hx hb dX12_scans_254 (by decide) (fun c32 => ?_) (fun c32 => ?_)
          · have hm := (if_pos c32).symm.trans hm
            refine lv_iload hx hb dX12_scans_267 (lv_at hl 4 rfl) ?_
            refine lv_istore (lv' := [(6, .int v6), (8, .int 0), (0, .ref (ga g 59)), (1, .int u1), (2, .int u2), (7, .int v7)]) hx hb dX12_scans_269 hl (by decide) rfl (fun ls hl => ?_)
            refine lv_iinc (v := v7 + 1) (lv' := [(7, .int (v7 + 1)), (6, .int v6), (8, .int 0), (0, .ref (ga g 59)), (1, .int u1), (2, .int u2)]) hx hb dX12_scans_271 hl (k := 5) rfl (congrArg (fun z => v7 + z) (show Int32.ofInt 1 = 1 by decide)) (by decide) rfl (fun ls hl => ?_)
            refine lv_goto (tgt := 172) hx hb dX12_scans_274 (by decide) ?_
            exact ih σ v6 (v7 + 1) _ _ _ hm hI (lv_sub hl [3, 4, 5, 1, 0] rfl) hx277
          · have hm := (if_neg c32).symm.trans hm
            refine lv_iload hx hb dX12_scans_257 (lv_at hl 0 rfl) ?_
            refine lv_if_eq (tgt := 267) hx hb dX12_scans_259 (by decide) (fun _ => ?_) (fun h => absurd h (by decide))
            refine lv_iload hx hb dX12_scans_267 (lv_at hl 4 rfl) ?_
            refine lv_istore (lv' := [(6, .int v6), (8, .int 0), (0, .ref (ga g 59)), (1, .int u1), (2, .int u2), (7, .int v7)]) hx hb dX12_scans_269 hl (by decide) rfl (fun ls hl => ?_)
            refine lv_iinc (v := v7 + 1) (lv' := [(7, .int (v7 + 1)), (6, .int v6), (8, .int 0), (0, .ref (ga g 59)), (1, .int u1), (2, .int u2)]) hx hb dX12_scans_271 hl (k := 5) rfl (congrArg (fun z => v7 + z) (show Int32.ofInt 1 = 1 by decide)) (by decide) rfl (fun ls hl => ?_)
            refine lv_goto (tgt := 172) hx hb dX12_scans_274 (by decide) ?_
            exact ih σ v6 (v7 + 1) _ _ _ hm hI (lv_sub hl [3, 4, 5, 1, 0] rfl) hx277
        · have hm := (if_pos c30).symm.trans hm
          refine lv_iload hx hb dX12_scans_233 (lv_at hl 4 rfl) ?_
          refine lv_iload hx hb dX12_scans_235 (lv_at hl 3 rfl) ?_
          refine lv_icmp_le (tgt := 244) hx hb dX12_scans_237 (by decide) (fun c33 => ?_) (fun c33 => ?_)
          · have hm := (if_pos c33).symm.trans hm
            refine lv_iconst (v := 0) hx hb dX12_scans_244 (by decide) ?_
            refine lv_istore (lv' := [(8, .int 0), (0, .ref (ga g 59)), (1, .int u1), (2, .int u2), (6, .int v6), (7, .int v7)]) hx hb dX12_scans_245 hl (by decide) rfl (fun ls hl => ?_)
            refine lv_aload_n hx hb dX12_scans_247 rfl (lv_at hl 1 rfl) ?_
            refine gf_59_29 hx hb ht hK hI mw_778 (fun _ h9 => h9) hown dX12_scans_248 ?_
            refine lv_iload hx hb dX12_scans_251 (lv_at hl 5 rfl) ?_
            obtain ⟨g34, hm⟩ := gb_some hm
            refine ld_83 hx hb hK hI g34 (v := σ 83 (ix v7)) rfl dX12_scans_253 ?_
            refine lv_if_eq (tgt := 267) hx hb dX12_scans_254 (by decide) (fun c35 => ?_) (fun c35 => ?_)
            · have hm := (if_pos c35).symm.trans hm
              refine lv_iload hx hb dX12_scans_267 (lv_at hl 4 rfl) ?_
              refine lv_istore (lv' := [(6, .int v6), (8, .int 0), (0, .ref (ga g 59)), (1, .int u1), (2, .int u2), (7, .int v7)]) hx hb dX12_scans_269 hl (by decide) rfl (fun ls hl => ?_)
              refine lv_iinc (v := v7 + 1) (lv' := [(7, .int (v7 + 1)), (6, .int v6), (8, .int 0), (0, .ref (ga g 59)), (1, .int u1), (2, .int u2)]) hx hb dX12_scans_271 hl (k := 5) rfl (congrArg (fun z => v7 + z) (show Int32.ofInt 1 = 1 by decide)) (by decide) rfl (fun ls hl => ?_)
              refine lv_goto (tgt := 172) hx hb dX12_scans_274 (by decide) ?_
              exact ih σ v6 (v7 + 1) _ _ _ hm hI (lv_sub hl [3, 4, 5, 1, 0] rfl) hx277
            · have hm := (if_neg c35).symm.trans hm
              refine lv_iload hx hb dX12_scans_257 (lv_at hl 0 rfl) ?_
              refine lv_if_eq (tgt := 267) hx hb dX12_scans_259 (by decide) (fun _ => ?_) (fun h => absurd h (by decide))
              refine lv_iload hx hb dX12_scans_267 (lv_at hl 4 rfl) ?_
              refine lv_istore (lv' := [(6, .int v6), (8, .int 0), (0, .ref (ga g 59)), (1, .int u1), (2, .int u2), (7, .int v7)]) hx hb dX12_scans_269 hl (by decide) rfl (fun ls hl => ?_)
              refine lv_iinc (v := v7 + 1) (lv' := [(7, .int (v7 + 1)), (6, .int v6), (8, .int 0), (0, .ref (ga g 59)), (1, .int u1), (2, .int u2)]) hx hb dX12_scans_271 hl (k := 5) rfl (congrArg (fun z => v7 + z) (show Int32.ofInt 1 = 1 by decide)) (by decide) rfl (fun ls hl => ?_)
              refine lv_goto (tgt := 172) hx hb dX12_scans_274 (by decide) ?_
              exact ih σ v6 (v7 + 1) _ _ _ hm hI (lv_sub hl [3, 4, 5, 1, 0] rfl) hx277
          · have hm := (if_neg c33).symm.trans hm
            refine lv_iconst (v := 1) hx hb dX12_scans_240 (by decide) ?_
            refine lv_goto (tgt := 245) hx hb dX12_scans_241 (by decide) ?_
            refine lv_istore (lv' := [(8, .int 1), (0, .ref (ga g 59)), (1, .int u1), (2, .int u2), (6, .int v6), (7, .int v7)]) hx hb dX12_scans_245 hl (by decide) rfl (fun ls hl => ?_)
            refine lv_aload_n hx hb dX12_scans_247 rfl (lv_at hl 1 rfl) ?_
            refine gf_59_29 hx hb ht hK hI mw_778 (fun _ h9 => h9) hown dX12_scans_248 ?_
            refine lv_iload hx hb dX12_scans_251 (lv_at hl 5 rfl) ?_
            obtain ⟨g36, hm⟩ := gb_some hm
            refine ld_83 hx hb hK hI g36 (v := σ 83 (ix v7)) rfl dX12_scans_253 ?_
            refine lv_if_eq (tgt := 267) hx hb dX12_scans_254 (by decide) (fun c37 => ?_) (fun c37 => ?_)
            · have hm := (if_pos c37).symm.trans hm
              refine lv_iload hx hb dX12_scans_267 (lv_at hl 4 rfl) ?_
              refine lv_istore (lv' := [(6, .int v6), (8, .int 1), (0, .ref (ga g 59)), (1, .int u1), (2, .int u2), (7, .int v7)]) hx hb dX12_scans_269 hl (by decide) rfl (fun ls hl => ?_)
              refine lv_iinc (v := v7 + 1) (lv' := [(7, .int (v7 + 1)), (6, .int v6), (8, .int 1), (0, .ref (ga g 59)), (1, .int u1), (2, .int u2)]) hx hb dX12_scans_271 hl (k := 5) rfl (congrArg (fun z => v7 + z) (show Int32.ofInt 1 = 1 by decide)) (by decide) rfl (fun ls hl => ?_)
              refine lv_goto (tgt := 172) hx hb dX12_scans_274 (by decide) ?_
              exact ih σ v6 (v7 + 1) _ _ _ hm hI (lv_sub hl [3, 4, 5, 1, 0] rfl) hx277
            · have hm := (if_neg c37).symm.trans hm
              refine lv_iload hx hb dX12_scans_257 (lv_at hl 0 rfl) ?_
              refine lv_if_eq (tgt := 267) hx hb dX12_scans_259 (by decide) (fun h => absurd h (by decide)) (fun _ => ?_)
              refine lv_iload hx hb dX12_scans_262 (lv_at hl 5 rfl) ?_
              refine lv_goto (tgt := 269) hx hb dX12_scans_264 (by decide) ?_
              refine lv_istore (lv' := [(6, .int v7), (8, .int 1), (0, .ref (ga g 59)), (1, .int u1), (2, .int u2), (7, .int v7)]) hx hb dX12_scans_269 hl (by decide) rfl (fun ls hl => ?_)
              refine lv_iinc (v := v7 + 1) (lv' := [(7, .int (v7 + 1)), (6, .int v7), (8, .int 1), (0, .ref (ga g 59)), (1, .int u1), (2, .int u2)]) hx hb dX12_scans_271 hl (k := 5) rfl (congrArg (fun z => v7 + z) (show Int32.ofInt 1 = 1 by decide)) (by decide) rfl (fun ls hl => ?_)
              refine lv_goto (tgt := 172) hx hb dX12_scans_274 (by decide) ?_
              exact ih σ v7 (v7 + 1) _ _ _ hm hI (lv_sub hl [3, 4, 5, 1, 0] rfl) hx277
set_option maxHeartbeats 4000000 in
set_option maxRecDepth 100000 in
theorem c_X12_scans {l : Launch} {g : GG} {q : Nat} (N n : Nat) {σ : Sg} {p0 : Int32} {p1 : Int32} {r : Int32} {σ' : Sg} (hm : f_X12_scans N n σ p0 p1 = some (r, σ')) : CTv l yX12_scans cX12_scans 9 none 0 0 g q n [.ref (ga g 59), .int p0, .int p1] σ σ' := by
  refine e_v (r := r) (by decide) (Nat.le_of_ble_eq_true rfl) ?_
  intro p e s m args below meth c A Q ls hC hl hI
  obtain ⟨hX, hK, hN, hZ, hA, hR⟩ := id hC
  have hx : p.tables.exec = Jvm.exec := hX.1
  have hb : c.code = cX12_scans := hX.2.1
  have hml : c.maxLocals = 9 := hX.2.2.1
  have hown : s.vm.findClass RX12 = some m.cls := hX.2.2.2.1
  have ht : ∀ w ∈ BIG, w.before args s = true := hX.2.2.2.2
  have hl : lv_has ls 9 [(0, .ref (ga g 59)), (1, .int p0), (2, .int p1)] := hl
  unfold f_X12_scans at hm
  refine lv_aload_n hx hb dX12_scans_0 rfl (lv_at hl 0 rfl) ?_
  refine gf_59_23 hx hb ht hK hI mw_772 (fun _ h9 => h9) hown dX12_scans_1 ?_
  refine lv_bipush (v := 24) hx hb dX12_scans_4 (by decide) ?_
  refine lv_iload_n hx hb dX12_scans_6 rfl (lv_at hl 1 rfl) ?_
  refine lv_imul hx hb dX12_scans_7 ?_
  refine lv_iload_n hx hb dX12_scans_8 rfl (lv_at hl 2 rfl) ?_
  refine lv_iadd hx hb dX12_scans_9 ?_
  obtain ⟨g1, hm⟩ := gb_some hm
  refine ld_77 hx hb hK hI g1 (v := σ 77 (ix ((24 * p0) + p1))) rfl dX12_scans_10 ?_
  refine lv_istore_n (lv' := [(3, .int (σ 77 (ix ((24 * p0) + p1)))), (0, .ref (ga g 59)), (1, .int p0), (2, .int p1)]) hx hb dX12_scans_11 rfl hl (by decide) rfl (fun ls hl => ?_)
  refine lv_iconst (v := 0) hx hb dX12_scans_12 (by decide) ?_
  refine lv_istore (lv' := [(4, .int 0), (3, .int (σ 77 (ix ((24 * p0) + p1)))), (0, .ref (ga g 59)), (1, .int p0), (2, .int p1)]) hx hb dX12_scans_13 hl (by decide) rfl (fun ls hl => ?_)
  refine lv_iconst (v := 0) hx hb dX12_scans_15 (by decide) ?_
  refine lv_istore (lv' := [(5, .int 0), (4, .int 0), (3, .int (σ 77 (ix ((24 * p0) + p1)))), (0, .ref (ga g 59)), (1, .int p0), (2, .int p1)]) hx hb dX12_scans_16 hl (by decide) rfl (fun ls hl => ?_)
  refine lp_X12_scans_18 hC N _ _ _ _ _ _ hm hI (lv_sub hl [3, 4, 5, 2, 1, 0] rfl) ?_
  intro σ14 w15 w16 H locs ls hm hI hl
  refine lv_iconst (v := 0) hx hb dX12_scans_103 (by decide) ?_
  refine lv_istore (lv' := [(5, .int 0), (0, .ref (ga g 59)), (1, .int p0), (2, .int p1), (4, .int w15)]) hx hb dX12_scans_104 hl (by decide) rfl (fun ls hl => ?_)
  refine lp_X12_scans_106 hC N _ _ _ _ _ hm hI (lv_sub hl [1, 2, 3, 4, 0] rfl) ?_
  intro σ19 w20 H locs ls hm hI hl
  refine lv_iload hx hb dX12_scans_134 (lv_at hl 3 rfl) ?_
  refine lv_aload_n hx hb dX12_scans_136 rfl (lv_at hl 0 rfl) ?_
  refine gf_59_22 hx hb ht hK hI (v := σ19 59 22) rfl mw_938 (fun _ h9 => h9) hown dX12_scans_137 ?_
  refine lv_iconst (v := 2) hx hb dX12_scans_140 (by decide) ?_
  refine lv_isub hx hb dX12_scans_141 ?_
  refine lv_icmp_ge (tgt := 166) hx hb dX12_scans_142 (by decide) (fun c21 => ?_) (fun c21 => ?_)
  · have hm := (if_pos c21).symm.trans hm
    refine lv_iload_n hx hb dX12_scans_166 rfl (lv_at hl 2 rfl) ?_
    refine lv_istore (lv' := [(6, .int p1), (0, .ref (ga g 59)), (1, .int p0), (2, .int p1), (5, .int w20)]) hx hb dX12_scans_167 hl (by decide) rfl (fun ls hl => ?_)
    refine lv_iconst (v := 0) hx hb dX12_scans_169 (by decide) ?_
    refine lv_istore (lv' := [(7, .int 0), (6, .int p1), (0, .ref (ga g 59)), (1, .int p0), (2, .int p1), (5, .int w20)]) hx hb dX12_scans_170 hl (by decide) rfl (fun ls hl => ?_)
    refine lp_X12_scans_172 hC N _ _ _ _ _ _ hm hI (lv_sub hl [2, 3, 4, 1, 0] rfl) ?_
    intro σ38 w39 w40 H locs ls hm hI hl
    refine lv_aload_n hx hb dX12_scans_277 rfl (lv_at hl 0 rfl) ?_
    refine gf_59_26 hx hb ht hK hI mw_775 (fun _ h9 => h9) hown dX12_scans_278 ?_
    refine lv_bipush (v := 24) hx hb dX12_scans_281 (by decide) ?_
    refine lv_iload_n hx hb dX12_scans_283 rfl (lv_at hl 1 rfl) ?_
    refine lv_imul hx hb dX12_scans_284 ?_
    refine lv_iload hx hb dX12_scans_285 (lv_at hl 3 rfl) ?_
    refine lv_iadd hx hb dX12_scans_287 ?_
    refine lv_aload_n hx hb dX12_scans_288 rfl (lv_at hl 0 rfl) ?_
    refine gf_59_27 hx hb ht hK hI mw_776 (fun _ h9 => h9) hown dX12_scans_289 ?_
    refine lv_iload_n hx hb dX12_scans_292 rfl (lv_at hl 1 rfl) ?_
    obtain ⟨g41, hm⟩ := gb_some hm
    refine ld_81 hx hb hK hI g41 (v := σ38 81 (ix p0)) rfl dX12_scans_293 ?_
    obtain ⟨g42, hm⟩ := gb_some hm
    refine sv_80 hx hb hK hI g42 dX12_scans_294 (fun H locs hI => ?_)
    refine lv_aload_n hx hb dX12_scans_295 rfl (lv_at hl 0 rfl) ?_
    refine gf_59_27 hx hb ht hK hI mw_776 (fun _ h9 => h9) hown dX12_scans_296 ?_
    refine lv_iload_n hx hb dX12_scans_299 rfl (lv_at hl 1 rfl) ?_
    refine lv_dup2_11 hx hb dX12_scans_300 rfl rfl ?_
    obtain ⟨g43, hm⟩ := gb_some hm
    refine ld_81 hx hb hK hI g43 (v := σ38 81 (ix p0)) rfl dX12_scans_301 ?_
    refine lv_iconst (v := 1) hx hb dX12_scans_302 (by decide) ?_
    refine lv_iadd hx hb dX12_scans_303 ?_
    obtain ⟨g44, hm⟩ := gb_some hm
    refine sv_81 hx hb hK hI g44 dX12_scans_304 (fun H locs hI => ?_)
    refine lv_iload hx hb dX12_scans_305 (lv_at hl 3 rfl) ?_
    refine lv_iload_n hx hb dX12_scans_307 rfl (lv_at hl 2 rfl) ?_
    refine lv_icmp_eq (tgt := 362) hx hb dX12_scans_308 (by decide) (fun c45 => ?_) (fun c45 => ?_)
    · have hm := (if_pos c45).symm.trans hm
      exact hR _ _ _ _ _ hm hI dX12_scans_362
    · have hm := (if_neg c45).symm.trans hm
      refine lv_aload_n hx hb dX12_scans_311 rfl (lv_at hl 0 rfl) ?_
      refine gf_59_25 hx hb ht hK hI mw_774 (fun _ h9 => h9) hown dX12_scans_312 ?_
      refine lv_bipush (v := 24) hx hb dX12_scans_315 (by decide) ?_
      refine lv_iload_n hx hb dX12_scans_317 rfl (lv_at hl 1 rfl) ?_
      refine lv_imul hx hb dX12_scans_318 ?_
      refine lv_iload_n hx hb dX12_scans_319 rfl (lv_at hl 2 rfl) ?_
      refine lv_iadd hx hb dX12_scans_320 ?_
      refine lv_aload_n hx hb dX12_scans_321 rfl (lv_at hl 0 rfl) ?_
      refine gf_59_25 hx hb ht hK hI mw_774 (fun _ h9 => h9) hown dX12_scans_322 ?_
      refine lv_bipush (v := 24) hx hb dX12_scans_325 (by decide) ?_
      refine lv_iload_n hx hb dX12_scans_327 rfl (lv_at hl 1 rfl) ?_
      refine lv_imul hx hb dX12_scans_328 ?_
      refine lv_iload hx hb dX12_scans_329 (lv_at hl 3 rfl) ?_
      refine lv_iadd hx hb dX12_scans_331 ?_
      obtain ⟨g46, hm⟩ := gb_some hm
      refine ld_79 hx hb hK hI g46 (v := σ38 79 (ix ((24 * p0) + w39))) rfl dX12_scans_332 ?_
      obtain ⟨g47, hm⟩ := gb_some hm
      refine sv_79 hx hb hK hI g47 dX12_scans_333 (fun H locs hI => ?_)
      refine lv_aload_n hx hb dX12_scans_334 rfl (lv_at hl 0 rfl) ?_
      refine gf_59_25 hx hb ht hK hI mw_774 (fun _ h9 => h9) hown dX12_scans_335 ?_
      refine lv_bipush (v := 24) hx hb dX12_scans_338 (by decide) ?_
      refine lv_iload_n hx hb dX12_scans_340 rfl (lv_at hl 1 rfl) ?_
      refine lv_imul hx hb dX12_scans_341 ?_
      refine lv_iload hx hb dX12_scans_342 (lv_at hl 3 rfl) ?_
      refine lv_iadd hx hb dX12_scans_344 ?_
      refine lv_iconst (v := (-1)) hx hb dX12_scans_345 (by decide) ?_
      obtain ⟨g48, hm⟩ := gb_some hm
      refine sv_79 hx hb hK hI g48 dX12_scans_346 (fun H locs hI => ?_)
      refine lv_aload_n hx hb dX12_scans_347 rfl (lv_at hl 0 rfl) ?_
      refine gf_59_29 hx hb ht hK hI mw_778 (fun _ h9 => h9) hown dX12_scans_348 ?_
      refine lv_iload hx hb dX12_scans_351 (lv_at hl 3 rfl) ?_
      refine lv_iconst (v := 0) hx hb dX12_scans_353 (by decide) ?_
      obtain ⟨g49, hm⟩ := gb_some hm
      refine sv_83 hx hb hK hI g49 (by decide) dX12_scans_354 (fun H locs hI => ?_)
      refine lv_aload_n hx hb dX12_scans_355 rfl (lv_at hl 0 rfl) ?_
      refine gf_59_29 hx hb ht hK hI mw_778 (fun _ h9 => h9) hown dX12_scans_356 ?_
      refine lv_iload_n hx hb dX12_scans_359 rfl (lv_at hl 2 rfl) ?_
      refine lv_iconst (v := 1) hx hb dX12_scans_360 (by decide) ?_
      obtain ⟨g50, hm⟩ := gb_some hm
      refine sv_83 hx hb hK hI g50 (by decide) dX12_scans_361 (fun H locs hI => ?_)
      exact hR _ _ _ _ _ hm hI dX12_scans_362
  · have hm := (if_neg c21).symm.trans hm
    refine lv_aload_n hx hb dX12_scans_145 rfl (lv_at hl 0 rfl) ?_
    refine gf_59_25 hx hb ht hK hI mw_774 (fun _ h9 => h9) hown dX12_scans_146 ?_
    refine lv_bipush (v := 24) hx hb dX12_scans_149 (by decide) ?_
    refine lv_iload_n hx hb dX12_scans_151 rfl (lv_at hl 1 rfl) ?_
    refine lv_imul hx hb dX12_scans_152 ?_
    refine lv_iload_n hx hb dX12_scans_153 rfl (lv_at hl 2 rfl) ?_
    refine lv_iadd hx hb dX12_scans_154 ?_
    refine lv_iload hx hb dX12_scans_155 (lv_at hl 3 rfl) ?_
    obtain ⟨g51, hm⟩ := gb_some hm
    refine sv_79 hx hb hK hI g51 dX12_scans_157 (fun H locs hI => ?_)
    refine lv_aload_n hx hb dX12_scans_158 rfl (lv_at hl 0 rfl) ?_
    refine gf_59_29 hx hb ht hK hI mw_778 (fun _ h9 => h9) hown dX12_scans_159 ?_
    refine lv_iload_n hx hb dX12_scans_162 rfl (lv_at hl 2 rfl) ?_
    refine lv_iconst (v := 1) hx hb dX12_scans_163 (by decide) ?_
    obtain ⟨g52, hm⟩ := gb_some hm
    refine sv_83 hx hb hK hI g52 (by decide) dX12_scans_164 (fun H locs hI => ?_)
    exact hR _ _ _ _ _ hm hI dX12_scans_165
