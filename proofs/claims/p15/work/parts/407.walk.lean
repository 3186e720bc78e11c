def f_X12_written (N n : Nat) (σ : Sg) (p0 : Int32) : Option (Int32 × Sg) := bd (f_X12_slotOf N n σ p0) (fun r1 σ2 => if 0 ≤ r1 then (some ((σ2 59 22) - 2, σ2)) else (bd (f_X12_registerOf N n σ2 p0) (fun r5 σ6 => some (r5, σ6))))
set_option maxHeartbeats 4000000 in
set_option maxRecDepth 100000 in
theorem c_X12_written {l : Launch} {g : GG} {q : Nat} (N n : Nat) {σ : Sg} {p0 : Int32} {r : Int32} {σ' : Sg} (hm : f_X12_written N n σ p0 = some (r, σ')) : CTi l yX12_written cX12_written 2 (some .int) 1 21 g q n [.ref (ga g 59), .int p0] σ r σ' := by
  refine e_i (r := r) (by decide) (Nat.le_of_ble_eq_true rfl) ?_
  intro p e s m args below meth c A Q ls hC hl hI
  obtain ⟨hX, hK, hN, hZ, hA, hR⟩ := id hC
  have hx : p.tables.exec = Jvm.exec := hX.1
  have hb : c.code = cX12_written := hX.2.1
  have hml : c.maxLocals = 2 := hX.2.2.1
  have hown : s.vm.findClass RX12 = some m.cls := hX.2.2.2.1
  have ht : ∀ w ∈ BIG, w.before args s = true := hX.2.2.2.2
  have hl : lv_has ls 2 [(0, .ref (ga g 59)), (1, .int p0)] := hl
  unfold f_X12_written at hm
  refine lv_aload_n hx hb dX12_written_0 rfl (lv_at hl 0 rfl) ?_
  refine lv_iload_n hx hb dX12_written_1 rfl (lv_at hl 1 rfl) ?_
  obtain ⟨r1, σ2, h3, hm⟩ := bd_some hm
  refine k_i hI hA (va_runV (As := [.int p0]) (rest := []) hX (c_X12_slotOf N n h3 _) (cwV 1 ht (in_V mw_950 mw_951 mw_952 mw_861 mw_948) rfl rfl rfl pd_X12_slotOf ⟨Nat.le_of_ble_eq_true rfl, Nat.le_of_ble_eq_true rfl⟩) ⟨q_blind, va_recv hK hI.1 (ci := 11) (q0 := 59) rfl rfl, q_to hI hK hN hZ hA⟩ rfl rfl hl.1 rfl (lv_room (Nat.le_of_ble_eq_true rfl)) dX12_written_2 (by decide)) (fun H locs hI => ?_)
  refine lv_if_ge (tgt := 16) hx hb dX12_written_5 (by decide) (fun c4 => ?_) (fun c4 => ?_)
  · have hm := (if_pos c4).symm.trans hm
    refine lv_aload_n hx hb dX12_written_16 rfl (lv_at hl 0 rfl) ?_
    refine gf_59_22 hx hb ht hK hI (v := σ2 59 22) rfl mw_938 (fun _ h9 => h9) hown dX12_written_17 ?_
    refine lv_iconst (v := 2) hx hb dX12_written_20 (by decide) ?_
    refine lv_isub hx hb dX12_written_21 ?_
    exact hR _ _ _ _ _ _ hm hI dX12_written_22
  · have hm := (if_neg c4).symm.trans hm
    refine lv_aload_n hx hb dX12_written_8 rfl (lv_at hl 0 rfl) ?_
    refine lv_iload_n hx hb dX12_written_9 rfl (lv_at hl 1 rfl) ?_
    obtain ⟨r5, σ6, h7, hm⟩ := bd_some hm
    refine k_i hI hA (va_runV (As := [.int p0]) (rest := []) hX (c_X12_registerOf N n h7 _) (cwV 1 ht (in_V mw_953 mw_954 mw_955 mw_861 mw_946) rfl rfl rfl pd_X12_registerOf ⟨Nat.le_of_ble_eq_true rfl, Nat.le_of_ble_eq_true rfl⟩) ⟨q_blind, va_recv hK hI.1 (ci := 11) (q0 := 59) rfl rfl, q_to hI hK hN hZ hA⟩ rfl rfl hl.1 rfl (lv_room (Nat.le_of_ble_eq_true rfl)) dX12_written_10 (by decide)) (fun H locs hI => ?_)
    refine lv_goto (tgt := 22) hx hb dX12_written_13 (by decide) ?_
    exact hR _ _ _ _ _ _ hm hI dX12_written_22
def f_X12_emit (N n : Nat) (σ : Sg) (p0 : Int32) (p1 : Int32) (p2 : Int32) (p3 : Int32) (p4 : Int32) : Option (Int32 × Sg) := if (σ 59 30) = 2000 then (some (0, sg σ 59 34 1)) else (gb (5 * (σ 59 30)) 10000 (gb ((5 * (σ 59 30)) + 1) 10000 (gb ((5 * (σ 59 30)) + 2) 10000 (gb ((5 * (σ 59 30)) + 3) 10000 (gb ((5 * (σ 59 30)) + 4) 10000 (some (0, sg (sg (sg (sg (sg (sg σ 84 (ix (5 * (σ 59 30))) p0) 84 (ix ((5 * (σ 59 30)) + 1)) p1) 84 (ix ((5 * (σ 59 30)) + 2)) p2) 84 (ix ((5 * (σ 59 30)) + 3)) p3) 84 (ix ((5 * (σ 59 30)) + 4)) p4) 59 30 ((σ 59 30) + 1))))))))
set_option maxHeartbeats 4000000 in
set_option maxRecDepth 100000 in
theorem c_X12_emit {l : Launch} {g : GG} {q : Nat} (N n : Nat) {σ : Sg} {p0 : Int32} {p1 : Int32} {p2 : Int32} {p3 : Int32} {p4 : Int32} {r : Int32} {σ' : Sg} (hm : f_X12_emit N n σ p0 p1 p2 p3 p4 = some (r, σ')) : CTv l yX12_emit cX12_emit 6 none 0 0 g q n [.ref (ga g 59), .int p0, .int p1, .int p2, .int p3, .int p4] σ σ' := by
  refine e_v (r := r) (by decide) (Nat.le_of_ble_eq_true rfl) ?_
  intro p e s m args below meth c A Q ls hC hl hI
  obtain ⟨hX, hK, hN, hZ, hA, hR⟩ := id hC
  have hx : p.tables.exec = Jvm.exec := hX.1
  have hb : c.code = cX12_emit := hX.2.1
  have hml : c.maxLocals = 6 := hX.2.2.1
  have hown : s.vm.findClass RX12 = some m.cls := hX.2.2.2.1
  have ht : ∀ w ∈ BIG, w.before args s = true := hX.2.2.2.2
  have hl : lv_has ls 6 [(0, .ref (ga g 59)), (1, .int p0), (2, .int p1), (3, .int p2), (4, .int p3), (5, .int p4)] := hl
  unfold f_X12_emit at hm
  refine lv_aload_n hx hb dX12_emit_0 rfl (lv_at hl 0 rfl) ?_
  refine gf_59_30 hx hb ht hK hI (v := σ 59 30) rfl mw_944 (fun _ h9 => h9) hown dX12_emit_1 ?_
  refine lv_sipush (v := 2000) hx hb dX12_emit_4 (by decide) ?_
  refine lv_icmp_ne (tgt := 16) hx hb dX12_emit_7 (by decide) (fun c1 => ?_) (fun c1 => ?_)
  · have hm := (if_neg c1).symm.trans hm
    refine lv_aload_n hx hb dX12_emit_16 rfl (lv_at hl 0 rfl) ?_
    refine gf_59_31 hx hb ht hK hI mw_779 (fun _ h9 => h9) hown dX12_emit_17 ?_
    refine lv_iconst (v := 5) hx hb dX12_emit_20 (by decide) ?_
    refine lv_aload_n hx hb dX12_emit_21 rfl (lv_at hl 0 rfl) ?_
    refine gf_59_30 hx hb ht hK hI (v := σ 59 30) rfl mw_944 (fun _ h9 => h9) hown dX12_emit_22 ?_
    refine lv_imul hx hb dX12_emit_25 ?_
    refine lv_iload_n hx hb dX12_emit_26 rfl (lv_at hl 1 rfl) ?_
    obtain ⟨g2, hm⟩ := gb_some hm
    refine sv_84 hx hb hK hI g2 dX12_emit_27 (fun H locs hI => ?_)
    refine lv_aload_n hx hb dX12_emit_28 rfl (lv_at hl 0 rfl) ?_
    refine gf_59_31 hx hb ht hK hI mw_779 (fun _ h9 => h9) hown dX12_emit_29 ?_
    refine lv_iconst (v := 5) hx hb dX12_emit_32 (by decide) ?_
    refine lv_aload_n hx hb dX12_emit_33 rfl (lv_at hl 0 rfl) ?_
    refine gf_59_30 hx hb ht hK hI (v := σ 59 30) rfl mw_944 (fun _ h9 => h9) hown dX12_emit_34 ?_
    refine lv_imul hx hb dX12_emit_37 ?_
    refine lv_iconst (v := 1) hx hb dX12_emit_38 (by decide) ?_
    refine lv_iadd hx hb dX12_emit_39 ?_
    refine lv_iload_n hx hb dX12_emit_40 rfl (lv_at hl 2 rfl) ?_
    obtain ⟨g3, hm⟩ := gb_some hm
    refine sv_84 hx hb hK hI g3 dX12_emit_41 (fun H locs hI => ?_)
    refine lv_aload_n hx hb dX12_emit_42 rfl (lv_at hl 0 rfl) ?_
    refine gf_59_31 hx hb ht hK hI mw_779 (fun _ h9 => h9) hown dX12_emit_43 ?_
    refine lv_iconst (v := 5) hx hb dX12_emit_46 (by decide) ?_
    refine lv_aload_n hx hb dX12_emit_47 rfl (lv_at hl 0 rfl) ?_
    refine gf_59_30 hx hb ht hK hI (v := σ 59 30) rfl mw_944 (fun _ h9 => h9) hown dX12_emit_48 ?_
    refine lv_imul hx hb dX12_emit_51 ?_
    refine lv_iconst (v := 2) hx hb dX12_emit_52 (by decide) ?_
    refine lv_iadd hx hb dX12_emit_53 ?_
    refine lv_iload_n hx hb dX12_emit_54 rfl (lv_at hl 3 rfl) ?_
    obtain ⟨g4, hm⟩ := gb_some hm
    refine sv_84 hx hb hK hI g4 dX12_emit_55 (fun H locs hI => ?_)
    refine lv_aload_n hx hb dX12_emit_56 rfl (lv_at hl 0 rfl) ?_
    refine gf_59_31 hx hb ht hK hI mw_779 (fun _ h9 => h9) hown dX12_emit_57 ?_
    refine lv_iconst (v := 5) hx hb dX12_emit_60 (by decide) ?_
    refine lv_aload_n hx hb dX12_emit_61 rfl (lv_at hl 0 rfl) ?_
    refine gf_59_30 hx hb ht hK hI (v := σ 59 30) rfl mw_944 (fun _ h9 => h9) hown dX12_emit_62 ?_
    refine lv_imul hx hb dX12_emit_65 ?_
    refine lv_iconst (v := 3) hx hb dX12_emit_66 (by decide) ?_
    refine lv_iadd hx hb dX12_emit_67 ?_
    refine lv_iload hx hb dX12_emit_68 (lv_at hl 4 rfl) ?_
    obtain ⟨g5, hm⟩ := gb_some hm
    refine sv_84 hx hb hK hI g5 dX12_emit_70 (fun H locs hI => ?_)
    refine lv_aload_n hx hb dX12_emit_71 rfl (lv_at hl 0 rfl) ?_
    refine gf_59_31 hx hb ht hK hI mw_779 (fun _ h9 => h9) hown dX12_emit_72 ?_
    refine lv_iconst (v := 5) hx hb dX12_emit_75 (by decide) ?_
    refine lv_aload_n hx hb dX12_emit_76 rfl (lv_at hl 0 rfl) ?_
    refine gf_59_30 hx hb ht hK hI (v := σ 59 30) rfl mw_944 (fun _ h9 => h9) hown dX12_emit_77 ?_
    refine lv_imul hx hb dX12_emit_80 ?_
    refine lv_iconst (v := 4) hx hb dX12_emit_81 (by decide) ?_
    refine lv_iadd hx hb dX12_emit_82 ?_
    refine lv_iload hx hb dX12_emit_83 (lv_at hl 5 rfl) ?_
    obtain ⟨g6, hm⟩ := gb_some hm
    refine sv_84 hx hb hK hI g6 dX12_emit_85 (fun H locs hI => ?_)
    refine lv_aload_n hx hb dX12_emit_86 rfl (lv_at hl 0 rfl) ?_
    refine lv_dup hx hb dX12_emit_87 rfl ?_
    refine gf_59_30 hx hb ht hK hI (v := σ 59 30) rfl mw_944 (fun _ h9 => h9) hown dX12_emit_88 ?_
    refine lv_iconst (v := 1) hx hb dX12_emit_91 (by decide) ?_
    refine lv_iadd hx hb dX12_emit_92 ?_
    refine pf_59_30 hx hb ht hK hI mw_944 (fun _ h9 => h9) hown dX12_emit_93 (fun H locs hI => ?_)
    exact hR _ _ _ _ _ hm hI dX12_emit_96
  · have hm := (if_pos c1).symm.trans hm
    refine lv_aload_n hx hb dX12_emit_10 rfl (lv_at hl 0 rfl) ?_
    refine lv_iconst (v := 1) hx hb dX12_emit_11 (by decide) ?_
    refine pf_59_34 hx hb ht hK hI mw_945 (fun _ h9 => h9) (by decide) (by decide) hown dX12_emit_12 (fun H locs hI => ?_)
    exact hR _ _ _ _ _ hm hI dX12_emit_15
def f_X12_saved (N n : Nat) (σ : Sg) (p0 : Int32) : Option (Int32 × Sg) := bd (f_X12_slotOf N n σ p0) (fun r1 σ2 => if r1 < 0 then (some (0, σ2)) else (bd (f_X12_slotOf N n σ2 p0) (fun r5 σ6 => bd (f_X12_emit N n σ6 10 r5 ((σ6 59 22) - 2) 0 0) (fun r8 σ9 => some (0, σ9)))))
set_option maxHeartbeats 4000000 in
set_option maxRecDepth 100000 in
theorem c_X12_saved {l : Launch} {g : GG} {q : Nat} (N n : Nat) {σ : Sg} {p0 : Int32} {r : Int32} {σ' : Sg} (hm : f_X12_saved N n σ p0 = some (r, σ')) : CTv l yX12_saved cX12_saved 2 none 1 25 g q n [.ref (ga g 59), .int p0] σ σ' := by
  refine e_v (r := r) (by decide) (Nat.le_of_ble_eq_true rfl) ?_
  intro p e s m args below meth c A Q ls hC hl hI
  obtain ⟨hX, hK, hN, hZ, hA, hR⟩ := id hC
  have hx : p.tables.exec = Jvm.exec := hX.1
  have hb : c.code = cX12_saved := hX.2.1
  have hml : c.maxLocals = 2 := hX.2.2.1
  have hown : s.vm.findClass RX12 = some m.cls := hX.2.2.2.1
  have ht : ∀ w ∈ BIG, w.before args s = true := hX.2.2.2.2
  have hl : lv_has ls 2 [(0, .ref (ga g 59)), (1, .int p0)] := hl
  unfold f_X12_saved at hm
  refine lv_aload_n hx hb dX12_saved_0 rfl (lv_at hl 0 rfl) ?_
  refine lv_iload_n hx hb dX12_saved_1 rfl (lv_at hl 1 rfl) ?_
  obtain ⟨r1, σ2, h3, hm⟩ := bd_some hm
  refine k_i hI hA (va_runV (As := [.int p0]) (rest := []) hX (c_X12_slotOf N n h3 _) (cwV 1 ht (in_V mw_950 mw_951 mw_952 mw_861 mw_948) rfl rfl rfl pd_X12_slotOf ⟨Nat.le_of_ble_eq_true rfl, Nat.le_of_ble_eq_true rfl⟩) ⟨q_blind, va_recv hK hI.1 (ci := 11) (q0 := 59) rfl rfl, q_to hI hK hN hZ hA⟩ rfl rfl hl.1 rfl (lv_room (Nat.le_of_ble_eq_true rfl)) dX12_saved_2 (by decide)) (fun H locs hI => ?_)
  refine lv_if_lt (tgt := 27) hx hb dX12_saved_5 (by decide) (fun c4 => ?_) (fun c4 => ?_)
  · have hm := (if_pos c4).symm.trans hm
    exact hR _ _ _ _ _ hm hI dX12_saved_27
  · have hm := (if_neg c4).symm.trans hm
    refine lv_aload_n hx hb dX12_saved_8 rfl (lv_at hl 0 rfl) ?_
    refine lv_bipush (v := 10) hx hb dX12_saved_9 (by decide) ?_
    refine lv_aload_n hx hb dX12_saved_11 rfl (lv_at hl 0 rfl) ?_
    refine lv_iload_n hx hb dX12_saved_12 rfl (lv_at hl 1 rfl) ?_
    obtain ⟨r5, σ6, h7, hm⟩ := bd_some hm
    refine k_i hI hA (va_runV (As := [.int p0]) (rest := [.int 10, .ref (ga g 59)]) hX (c_X12_slotOf N n h7 _) (cwV 1 ht (in_V mw_950 mw_951 mw_952 mw_861 mw_948) rfl rfl rfl pd_X12_slotOf ⟨Nat.le_of_ble_eq_true rfl, Nat.le_of_ble_eq_true rfl⟩) ⟨q_blind, va_recv hK hI.1 (ci := 11) (q0 := 59) rfl rfl, q_to hI hK hN hZ hA⟩ rfl rfl hl.1 rfl (lv_room (Nat.le_of_ble_eq_true rfl)) dX12_saved_13 (by decide)) (fun H locs hI => ?_)
    refine lv_aload_n hx hb dX12_saved_16 rfl (lv_at hl 0 rfl) ?_
    refine gf_59_22 hx hb ht hK hI (v := σ6 59 22) rfl mw_938 (fun _ h9 => h9) hown dX12_saved_17 ?_
    refine lv_iconst (v := 2) hx hb dX12_saved_20 (by decide) ?_
    refine lv_isub hx hb dX12_saved_21 ?_
    refine lv_iconst (v := 0) hx hb dX12_saved_22 (by decide) ?_
    refine lv_iconst (v := 0) hx hb dX12_saved_23 (by decide) ?_
    obtain ⟨r8, σ9, h10, hm⟩ := bd_some hm
    refine k_v hI hA (va_runV (As := [.int 10, .int r5, .int ((σ6 59 22) - 2), .int 0, .int 0]) (rest := []) hX (c_X12_emit N n h10 _) (cwV 5 ht (in_V mw_956 mw_957 mw_958 mw_861 mw_943) rfl rfl rfl pd_X12_emit ⟨Nat.le_of_ble_eq_true rfl, Nat.le_of_ble_eq_true rfl⟩) ⟨q_blind, va_recv hK hI.1 (ci := 11) (q0 := 59) rfl rfl, q_to hI hK hN hZ hA⟩ rfl rfl hl.1 rfl (lv_room (Nat.le_of_ble_eq_true rfl)) dX12_saved_24 (by decide)) (fun H locs hI => ?_)
    exact hR _ _ _ _ _ hm hI dX12_saved_27
def f_X12_moves (N n : Nat) (σ : Sg) (p0 : Int32) (p1 : Int32) : Option (Int32 × Sg) := bd (f_X12_slotOf N n σ p0) (fun r1 σ2 => if 0 ≤ r1 then (bd (f_X12_slotOf N n σ2 p0) (fun r5 σ6 => if 0 ≤ r5 then (bd (f_X12_slotOf N n σ6 p1) (fun r9 σ10 => if 0 ≤ r9 then (bd (f_X12_slotOf N n σ10 p0) (fun r13 σ14 => bd (f_X12_slotOf N n σ14 p1) (fun r16 σ17 => if r13 = r16 then (some (0, σ17)) else (bd (f_X12_slotOf N n σ17 p1) (fun r20 σ21 => bd (f_X12_emit N n σ21 9 ((σ17 59 22) - 2) r20 0 0) (fun r23 σ24 => bd (f_X12_slotOf N n σ24 p0) (fun r26 σ27 => bd (f_X12_emit N n σ27 10 r26 ((σ27 59 22) - 2) 0 0) (fun r29 σ30 => some (0, σ30))))))))) else (bd (f_X12_slotOf N n σ10 p0) (fun r32 σ33 => bd (f_X12_registerOf N n σ33 p1) (fun r35 σ36 => bd (f_X12_emit N n σ36 10 r32 r35 0 0) (fun r38 σ39 => some (0, σ39))))))) else (bd (f_X12_registerOf N n σ6 p0) (fun r41 σ42 => bd (f_X12_slotOf N n σ42 p1) (fun r44 σ45 => bd (f_X12_emit N n σ45 9 r41 r44 0 0) (fun r47 σ48 => some (0, σ48))))))) else (bd (f_X12_slotOf N n σ2 p1) (fun r50 σ51 => if 0 ≤ r50 then (bd (f_X12_slotOf N n σ51 p0) (fun r54 σ55 => if 0 ≤ r54 then (bd (f_X12_slotOf N n σ55 p1) (fun r58 σ59 => if 0 ≤ r58 then (bd (f_X12_slotOf N n σ59 p0) (fun r62 σ63 => bd (f_X12_slotOf N n σ63 p1) (fun r65 σ66 => if r62 = r65 then (some (0, σ66)) else (bd (f_X12_slotOf N n σ66 p1) (fun r69 σ70 => bd (f_X12_emit N n σ70 9 ((σ66 59 22) - 2) r69 0 0) (fun r72 σ73 => bd (f_X12_slotOf N n σ73 p0) (fun r75 σ76 => bd (f_X12_emit N n σ76 10 r75 ((σ76 59 22) - 2) 0 0) (fun r78 σ79 => some (0, σ79))))))))) else (bd (f_X12_slotOf N n σ59 p0) (fun r81 σ82 => bd (f_X12_registerOf N n σ82 p1) (fun r84 σ85 => bd (f_X12_emit N n σ85 10 r81 r84 0 0) (fun r87 σ88 => some (0, σ88))))))) else (bd (f_X12_registerOf N n σ55 p0) (fun r90 σ91 => bd (f_X12_slotOf N n σ91 p1) (fun r93 σ94 => bd (f_X12_emit N n σ94 9 r90 r93 0 0) (fun r96 σ97 => some (0, σ97))))))) else (bd (f_X12_registerOf N n σ51 p0) (fun r99 σ100 => bd (f_X12_registerOf N n σ100 p1) (fun r102 σ103 => if r99 = r102 then (some (0, σ103)) else (bd (f_X12_registerOf N n σ103 p0) (fun r106 σ107 => bd (f_X12_registerOf N n σ107 p1) (fun r109 σ110 => bd (f_X12_emit N n σ110 1 r106 r109 0 0) (fun r112 σ113 => some (0, σ113)))))))))))
set_option maxHeartbeats 4000000 in
set_option maxRecDepth 100000 in
theorem c_X12_moves {l : Launch} {g : GG} {q : Nat} (N n : Nat) {σ : Sg} {p0 : Int32} {p1 : Int32} {r : Int32} {σ' : Sg} (hm : f_X12_moves N n σ p0 p1 = some (r, σ')) : CTv l yX12_moves cX12_moves 3 none 1 25 g q n [.ref (ga g 59), .int p0, .int p1] σ σ' := by
  refine e_v (r := r) (by decide) (Nat.le_of_ble_eq_true rfl) ?_
  intro p e s m args below meth c A Q ls hC hl hI
  obtain ⟨hX, hK, hN, hZ, hA, hR⟩ := id hC
  have hx : p.tables.exec = Jvm.exec := hX.1
  have hb : c.code = cX12_moves := hX.2.1
  have hml : c.maxLocals = 3 := hX.2.2.1
  have hown : s.vm.findClass RX12 = some m.cls := hX.2.2.2.1
  have ht : ∀ w ∈ BIG, w.before args s = true := hX.2.2.2.2
  have hl : lv_has ls 3 [(0, .ref (ga g 59)), (1, .int p0), (2, .int p1)] := hl
  unfold f_X12_moves at hm
  refine lv_aload_n hx hb dX12_moves_0 rfl (lv_at hl 0 rfl) ?_
  refine lv_iload_n hx hb dX12_moves_1 rfl (lv_at hl 1 rfl) ?_
  obtain ⟨r1, σ2, h3, hm⟩ := bd_some hm
  refine k_i hI hA (va_runV (As := [.int p0]) (rest := []) hX (c_X12_slotOf N n h3 _) (cwV 1 ht (in_V mw_950 mw_951 mw_952 mw_861 mw_948) rfl rfl rfl pd_X12_slotOf ⟨Nat.le_of_ble_eq_true rfl, Nat.le_of_ble_eq_true rfl⟩) ⟨q_blind, va_recv hK hI.1 (ci := 11) (q0 := 59) rfl rfl, q_to hI hK hN hZ hA⟩ rfl rfl hl.1 rfl (lv_room (Nat.le_of_ble_eq_true rfl)) dX12_moves_2 (by decide)) (fun H locs hI => ?_)
  refine lv_if_ge (tgt := 49) hx hb dX12_moves_5 (by decide) (fun c4 => ?_) (fun c4 => ?_)
  · have hm := (if_pos c4).symm.trans hm
    refine lv_aload_n hx hb dX12_moves_49 rfl (lv_at hl 0 rfl) ?_
    refine lv_iload_n hx hb dX12_moves_50 rfl (lv_at hl 1 rfl) ?_
    obtain ⟨r5, σ6, h7, hm⟩ := bd_some hm
    refine k_i hI hA (va_runV (As := [.int p0]) (rest := []) hX (c_X12_slotOf N n h7 _) (cwV 1 ht (in_V mw_950 mw_951 mw_952 mw_861 mw_948) rfl rfl rfl pd_X12_slotOf ⟨Nat.le_of_ble_eq_true rfl, Nat.le_of_ble_eq_true rfl⟩) ⟨q_blind, va_recv hK hI.1 (ci := 11) (q0 := 59) rfl rfl, q_to hI hK hN hZ hA⟩ rfl rfl hl.1 rfl (lv_room (Nat.le_of_ble_eq_true rfl)) dX12_moves_51 (by decide)) (fun H locs hI => ?_)
    refine lv_if_ge (tgt := 78) hx hb dX12_moves_54 (by decide) (fun c8 => ?_) (fun c8 => ?_)
    · have hm := (if_pos c8).symm.trans hm
      refine lv_aload_n hx hb dX12_moves_78 rfl (lv_at hl 0 rfl) ?_
      refine lv_iload_n hx hb dX12_moves_79 rfl (lv_at hl 2 rfl) ?_
      obtain ⟨r9, σ10, h11, hm⟩ := bd_some hm
      refine k_i hI hA (va_runV (As := [.int p1]) (rest := []) hX (c_X12_slotOf N n h11 _) (cwV 1 ht (in_V mw_950 mw_951 mw_952 mw_861 mw_948) rfl rfl rfl pd_X12_slotOf ⟨Nat.le_of_ble_eq_true rfl, Nat.le_of_ble_eq_true rfl⟩) ⟨q_blind, va_recv hK hI.1 (ci := 11) (q0 := 59) rfl rfl, q_to hI hK hN hZ hA⟩ rfl rfl hl.1 rfl (lv_room (Nat.le_of_ble_eq_true rfl)) dX12_moves_80 (by decide)) (fun H locs hI => ?_)
      refine lv_if_ge (tgt := 107) hx hb dX12_moves_83 (by decide) (fun c12 => ?_) (fun c12 => ?_)
      · have hm := (if_pos c12).symm.trans hm
        refine lv_aload_n hx hb dX12_moves_107 rfl (lv_at hl 0 rfl) ?_
        refine lv_iload_n hx hb dX12_moves_108 rfl (lv_at hl 1 rfl) ?_
        obtain ⟨r13, σ14, h15, hm⟩ := bd_some hm
        refine k_i hI hA (va_runV (As := [.int p0]) (rest := []) hX (c_X12_slotOf N n h15 _) (cwV 1 ht (in_V mw_950 mw_951 mw_952 mw_861 mw_948) rfl rfl rfl pd_X12_slotOf ⟨Nat.le_of_ble_eq_true rfl, Nat.le_of_ble_eq_true rfl⟩) ⟨q_blind, va_recv hK hI.1 (ci := 11) (q0 := 59) rfl rfl, q_to hI hK hN hZ hA⟩ rfl rfl hl.1 rfl (lv_room (Nat.le_of_ble_eq_true rfl)) dX12_moves_109 (by decide)) (fun H locs hI => ?_)
        refine lv_aload_n hx hb dX12_moves_112 rfl (lv_at hl 0 rfl) ?_
        refine lv_iload_n hx hb dX12_moves_113 rfl (lv_at hl 2 rfl) ?_
        obtain ⟨r16, σ17, h18, hm⟩ := bd_some hm
        refine k_i hI hA (va_runV (As := [.int p1]) (rest := [.int r13]) hX (c_X12_slotOf N n h18 _) (cwV 1 ht (in_V mw_950 mw_951 mw_952 mw_861 mw_948) rfl rfl rfl pd_X12_slotOf ⟨Nat.le_of_ble_eq_true rfl, Nat.le_of_ble_eq_true rfl⟩) ⟨q_blind, va_recv hK hI.1 (ci := 11) (q0 := 59) rfl rfl, q_to hI hK hN hZ hA⟩ rfl rfl hl.1 rfl (lv_room (Nat.le_of_ble_eq_true rfl)) dX12_moves_114 (by decide)) (fun H locs hI => ?_)
        refine lv_icmp_eq (tgt := 158) hx hb dX12_moves_117 (by decide) (fun c19 => ?_) (fun c19 => ?_)
        · have hm := (if_pos c19).symm.trans hm
          exact hR _ _ _ _ _ hm hI dX12_moves_158
        · have hm := (if_neg c19).symm.trans hm
          refine lv_aload_n hx hb dX12_moves_120 rfl (lv_at hl 0 rfl) ?_
          refine lv_bipush (v := 9) hx hb dX12_moves_121 (by decide) ?_
          refine lv_aload_n hx hb dX12_moves_123 rfl (lv_at hl 0 rfl) ?_
          refine gf_59_22 hx hb ht hK hI (v := σ17 59 22) rfl mw_938 (fun _ h9 => h9) hown dX12_moves_124 ?_
          refine lv_iconst (v := 2) hx hb dX12_moves_127 (by decide) ?_
          refine lv_isub hx hb dX12_moves_128 ?_
          refine lv_aload_n hx hb dX12_moves_129 rfl (lv_at hl 0 rfl) ?_
          refine lv_iload_n hx hb dX12_moves_130 rfl (lv_at hl 2 rfl) ?_
          obtain ⟨r20, σ21, h22, hm⟩ := bd_some hm
          refine k_i hI hA (va_runV (As := [.int p1]) (rest := [.int ((σ17 59 22) - 2), .int 9, .ref (ga g 59)]) hX (c_X12_slotOf N n h22 _) (cwV 1 ht (in_V mw_950 mw_951 mw_952 mw_861 mw_948) rfl rfl rfl pd_X12_slotOf ⟨Nat.le_of_ble_eq_true rfl, Nat.le_of_ble_eq_true rfl⟩) ⟨q_blind, va_recv hK hI.1 (ci := 11) (q0 := 59) rfl rfl, q_to hI hK hN hZ hA⟩ rfl rfl hl.1 rfl (lv_room (Nat.le_of_ble_eq_true rfl)) dX12_moves_131 (by decide)) (fun H locs hI => ?_)
          refine lv_iconst (v := 0) hx hb dX12_moves_134 (by decide) ?_
          refine lv_iconst (v := 0) hx hb dX12_moves_135 (by decide) ?_
          obtain ⟨r23, σ24, h25, hm⟩ := bd_some hm
          refine k_v hI hA (va_runV (As := [.int 9, .int ((σ17 59 22) - 2), .int r20, .int 0, .int 0]) (rest := []) hX (c_X12_emit N n h25 _) (cwV 5 ht (in_V mw_956 mw_957 mw_958 mw_861 mw_943) rfl rfl rfl pd_X12_emit ⟨Nat.le_of_ble_eq_true rfl, Nat.le_of_ble_eq_true rfl⟩) ⟨q_blind, va_recv hK hI.1 (ci := 11) (q0 := 59) rfl rfl, q_to hI hK hN hZ hA⟩ rfl rfl hl.1 rfl (lv_room (Nat.le_of_ble_eq_true rfl)) dX12_moves_136 (by decide)) (fun H locs hI => ?_)
          refine lv_aload_n hx hb dX12_moves_139 rfl (lv_at hl 0 rfl) ?_
          refine lv_bipush (v := 10) hx hb dX12_moves_140 (by decide) ?_
          refine lv_aload_n hx hb dX12_moves_142 rfl (lv_at hl 0 rfl) ?_
          refine lv_iload_n hx hb dX12_moves_143 rfl (lv_at hl 1 rfl) ?_
          obtain ⟨r26, σ27, h28, hm⟩ := bd_some hm
          refine k_i hI hA (va_runV (As := [.int p0]) (rest := [.int 10, .ref (ga g 59)]) hX (c_X12_slotOf N n h28 _) (cwV 1 ht (in_V mw_950 mw_951 mw_952 mw_861 mw_948) rfl rfl rfl pd_X12_slotOf ⟨Nat.le_of_ble_eq_true rfl, Nat.le_of_ble_eq_true rfl⟩) ⟨q_blind, va_recv hK hI.1 (ci := 11) (q0 := 59) rfl rfl, q_to hI hK hN hZ hA⟩ rfl rfl hl.1 rfl (lv_room (Nat.le_of_ble_eq_true rfl)) dX12_moves_144 (by decide)) (fun H locs hI => ?_)
          refine lv_aload_n hx hb dX12_moves_147 rfl (lv_at hl 0 rfl) ?_
          refine gf_59_22 hx hb ht hK hI (v := σ27 59 22) rfl mw_938 (fun _ h9 => h9) hown dX12_moves_148 ?_
          refine lv_iconst (v := 2) hx hb dX12_moves_151 (by decide) ?_
          refine lv_isub hx hb dX12_moves_152 ?_
          refine lv_iconst (v := 0) hx hb dX12_moves_153 (by decide) ?_
          refine lv_iconst (v := 0) hx hb dX12_moves_154 (by decide) ?_
          obtain ⟨r29, σ30, h31, hm⟩ := bd_some hm
          refine k_v hI hA (va_runV (As := [.int 10, .int r26, .int ((σ27 59 22) - 2), .int 0, .int 0]) (rest := []) hX (c_X12_emit N n h31 _) (cwV 5 ht (in_V mw_956 mw_957 mw_958 mw_861 mw_943) rfl rfl rfl pd_X12_emit ⟨Nat.le_of_ble_eq_true rfl, Nat.le_of_ble_eq_true rfl⟩) ⟨q_blind, va_recv hK hI.1 (ci := 11) (q0 := 59) rfl rfl, q_to hI hK hN hZ hA⟩ rfl rfl hl.1 rfl (lv_room (Nat.le_of_ble_eq_true rfl)) dX12_moves_155 (by decide)) (fun H locs hI => ?_)
          exact hR _ _ _ _ _ hm hI dX12_moves_158
      · have hm := (if_neg c12).symm.trans hm
        refine lv_aload_n hx hb dX12_moves_86 rfl (lv_at hl 0 rfl) ?_
        refine lv_bipush (v := 10) hx hb dX12_moves_87 (by decide) ?_
        refine lv_aload_n hx hb dX12_moves_89 rfl (lv_at hl 0 rfl) ?_
        refine lv_iload_n hx hb dX12_moves_90 rfl (lv_at hl 1 rfl) ?_
        obtain ⟨r32, σ33, h34, hm⟩ := bd_some hm
        refine k_i hI hA (va_runV (As := [.int p0]) (rest := [.int 10, .ref (ga g 59)]) hX (c_X12_slotOf N n h34 _) (cwV 1 ht (in_V mw_950 mw_951 mw_952 mw_861 mw_948) rfl rfl rfl pd_X12_slotOf ⟨Nat.le_of_ble_eq_true rfl, Nat.le_of_ble_eq_true rfl⟩) ⟨q_blind, va_recv hK hI.1 (ci := 11) (q0 := 59) rfl rfl, q_to hI hK hN hZ hA⟩ rfl rfl hl.1 rfl (lv_room (Nat.le_of_ble_eq_true rfl)) dX12_moves_91 (by decide)) (fun H locs hI => ?_)
        refine lv_aload_n hx hb dX12_moves_94 rfl (lv_at hl 0 rfl) ?_
        refine lv_iload_n hx hb dX12_moves_95 rfl (lv_at hl 2 rfl) ?_
        obtain ⟨r35, σ36, h37, hm⟩ := bd_some hm
        refine k_i hI hA (va_runV (As := [.int p1]) (rest := [.int r32, .int 10, .ref (ga g 59)]) hX (c_X12_registerOf N n h37 _) (cwV 1 ht (in_V mw_953 mw_954 mw_955 mw_861 mw_946) rfl rfl rfl pd_X12_registerOf ⟨Nat.le_of_ble_eq_true rfl, Nat.le_of_ble_eq_true rfl⟩) ⟨q_blind, va_recv hK hI.1 (ci := 11) (q0 := 59) rfl rfl, q_to hI hK hN hZ hA⟩ rfl rfl hl.1 rfl (lv_room (Nat.le_of_ble_eq_true rfl)) dX12_moves_96 (by decide)) (fun H locs hI => ?_)
        refine lv_iconst (v := 0) hx hb dX12_moves_99 (by decide) ?_
        refine lv_iconst (v := 0) hx hb dX12_moves_100 (by decide) ?_
        obtain ⟨r38, σ39, h40, hm⟩ := bd_some hm
        refine k_v hI hA (va_runV (As := [.int 10, .int r32, .int r35, .int 0, .int 0]) (rest := []) hX (c_X12_emit N n h40 _) (cwV 5 ht (in_V mw_956 mw_957 mw_958 mw_861 mw_943) rfl rfl rfl pd_X12_emit ⟨Nat.le_of_ble_eq_true rfl, Nat.le_of_ble_eq_true rfl⟩) ⟨q_blind, va_recv hK hI.1 (ci := 11) (q0 := 59) rfl rfl, q_to hI hK hN hZ hA⟩ rfl rfl hl.1 rfl (lv_room (Nat.le_of_ble_eq_true rfl)) dX12_moves_101 (by decide)) (fun H locs hI => ?_)
        refine lv_goto (tgt := 158) hx hb dX12_moves_104 (by decide) ?_
        exact hR _ _ _ _ _ hm hI dX12_moves_158
    · have hm := (if_neg c8).symm.trans hm
      refine lv_aload_n hx hb dX12_moves_57 rfl (lv_at hl 0 rfl) ?_
      refine lv_bipush (v := 9) hx hb dX12_moves_58 (by decide) ?_
      refine lv_aload_n hx hb dX12_moves_60 rfl (lv_at hl 0 rfl) ?_
      refine lv_iload_n hx hb dX12_moves_61 rfl (lv_at hl 1 rfl) ?_
      obtain ⟨r41, σ42, h43, hm⟩ := bd_some hm
      refine k_i hI hA (va_runV (As := [.int p0]) (rest := [.int 9, .ref (ga g 59)]) hX (c_X12_registerOf N n h43 _) (cwV 1 ht (in_V mw_953 mw_954 mw_955 mw_861 mw_946) rfl rfl rfl pd_X12_registerOf ⟨Nat.le_of_ble_eq_true rfl, Nat.le_of_ble_eq_true rfl⟩) ⟨q_blind, va_recv hK hI.1 (ci := 11) (q0 := 59) rfl rfl, q_to hI hK hN hZ hA⟩ rfl rfl hl.1 rfl (lv_room (Nat.le_of_ble_eq_true rfl)) dX12_moves_62 (by decide)) (fun H locs hI => ?_)
      refine lv_aload_n hx hb dX12_moves_65 rfl (lv_at hl 0 rfl) ?_
      refine lv_iload_n hx hb dX12_moves_66 rfl (lv_at hl 2 rfl) ?_
      obtain ⟨r44, σ45, h46, hm⟩ := bd_some hm
      refine k_i hI hA (va_runV (As := [.int p1]) (rest := [.int r41, .int 9, .ref (ga g 59)]) hX (c_X12_slotOf N n h46 _) (cwV 1 ht (in_V mw_950 mw_951 mw_952 mw_861 mw_948) rfl rfl rfl pd_X12_slotOf ⟨Nat.le_of_ble_eq_true rfl, Nat.le_of_ble_eq_true rfl⟩) ⟨q_blind, va_recv hK hI.1 (ci := 11) (q0 := 59) rfl rfl, q_to hI hK hN hZ hA⟩ rfl rfl hl.1 rfl (lv_room (Nat.le_of_ble_eq_true rfl)) dX12_moves_67 (by decide)) (fun H locs hI => ?_)
      refine lv_iconst (v := 0) hx hb dX12_moves_70 (by decide) ?_
      refine lv_iconst (v := 0) hx hb dX12_moves_71 (by decide) ?_
      obtain ⟨r47, σ48, h49, hm⟩ := bd_some hm
      refine k_v hI hA (va_runV (As := [.int 9, .int r41, .int r44, .int 0, .int 0]) (rest := []) hX (c_X12_emit N n h49 _) (cwV 5 ht (in_V mw_956 mw_957 mw_958 mw_861 mw_943) rfl rfl rfl pd_X12_emit ⟨Nat.le_of_ble_eq_true rfl, Nat.le_of_ble_eq_true rfl⟩) ⟨q_blind, va_recv hK hI.1 (ci := 11) (q0 := 59) rfl rfl, q_to hI hK hN hZ hA⟩ rfl rfl hl.1 rfl (lv_room (Nat.le_of_ble_eq_true rfl)) dX12_moves_72 (by decide)) (fun H locs hI => ?_)
      refine lv_goto (tgt := 158) hx hb dX12_moves_75 (by decide) ?_
      exact hR _ _ _ _ _ hm hI dX12_moves_158
  · have hm := (if_neg c4).symm.trans hm
    refine lv_aload_n hx hb dX12_moves_8 rfl (lv_at hl 0 rfl) ?_
    refine lv_iload_n hx hb dX12_moves_9 rfl (lv_at hl 2 rfl) ?_
    obtain ⟨r50, σ51, h52, hm⟩ := bd_some hm
    refine k_i hI hA (va_runV (As := [.int p1]) (rest := []) hX (c_X12_slotOf N n h52 _) (cwV 1 ht (in_V mw_950 mw_951 mw_952 mw_861 mw_948) rfl rfl rfl pd_X12_slotOf ⟨Nat.le_of_ble_eq_true rfl, Nat.le_of_ble_eq_true rfl⟩) ⟨q_blind, va_recv hK hI.1 (ci := 11) (q0 := 59) rfl rfl, q_to hI hK hN hZ hA⟩ rfl rfl hl.1 rfl (lv_room (Nat.le_of_ble_eq_true rfl)) dX12_moves_10 (by decide)) (fun H locs hI => ?_)
    refine lv_if_ge (tgt := 49) hx hb dX12_moves_13 (by decide) (fun c53 => ?_) (fun c53 => ?_)
    · have hm := (if_pos c53).symm.trans hm
      refine lv_aload_n hx hb dX12_moves_49 rfl (lv_at hl 0 rfl) ?_
      refine lv_iload_n hx hb dX12_moves_50 rfl (lv_at hl 1 rfl) ?_
      obtain ⟨r54, σ55, h56, hm⟩ := bd_some hm
      refine k_i hI hA (va_runV (As := [.int p0]) (rest := []) hX (c_X12_slotOf N n h56 _) (cwV 1 ht (in_V mw_950 mw_951 mw_952 mw_861 mw_948) rfl rfl rfl pd_X12_slotOf ⟨Nat.le_of_ble_eq_true rfl, Nat.le_of_ble_eq_true rfl⟩) ⟨q_blind, va_recv hK hI.1 (ci := 11) (q0 := 59) rfl rfl, q_to hI hK hN hZ hA⟩ rfl rfl hl.1 rfl (lv_room (Nat.le_of_ble_eq_true rfl)) dX12_moves_51 (by decide)) (fun H locs hI => ?_)
      refine lv_if_ge (tgt := 78) hx hb dX12_moves_54 (by decide) (fun c57 => ?_) (fun c57 => ?_)
      · have hm := (if_pos c57).symm.trans hm
        refine lv_aload_n hx hb dX12_moves_78 rfl (lv_at hl 0 rfl) ?_
        refine lv_iload_n hx hb dX12_moves_79 rfl (lv_at hl 2 rfl) ?_
        obtain ⟨r58, σ59, h60, hm⟩ := bd_some hm
        refine k_i hI hA (va_runV (As := [.int p1]) (rest := []) hX (c_X12_slotOf N n h60 _) (cwV 1 ht (in_V mw_950 mw_951 mw_952 mw_861 mw_948) rfl rfl rfl pd_X12_slotOf ⟨Nat.le_of_ble_eq_true rfl, Nat.le_of_ble_eq_true rfl⟩) ⟨q_blind, va_recv hK hI.1 (ci := 11) (q0 := 59) rfl rfl, q_to hI hK hN hZ hA⟩ rfl rfl hl.1 rfl (lv_room (Nat.le_of_ble_eq_true rfl)) dX12_moves_80 (by decide)) (fun H locs hI => ?_)
        refine lv_if_ge (tgt := 107) hx hb dX12_moves_83 (by decide) (fun c61 => ?_) (fun c61 => ?_)
        · have hm := (if_pos c61).symm.trans hm
          refine lv_aload_n hx hb dX12_moves_107 rfl (lv_at hl 0 rfl) ?_
          refine lv_iload_n hx hb dX12_moves_108 rfl (lv_at hl 1 rfl) ?_
          obtain ⟨r62, σ63, h64, hm⟩ := bd_some hm
          refine k_i hI hA (va_runV (As := [.int p0]) (rest := []) hX (c_X12_slotOf N n h64 _) (cwV 1 ht (in_V mw_950 mw_951 mw_952 mw_861 mw_948) rfl rfl rfl pd_X12_slotOf ⟨Nat.le_of_ble_eq_true rfl, Nat.le_of_ble_eq_true rfl⟩) ⟨q_blind, va_recv hK hI.1 (ci := 11) (q0 := 59) rfl rfl, q_to hI hK hN hZ hA⟩ rfl rfl hl.1 rfl (lv_room (Nat.le_of_ble_eq_true rfl)) dX12_moves_109 (by decide)) (fun H locs hI => ?_)
          refine lv_aload_n hx hb dX12_moves_112 rfl (lv_at hl 0 rfl) ?_
          refine lv_iload_n hx hb dX12_moves_113 rfl (lv_at hl 2 rfl) ?_
          obtain ⟨r65, σ66, h67, hm⟩ := bd_some hm
          refine k_i hI hA (va_runV (As := [.int p1]) (rest := [.int r62]) hX (c_X12_slotOf N n h67 _) (cwV 1 ht (in_V mw_950 mw_951 mw_952 mw_861 mw_948) rfl rfl rfl pd_X12_slotOf ⟨Nat.le_of_ble_eq_true rfl, Nat.le_of_ble_eq_true rfl⟩) ⟨q_blind, va_recv hK hI.1 (ci := 11) (q0 := 59) rfl rfl, q_to hI hK hN hZ hA⟩ rfl rfl hl.1 rfl (lv_room (Nat.le_of_ble_eq_true rfl)) dX12_moves_114 (by decide)) (fun H locs hI => ?_)
          refine lv_icmp_eq (tgt := 158) hx hb dX12_moves_117 (by decide) (fun c68 => ?_) (fun c68 => ?_)
          · have hm := (if_pos c68).symm.trans hm
            exact hR _ _ _ _ _ hm hI dX12_moves_158
          · have hm := (if_neg c68).symm.trans hm
            refine lv_aload_n hx hb dX12_moves_120 rfl (lv_at hl 0 rfl) ?_
            refine lv_bipush (v := 9) hx hb dX12_moves_121 (by decide) ?_
            refine lv_aload_n hx hb dX12_moves_123 rfl (lv_at hl 0 rfl) ?_
            refine gf_59_22 hx hb ht hK hI (v := σ66 59 22) rfl mw_938 (fun _ h9 => h9) hown dX12_moves_124 ?_
            refine lv_iconst (v := 2) hx hb dX12_moves_127 (by decide) ?_
            refine lv_isub hx hb dX12_moves_128 ?_
            refine lv_aload_n hx hb dX12_moves_129 rfl (lv_at hl 0 rfl) ?_
            refine lv_iload_n hx hb dX12_moves_130 rfl (lv_at hl 2 rfl) ?_
            obtain ⟨r69, σ70, h71, hm⟩ := bd_some hm
            refine k_i hI hA (va_runV (As := [.int p1]) (rest := [.int ((σ66 59 22) - 2), .int 9, .ref (ga g 59)]) hX (c_X12_slotOf N n h71 _) (cwV 1 ht (in_V mw_950 mw_951 mw_952 mw_861 mw_948) rfl rfl rfl pd_X12_slotOf ⟨Nat.le_of_ble_eq_true rfl, Nat.le_of_ble_eq_true rfl⟩) ⟨q_blind, va_recv hK hI.1 (ci := 11) (q0 := 59) rfl rfl, q_to hI hK hN hZ hA⟩ rfl rfl hl.1 rfl (lv_room (Nat.le_of_ble_eq_true rfl)) dX12_moves_131 (by decide)) (fun H locs hI => ?_)
            refine lv_iconst (v := 0) hx hb dX12_moves_134 (by decide) ?_
            refine lv_iconst (v := 0) hx hb dX12_moves_135 (by decide) ?_
            obtain ⟨r72, σ73, h74, hm⟩ := bd_some hm
            refine k_v hI hA (va_runV (As := [.int 9, .int ((σ66 59 22) - 2), .int r69, .int 0, .int 0]) (rest := []) hX (c_X12_emit N n h74 _) (cwV 5 ht (in_V mw_956 mw_957 mw_958 mw_861 mw_943) rfl rfl rfl pd_X12_emit ⟨Nat.le_of_ble_eq_true rfl, Nat.le_of_ble_eq_true rfl⟩) ⟨q_blind, va_recv hK hI.1 (ci := 11) (q0 := 59) rfl rfl, q_to hI hK hN hZ hA⟩ rfl rfl hl.1 rfl (lv_room (Nat.le_of_ble_eq_true rfl)) dX12_moves_136 (by decide)) (fun H locs hI => ?_)
            refine lv_aload_n hx hb dX12_moves_139 rfl (lv_at hl 0 rfl) ?_
            refine lv_bipush (v := 10) hx hb dX12_moves_140 (by decide) ?_
            refine lv_aload_n hx hb dX12_moves_142 rfl (lv_at hl 0 rfl) ?_
            refine lv_iload_n hx hb dX12_moves_143 rfl (lv_at hl 1 rfl) ?_
            obtain ⟨r75, σ76, h77, hm⟩ := bd_some hm
            refine k_i hI hA (va_runV (As := [.int p0]) (rest := [.int 10, .ref (ga g 59)]) hX (c_X12_slotOf N n h77 _) (cwV 1 ht (in_V mw_950 mw_951 mw_952 mw_861 mw_948) rfl rfl rfl pd_X12_slotOf ⟨Nat.le_of_ble_eq_true rfl, Nat.le_of_ble_eq_true rfl⟩) ⟨q_blind, va_recv hK hI.1 (ci := 11) (q0 := 59) rfl rfl, q_to hI hK hN hZ hA⟩ rfl rfl hl.1 rfl (lv_room (Nat.le_of_ble_eq_true rfl)) dX12_moves_144 (by decide)) (fun H locs hI => ?_)
            refine lv_aload_n hx hb dX12_moves_147 rfl (lv_at hl 0 rfl) ?_
            refine gf_59_22 hx hb ht hK hI (v := σ76 59 22) rfl mw_938 (fun _ h9 => h9) hown dX12_moves_148 ?_
            refine lv_iconst (v := 2) hx hb dX12_moves_151 (by decide) ?_
            refine lv_isub hx hb dX12_moves_152 ?_
            refine lv_iconst (v := 0) hx hb dX12_moves_153 (by decide) ?_
            refine lv_iconst (v := 0) hx hb dX12_moves_154 (by decide) ?_
            obtain ⟨r78, σ79, h80, hm⟩ := bd_some hm
            refine k_v hI hA (va_runV (As := [.int 10, .int r75, .int ((σ76 59 22) - 2), .int 0, .int 0]) (rest := []) hX (c_X12_emit N n h80 _) (cwV 5 ht (in_V mw_956 mw_957 mw_958 mw_861 mw_943) rfl rfl rfl pd_X12_emit ⟨Nat.le_of_ble_eq_true rfl, Nat.le_of_ble_eq_true rfl⟩) ⟨q_blind, va_recv hK hI.1 (ci := 11) (q0 := 59) rfl rfl, q_to hI hK hN hZ hA⟩ rfl rfl hl.1 rfl (lv_room (Nat.le_of_ble_eq_true rfl)) dX12_moves_155 (by decide)) (fun H locs hI => ?_)
            exact hR _ _ _ _ _ hm hI dX12_moves_158
        · have hm := (if_neg c61).symm.trans hm
          refine lv_aload_n hx hb dX12_moves_86 rfl (lv_at hl 0 rfl) ?_
          refine lv_bipush (v := 10) hx hb dX12_moves_87 (by decide) ?_
          refine lv_aload_n hx hb dX12_moves_89 rfl (lv_at hl 0 rfl) ?_
          refine lv_iload_n hx hb dX12_moves_90 rfl (lv_at hl 1 rfl) ?_
          obtain ⟨r81, σ82, h83, hm⟩ := bd_some hm
          refine k_i hI hA (va_runV (As := [.int p0]) (rest := [.int 10, .ref (ga g 59)]) hX (c_X12_slotOf N n h83 _) (cwV 1 ht (in_V mw_950 mw_951 mw_952 mw_861 mw_948) rfl rfl rfl pd_X12_slotOf ⟨Nat.le_of_ble_eq_true rfl, Nat.le_of_ble_eq_true rfl⟩) ⟨q_blind, va_recv hK hI.1 (ci := 11) (q0 := 59) rfl rfl, q_to hI hK hN hZ hA⟩ rfl rfl hl.1 rfl (lv_room (Nat.le_of_ble_eq_true rfl)) dX12_moves_91 (by decide)) (fun H locs hI => ?_)
          refine lv_aload_n hx hb dX12_moves_94 rfl (lv_at hl 0 rfl) ?_
          refine lv_iload_n hx hb dX12_moves_95 rfl (lv_at hl 2 rfl) ?_
          obtain ⟨r84, σ85, h86, hm⟩ := bd_some hm
          refine k_i hI hA (va_runV (As := [.int p1]) (rest := [.int r81, .int 10, .ref (ga g 59)]) hX (c_X12_registerOf N n h86 _) (cwV 1 ht (in_V mw_953 mw_954 mw_955 mw_861 mw_946) rfl rfl rfl pd_X12_registerOf ⟨Nat.le_of_ble_eq_true rfl, Nat.le_of_ble_eq_true rfl⟩) ⟨q_blind, va_recv hK hI.1 (ci := 11) (q0 := 59) rfl rfl, q_to hI hK hN hZ hA⟩ rfl rfl hl.1 rfl (lv_room (Nat.le_of_ble_eq_true rfl)) dX12_moves_96 (by decide)) (fun H locs hI => ?_)
          refine lv_iconst (v := 0) hx hb dX12_moves_99 (by decide) ?_
          refine lv_iconst (v := 0) hx hb dX12_moves_100 (by decide) ?_
          obtain ⟨r87, σ88, h89, hm⟩ := bd_some hm
          refine k_v hI hA (va_runV (As := [.int 10, .int r81, .int r84, .int 0, .int 0]) (rest := []) hX (c_X12_emit N n h89 _) (cwV 5 ht (in_V mw_956 mw_957 mw_958 mw_861 mw_943) rfl rfl rfl pd_X12_emit ⟨Nat.le_of_ble_eq_true rfl, Nat.le_of_ble_eq_true rfl⟩) ⟨q_blind, va_recv hK hI.1 (ci := 11) (q0 := 59) rfl rfl, q_to hI hK hN hZ hA⟩ rfl rfl hl.1 rfl (lv_room (Nat.le_of_ble_eq_true rfl)) dX12_moves_101 (by decide)) (fun H locs hI => ?_)
          refine lv_goto (tgt := 158) hx hb dX12_moves_104 (by decide) ?_
          exact hR _ _ _ _ _ hm hI dX12_moves_158
      · have hm := (if_neg c57).symm.trans hm
        refine lv_aload_n hx hb dX12_moves_57 rfl (lv_at hl 0 rfl) ?_
        refine lv_bipush (v := 9) hx hb dX12_moves_58 (by decide) ?_
        refine lv_aload_n hx hb dX12_moves_60 rfl (lv_at hl 0 rfl) ?_
        refine lv_iload_n hx hb dX12_moves_61 rfl (lv_at hl 1 rfl) ?_
        obtain ⟨r90, σ91, h92, hm⟩ := bd_some hm
        refine k_i hI hA (va_runV (As := [.int p0]) (rest := [.int 9, .ref (ga g 59)]) hX (c_X12_registerOf N n h92 _) (cwV 1 ht (in_V mw_953 mw_954 mw_955 mw_861 mw_946) rfl rfl rfl pd_X12_registerOf ⟨Nat.le_of_ble_eq_true rfl, Nat.le_of_ble_eq_true rfl⟩) ⟨q_blind, va_recv hK hI.1 (ci := 11) (q0 := 59) rfl rfl, q_to hI hK hN hZ hA⟩ rfl rfl hl.1 rfl (lv_room (Nat.le_of_ble_eq_true rfl)) dX12_moves_62 (by decide)) (fun H locs hI => ?_)
        refine lv_aload_n hx hb dX12_moves_65 rfl (lv_at hl 0 rfl) ?_
        refine lv_iload_n hx hb dX12_moves_66 rfl (lv_at hl 2 rfl) ?_
        obtain ⟨r93, σ94, h95, hm⟩ := bd_some hm
        refine k_i hI hA (va_runV (As := [.int p1]) (rest := [.int r90, .int 9, .ref (ga g 59)]) hX (c_X12_slotOf N n h95 _) (cwV 1 ht (in_V mw_950 mw_951 mw_952 mw_861 mw_948) rfl rfl rfl pd_X12_slotOf ⟨Nat.le_of_ble_eq_true rfl, Nat.le_of_ble_eq_true rfl⟩) ⟨q_blind, va_recv hK hI.1 (ci := 11) (q0 := 59) rfl rfl, q_to hI hK hN hZ hA⟩ rfl rfl hl.1 rfl (lv_room (Nat.le_of_ble_eq_true rfl)) dX12_moves_67 (by decide)) (fun H locs hI => ?_)
        refine lv_iconst (v := 0) hx hb dX12_moves_70 (by decide) ?_
        refine lv_iconst (v := 0) hx hb dX12_moves_71 (by decide) ?_
        obtain ⟨r96, σ97, h98, hm⟩ := bd_some hm
        refine k_v hI hA (va_runV (As := [.int 9, .int r90, .int r93, .int 0, .int 0]) (rest := []) hX (c_X12_emit N n h98 _) (cwV 5 ht (in_V mw_956 mw_957 mw_958 mw_861 mw_943) rfl rfl rfl pd_X12_emit ⟨Nat.le_of_ble_eq_true rfl, Nat.le_of_ble_eq_true rfl⟩) ⟨q_blind, va_recv hK hI.1 (ci := 11) (q0 := 59) rfl rfl, q_to hI hK hN hZ hA⟩ rfl rfl hl.1 rfl (lv_room (Nat.le_of_ble_eq_true rfl)) dX12_moves_72 (by decide)) (fun H locs hI => ?_)
        refine lv_goto (tgt := 158) hx hb dX12_moves_75 (by decide) ?_
        exact hR _ _ _ _ _ hm hI dX12_moves_158
    · have hm := (if_neg c53).symm.trans hm
      refine lv_aload_n hx hb dX12_moves_16 rfl (lv_at hl 0 rfl) ?_
      refine lv_iload_n hx hb dX12_moves_17 rfl (lv_at hl 1 rfl) ?_
      obtain ⟨r99, σ100, h101, hm⟩ := bd_some hm
      refine k_i hI hA (va_runV (As := [.int p0]) (rest := []) hX (c_X12_registerOf N n h101 _) (cwV 1 ht (in_V mw_953 mw_954 mw_955 mw_861 mw_946) rfl rfl rfl pd_X12_registerOf ⟨Nat.le_of_ble_eq_true rfl, Nat.le_of_ble_eq_true rfl⟩) ⟨q_blind, va_recv hK hI.1 (ci := 11) (q0 := 59) rfl rfl, q_to hI hK hN hZ hA⟩ rfl rfl hl.1 rfl (lv_room (Nat.le_of_ble_eq_true rfl)) dX12_moves_18 (by decide)) (fun H locs hI => ?_)
      refine lv_aload_n hx hb dX12_moves_21 rfl (lv_at hl 0 rfl) ?_
      refine lv_iload_n hx hb dX12_moves_22 rfl (lv_at hl 2 rfl) ?_
      obtain ⟨r102, σ103, h104, hm⟩ := bd_some hm
      refine k_i hI hA (va_runV (As := [.int p1]) (rest := [.int r99]) hX (c_X12_registerOf N n h104 _) (cwV 1 ht (in_V mw_953 mw_954 mw_955 mw_861 mw_946) rfl rfl rfl pd_X12_registerOf ⟨Nat.le_of_ble_eq_true rfl, Nat.le_of_ble_eq_true rfl⟩) ⟨q_blind, va_recv hK hI.1 (ci := 11) (q0 := 59) rfl rfl, q_to hI hK hN hZ hA⟩ rfl rfl hl.1 rfl (lv_room (Nat.le_of_ble_eq_true rfl)) dX12_moves_23 (by decide)) (fun H locs hI => ?_)
      refine lv_icmp_eq (tgt := 158) hx hb dX12_moves_26 (by decide) (fun c105 => ?_) (fun c105 => ?_)
      · have hm := (if_pos c105).symm.trans hm
        exact hR _ _ _ _ _ hm hI dX12_moves_158
      · have hm := (if_neg c105).symm.trans hm
        refine lv_aload_n hx hb dX12_moves_29 rfl (lv_at hl 0 rfl) ?_
        refine lv_iconst (v := 1) hx hb dX12_moves_30 (by decide) ?_
        refine lv_aload_n hx hb dX12_moves_31 rfl (lv_at hl 0 rfl) ?_
        refine lv_iload_n hx hb dX12_moves_32 rfl (lv_at hl 1 rfl) ?_
        obtain ⟨r106, σ107, h108, hm⟩ := bd_some hm
        refine k_i hI hA (va_runV (As := [.int p0]) (rest := [.int 1, .ref (ga g 59)]) hX (c_X12_registerOf N n h108 _) (cwV 1 ht (in_V mw_953 mw_954 mw_955 mw_861 mw_946) rfl rfl rfl pd_X12_registerOf ⟨Nat.le_of_ble_eq_true rfl, Nat.le_of_ble_eq_true rfl⟩) ⟨q_blind, va_recv hK hI.1 (ci := 11) (q0 := 59) rfl rfl, q_to hI hK hN hZ hA⟩ rfl rfl hl.1 rfl (lv_room (Nat.le_of_ble_eq_true rfl)) dX12_moves_33 (by decide)) (fun H locs hI => ?_)
        refine lv_aload_n hx hb dX12_moves_36 rfl (lv_at hl 0 rfl) ?_
        refine lv_iload_n hx hb dX12_moves_37 rfl (lv_at hl 2 rfl) ?_
        obtain ⟨r109, σ110, h111, hm⟩ := bd_some hm
        refine k_i hI hA (va_runV (As := [.int p1]) (rest := [.int r106, .int 1, .ref (ga g 59)]) hX (c_X12_registerOf N n h111 _) (cwV 1 ht (in_V mw_953 mw_954 mw_955 mw_861 mw_946) rfl rfl rfl pd_X12_registerOf ⟨Nat.le_of_ble_eq_true rfl, Nat.le_of_ble_eq_true rfl⟩) ⟨q_blind, va_recv hK hI.1 (ci := 11) (q0 := 59) rfl rfl, q_to hI hK hN hZ hA⟩ rfl rfl hl.1 rfl (lv_room (Nat.le_of_ble_eq_true rfl)) dX12_moves_38 (by decide)) (fun H locs hI => ?_)
        refine lv_iconst (v := 0) hx hb dX12_moves_41 (by decide) ?_
        refine lv_iconst (v := 0) hx hb dX12_moves_42 (by decide) ?_
        obtain ⟨r112, σ113, h114, hm⟩ := bd_some hm
        refine k_v hI hA (va_runV (As := [.int 1, .int r106, .int r109, .int 0, .int 0]) (rest := []) hX (c_X12_emit N n h114 _) (cwV 5 ht (in_V mw_956 mw_957 mw_958 mw_861 mw_943) rfl rfl rfl pd_X12_emit ⟨Nat.le_of_ble_eq_true rfl, Nat.le_of_ble_eq_true rfl⟩) ⟨q_blind, va_recv hK hI.1 (ci := 11) (q0 := 59) rfl rfl, q_to hI hK hN hZ hA⟩ rfl rfl hl.1 rfl (lv_room (Nat.le_of_ble_eq_true rfl)) dX12_moves_43 (by decide)) (fun H locs hI => ?_)
        refine lv_goto (tgt := 158) hx hb dX12_moves_46 (by decide) ?_
        exact hR _ _ _ _ _ hm hI dX12_moves_158
def f_X12_read (N n : Nat) (σ : Sg) (p0 : Int32) (p1 : Int32) : Option (Int32 × Sg) := bd (f_X12_slotOf N n σ p0) (fun r1 σ2 => if 0 ≤ r1 then (bd (f_X12_slotOf N n σ2 p0) (fun r5 σ6 => bd (f_X12_emit N n σ6 9 p1 r5 0 0) (fun r8 σ9 => some (p1, σ9)))) else (bd (f_X12_registerOf N n σ2 p0) (fun r11 σ12 => some (r11, σ12))))
set_option maxHeartbeats 4000000 in
set_option maxRecDepth 100000 in
theorem c_X12_read {l : Launch} {g : GG} {q : Nat} (N n : Nat) {σ : Sg} {p0 : Int32} {p1 : Int32} {r : Int32} {σ' : Sg} (hm : f_X12_read N n σ p0 p1 = some (r, σ')) : CTi l yX12_read cX12_read 3 (some .int) 1 25 g q n [.ref (ga g 59), .int p0, .int p1] σ r σ' := by
  refine e_i (r := r) (by decide) (Nat.le_of_ble_eq_true rfl) ?_
  intro p e s m args below meth c A Q ls hC hl hI
  obtain ⟨hX, hK, hN, hZ, hA, hR⟩ := id hC
  have hx : p.tables.exec = Jvm.exec := hX.1
  have hb : c.code = cX12_read := hX.2.1
  have hml : c.maxLocals = 3 := hX.2.2.1
  have hown : s.vm.findClass RX12 = some m.cls := hX.2.2.2.1
  have ht : ∀ w ∈ BIG, w.before args s = true := hX.2.2.2.2
  have hl : lv_has ls 3 [(0, .ref (ga g 59)), (1, .int p0), (2, .int p1)] := hl
  unfold f_X12_read at hm
  refine lv_aload_n hx hb dX12_read_0 rfl (lv_at hl 0 rfl) ?_
  refine lv_iload_n hx hb dX12_read_1 rfl (lv_at hl 1 rfl) ?_
  obtain ⟨r1, σ2, h3, hm⟩ := bd_some hm
  refine k_i hI hA (va_runV (As := [.int p0]) (rest := []) hX (c_X12_slotOf N n h3 _) (cwV 1 ht (in_V mw_950 mw_951 mw_952 mw_861 mw_948) rfl rfl rfl pd_X12_slotOf ⟨Nat.le_of_ble_eq_true rfl, Nat.le_of_ble_eq_true rfl⟩) ⟨q_blind, va_recv hK hI.1 (ci := 11) (q0 := 59) rfl rfl, q_to hI hK hN hZ hA⟩ rfl rfl hl.1 rfl (lv_room (Nat.le_of_ble_eq_true rfl)) dX12_read_2 (by decide)) (fun H locs hI => ?_)
  refine lv_if_ge (tgt := 14) hx hb dX12_read_5 (by decide) (fun c4 => ?_) (fun c4 => ?_)
  · have hm := (if_pos c4).symm.trans hm
    refine lv_aload_n hx hb dX12_read_14 rfl (lv_at hl 0 rfl) ?_
    refine lv_bipush (v := 9) hx hb dX12_read_15 (by decide) ?_
    refine lv_iload_n hx hb dX12_read_17 rfl (lv_at hl 2 rfl) ?_
    refine lv_aload_n hx hb dX12_read_18 rfl (lv_at hl 0 rfl) ?_
    refine lv_iload_n hx hb dX12_read_19 rfl (lv_at hl 1 rfl) ?_
    obtain ⟨r5, σ6, h7, hm⟩ := bd_some hm
    refine k_i hI hA (va_runV (As := [.int p0]) (rest := [.int p1, .int 9, .ref (ga g 59)]) hX (c_X12_slotOf N n h7 _) (cwV 1 ht (in_V mw_950 mw_951 mw_952 mw_861 mw_948) rfl rfl rfl pd_X12_slotOf ⟨Nat.le_of_ble_eq_true rfl, Nat.le_of_ble_eq_true rfl⟩) ⟨q_blind, va_recv hK hI.1 (ci := 11) (q0 := 59) rfl rfl, q_to hI hK hN hZ hA⟩ rfl rfl hl.1 rfl (lv_room (Nat.le_of_ble_eq_true rfl)) dX12_read_20 (by decide)) (fun H locs hI => ?_)
    refine lv_iconst (v := 0) hx hb dX12_read_23 (by decide) ?_
    refine lv_iconst (v := 0) hx hb dX12_read_24 (by decide) ?_
    obtain ⟨r8, σ9, h10, hm⟩ := bd_some hm
    refine k_v hI hA (va_runV (As := [.int 9, .int p1, .int r5, .int 0, .int 0]) (rest := []) hX (c_X12_emit N n h10 _) (cwV 5 ht (in_V mw_956 mw_957 mw_958 mw_861 mw_943) rfl rfl rfl pd_X12_emit ⟨Nat.le_of_ble_eq_true rfl, Nat.le_of_ble_eq_true rfl⟩) ⟨q_blind, va_recv hK hI.1 (ci := 11) (q0 := 59) rfl rfl, q_to hI hK hN hZ hA⟩ rfl rfl hl.1 rfl (lv_room (Nat.le_of_ble_eq_true rfl)) dX12_read_25 (by decide)) (fun H locs hI => ?_)
    refine lv_iload_n hx hb dX12_read_28 rfl (lv_at hl 2 rfl) ?_
    exact hR _ _ _ _ _ _ hm hI dX12_read_29
  · have hm := (if_neg c4).symm.trans hm
    refine lv_aload_n hx hb dX12_read_8 rfl (lv_at hl 0 rfl) ?_
    refine lv_iload_n hx hb dX12_read_9 rfl (lv_at hl 1 rfl) ?_
    obtain ⟨r11, σ12, h13, hm⟩ := bd_some hm
    refine k_i hI hA (va_runV (As := [.int p0]) (rest := []) hX (c_X12_registerOf N n h13 _) (cwV 1 ht (in_V mw_953 mw_954 mw_955 mw_861 mw_946) rfl rfl rfl pd_X12_registerOf ⟨Nat.le_of_ble_eq_true rfl, Nat.le_of_ble_eq_true rfl⟩) ⟨q_blind, va_recv hK hI.1 (ci := 11) (q0 := 59) rfl rfl, q_to hI hK hN hZ hA⟩ rfl rfl hl.1 rfl (lv_room (Nat.le_of_ble_eq_true rfl)) dX12_read_10 (by decide)) (fun H locs hI => ?_)
    exact hR _ _ _ _ _ _ hm hI dX12_read_13
def f_X12_into (N n : Nat) (σ : Sg) (p0 : Int32) (p1 : Int32) : Option (Int32 × Sg) := bd (f_X12_slotOf N n σ p1) (fun r1 σ2 => if 0 ≤ r1 then (bd (f_X12_slotOf N n σ2 p1) (fun r5 σ6 => bd (f_X12_emit N n σ6 9 p0 r5 0 0) (fun r8 σ9 => some (0, σ9)))) else (bd (f_X12_registerOf N n σ2 p1) (fun r11 σ12 => bd (f_X12_emit N n σ12 1 p0 r11 0 0) (fun r14 σ15 => some (0, σ15)))))
set_option maxHeartbeats 4000000 in
set_option maxRecDepth 100000 in
theorem c_X12_into {l : Launch} {g : GG} {q : Nat} (N n : Nat) {σ : Sg} {p0 : Int32} {p1 : Int32} {r : Int32} {σ' : Sg} (hm : f_X12_into N n σ p0 p1 = some (r, σ')) : CTv l yX12_into cX12_into 3 none 1 25 g q n [.ref (ga g 59), .int p0, .int p1] σ σ' := by
  refine e_v (r := r) (by decide) (Nat.le_of_ble_eq_true rfl) ?_
  intro p e s m args below meth c A Q ls hC hl hI
  obtain ⟨hX, hK, hN, hZ, hA, hR⟩ := id hC
  have hx : p.tables.exec = Jvm.exec := hX.1
  have hb : c.code = cX12_into := hX.2.1
  have hml : c.maxLocals = 3 := hX.2.2.1
  have hown : s.vm.findClass RX12 = some m.cls := hX.2.2.2.1
  have ht : ∀ w ∈ BIG, w.before args s = true := hX.2.2.2.2
  have hl : lv_has ls 3 [(0, .ref (ga g 59)), (1, .int p0), (2, .int p1)] := hl
  unfold f_X12_into at hm
  refine lv_aload_n hx hb dX12_into_0 rfl (lv_at hl 0 rfl) ?_
  refine lv_iload_n hx hb dX12_into_1 rfl (lv_at hl 2 rfl) ?_
  obtain ⟨r1, σ2, h3, hm⟩ := bd_some hm
  refine k_i hI hA (va_runV (As := [.int p1]) (rest := []) hX (c_X12_slotOf N n h3 _) (cwV 1 ht (in_V mw_950 mw_951 mw_952 mw_861 mw_948) rfl rfl rfl pd_X12_slotOf ⟨Nat.le_of_ble_eq_true rfl, Nat.le_of_ble_eq_true rfl⟩) ⟨q_blind, va_recv hK hI.1 (ci := 11) (q0 := 59) rfl rfl, q_to hI hK hN hZ hA⟩ rfl rfl hl.1 rfl (lv_room (Nat.le_of_ble_eq_true rfl)) dX12_into_2 (by decide)) (fun H locs hI => ?_)
  refine lv_if_ge (tgt := 24) hx hb dX12_into_5 (by decide) (fun c4 => ?_) (fun c4 => ?_)
  · have hm := (if_pos c4).symm.trans hm
    refine lv_aload_n hx hb dX12_into_24 rfl (lv_at hl 0 rfl) ?_
    refine lv_bipush (v := 9) hx hb dX12_into_25 (by decide) ?_
    refine lv_iload_n hx hb dX12_into_27 rfl (lv_at hl 1 rfl) ?_
    refine lv_aload_n hx hb dX12_into_28 rfl (lv_at hl 0 rfl) ?_
    refine lv_iload_n hx hb dX12_into_29 rfl (lv_at hl 2 rfl) ?_
    obtain ⟨r5, σ6, h7, hm⟩ := bd_some hm
    refine k_i hI hA (va_runV (As := [.int p1]) (rest := [.int p0, .int 9, .ref (ga g 59)]) hX (c_X12_slotOf N n h7 _) (cwV 1 ht (in_V mw_950 mw_951 mw_952 mw_861 mw_948) rfl rfl rfl pd_X12_slotOf ⟨Nat.le_of_ble_eq_true rfl, Nat.le_of_ble_eq_true rfl⟩) ⟨q_blind, va_recv hK hI.1 (ci := 11) (q0 := 59) rfl rfl, q_to hI hK hN hZ hA⟩ rfl rfl hl.1 rfl (lv_room (Nat.le_of_ble_eq_true rfl)) dX12_into_30 (by decide)) (fun H locs hI => ?_)
    refine lv_iconst (v := 0) hx hb dX12_into_33 (by decide) ?_
    refine lv_iconst (v := 0) hx hb dX12_into_34 (by decide) ?_
    obtain ⟨r8, σ9, h10, hm⟩ := bd_some hm
    refine k_v hI hA (va_runV (As := [.int 9, .int p0, .int r5, .int 0, .int 0]) (rest := []) hX (c_X12_emit N n h10 _) (cwV 5 ht (in_V mw_956 mw_957 mw_958 mw_861 mw_943) rfl rfl rfl pd_X12_emit ⟨Nat.le_of_ble_eq_true rfl, Nat.le_of_ble_eq_true rfl⟩) ⟨q_blind, va_recv hK hI.1 (ci := 11) (q0 := 59) rfl rfl, q_to hI hK hN hZ hA⟩ rfl rfl hl.1 rfl (lv_room (Nat.le_of_ble_eq_true rfl)) dX12_into_35 (by decide)) (fun H locs hI => ?_)
    exact hR _ _ _ _ _ hm hI dX12_into_38
  · have hm := (if_neg c4).symm.trans hm
    refine lv_aload_n hx hb dX12_into_8 rfl (lv_at hl 0 rfl) ?_
    refine lv_iconst (v := 1) hx hb dX12_into_9 (by decide) ?_
    refine lv_iload_n hx hb dX12_into_10 rfl (lv_at hl 1 rfl) ?_
    refine lv_aload_n hx hb dX12_into_11 rfl (lv_at hl 0 rfl) ?_
    refine lv_iload_n hx hb dX12_into_12 rfl (lv_at hl 2 rfl) ?_
    obtain ⟨r11, σ12, h13, hm⟩ := bd_some hm
    refine k_i hI hA (va_runV (As := [.int p1]) (rest := [.int p0, .int 1, .ref (ga g 59)]) hX (c_X12_registerOf N n h13 _) (cwV 1 ht (in_V mw_953 mw_954 mw_955 mw_861 mw_946) rfl rfl rfl pd_X12_registerOf ⟨Nat.le_of_ble_eq_true rfl, Nat.le_of_ble_eq_true rfl⟩) ⟨q_blind, va_recv hK hI.1 (ci := 11) (q0 := 59) rfl rfl, q_to hI hK hN hZ hA⟩ rfl rfl hl.1 rfl (lv_room (Nat.le_of_ble_eq_true rfl)) dX12_into_13 (by decide)) (fun H locs hI => ?_)
    refine lv_iconst (v := 0) hx hb dX12_into_16 (by decide) ?_
    refine lv_iconst (v := 0) hx hb dX12_into_17 (by decide) ?_
    obtain ⟨r14, σ15, h16, hm⟩ := bd_some hm
    refine k_v hI hA (va_runV (As := [.int 1, .int p0, .int r11, .int 0, .int 0]) (rest := []) hX (c_X12_emit N n h16 _) (cwV 5 ht (in_V mw_956 mw_957 mw_958 mw_861 mw_943) rfl rfl rfl pd_X12_emit ⟨Nat.le_of_ble_eq_true rfl, Nat.le_of_ble_eq_true rfl⟩) ⟨q_blind, va_recv hK hI.1 (ci := 11) (q0 := 59) rfl rfl, q_to hI hK hN hZ hA⟩ rfl rfl hl.1 rfl (lv_room (Nat.le_of_ble_eq_true rfl)) dX12_into_18 (by decide)) (fun H locs hI => ?_)
    refine lv_goto (tgt := 38) hx hb dX12_into_21 (by decide) ?_
    exact hR _ _ _ _ _ hm hI dX12_into_38
def f_X12_outOf (N n : Nat) (σ : Sg) (p0 : Int32) (p1 : Int32) : Option (Int32 × Sg) := bd (f_X12_slotOf N n σ p0) (fun r1 σ2 => if 0 ≤ r1 then (bd (f_X12_slotOf N n σ2 p0) (fun r5 σ6 => bd (f_X12_emit N n σ6 10 r5 p1 0 0) (fun r8 σ9 => some (0, σ9)))) else (bd (f_X12_registerOf N n σ2 p0) (fun r11 σ12 => bd (f_X12_emit N n σ12 1 r11 p1 0 0) (fun r14 σ15 => some (0, σ15)))))
set_option maxHeartbeats 4000000 in
set_option maxRecDepth 100000 in
theorem c_X12_outOf {l : Launch} {g : GG} {q : Nat} (N n : Nat) {σ : Sg} {p0 : Int32} {p1 : Int32} {r : Int32} {σ' : Sg} (hm : f_X12_outOf N n σ p0 p1 = some (r, σ')) : CTv l yX12_outOf cX12_outOf 3 none 1 25 g q n [.ref (ga g 59), .int p0, .int p1] σ σ' := by
  refine e_v (r := r) (by decide) (Nat.le_of_ble_eq_true rfl) ?_
  intro p e s m args below meth c A Q ls hC hl hI
  obtain ⟨hX, hK, hN, hZ, hA, hR⟩ := id hC
  have hx : p.tables.exec = Jvm.exec := hX.1
  have hb : c.code = cX12_outOf := hX.2.1
  have hml : c.maxLocals = 3 := hX.2.2.1
  have hown : s.vm.findClass RX12 = some m.cls := hX.2.2.2.1
  have ht : ∀ w ∈ BIG, w.before args s = true := hX.2.2.2.2
  have hl : lv_has ls 3 [(0, .ref (ga g 59)), (1, .int p0), (2, .int p1)] := hl
  unfold f_X12_outOf at hm
  refine lv_aload_n hx hb dX12_outOf_0 rfl (lv_at hl 0 rfl) ?_
  refine lv_iload_n hx hb dX12_outOf_1 rfl (lv_at hl 1 rfl) ?_
  obtain ⟨r1, σ2, h3, hm⟩ := bd_some hm
  refine k_i hI hA (va_runV (As := [.int p0]) (rest := []) hX (c_X12_slotOf N n h3 _) (cwV 1 ht (in_V mw_950 mw_951 mw_952 mw_861 mw_948) rfl rfl rfl pd_X12_slotOf ⟨Nat.le_of_ble_eq_true rfl, Nat.le_of_ble_eq_true rfl⟩) ⟨q_blind, va_recv hK hI.1 (ci := 11) (q0 := 59) rfl rfl, q_to hI hK hN hZ hA⟩ rfl rfl hl.1 rfl (lv_room (Nat.le_of_ble_eq_true rfl)) dX12_outOf_2 (by decide)) (fun H locs hI => ?_)
  refine lv_if_ge (tgt := 24) hx hb dX12_outOf_5 (by decide) (fun c4 => ?_) (fun c4 => ?_)
  · have hm := (if_pos c4).symm.trans hm
    refine lv_aload_n hx hb dX12_outOf_24 rfl (lv_at hl 0 rfl) ?_
    refine lv_bipush (v := 10) hx hb dX12_outOf_25 (by decide) ?_
    refine lv_aload_n hx hb dX12_outOf_27 rfl (lv_at hl 0 rfl) ?_
    refine lv_iload_n hx hb dX12_outOf_28 rfl (lv_at hl 1 rfl) ?_
    obtain ⟨r5, σ6, h7, hm⟩ := bd_some hm
    refine k_i hI hA (va_runV (As := [.int p0]) (rest := [.int 10, .ref (ga g 59)]) hX (c_X12_slotOf N n h7 _) (cwV 1 ht (in_V mw_950 mw_951 mw_952 mw_861 mw_948) rfl rfl rfl pd_X12_slotOf ⟨Nat.le_of_ble_eq_true rfl, Nat.le_of_ble_eq_true rfl⟩) ⟨q_blind, va_recv hK hI.1 (ci := 11) (q0 := 59) rfl rfl, q_to hI hK hN hZ hA⟩ rfl rfl hl.1 rfl (lv_room (Nat.le_of_ble_eq_true rfl)) dX12_outOf_29 (by decide)) (fun H locs hI => ?_)
    refine lv_iload_n hx hb dX12_outOf_32 rfl (lv_at hl 2 rfl) ?_
    refine lv_iconst (v := 0) hx hb dX12_outOf_33 (by decide) ?_
    refine lv_iconst (v := 0) hx hb dX12_outOf_34 (by decide) ?_
    obtain ⟨r8, σ9, h10, hm⟩ := bd_some hm
    refine k_v hI hA (va_runV (As := [.int 10, .int r5, .int p1, .int 0, .int 0]) (rest := []) hX (c_X12_emit N n h10 _) (cwV 5 ht (in_V mw_956 mw_957 mw_958 mw_861 mw_943) rfl rfl rfl pd_X12_emit ⟨Nat.le_of_ble_eq_true rfl, Nat.le_of_ble_eq_true rfl⟩) ⟨q_blind, va_recv hK hI.1 (ci := 11) (q0 := 59) rfl rfl, q_to hI hK hN hZ hA⟩ rfl rfl hl.1 rfl (lv_room (Nat.le_of_ble_eq_true rfl)) dX12_outOf_35 (by decide)) (fun H locs hI => ?_)
    exact hR _ _ _ _ _ hm hI dX12_outOf_38
  · have hm := (if_neg c4).symm.trans hm
    refine lv_aload_n hx hb dX12_outOf_8 rfl (lv_at hl 0 rfl) ?_
    refine lv_iconst (v := 1) hx hb dX12_outOf_9 (by decide) ?_
    refine lv_aload_n hx hb dX12_outOf_10 rfl (lv_at hl 0 rfl) ?_
    refine lv_iload_n hx hb dX12_outOf_11 rfl (lv_at hl 1 rfl) ?_
    obtain ⟨r11, σ12, h13, hm⟩ := bd_some hm
    refine k_i hI hA (va_runV (As := [.int p0]) (rest := [.int 1, .ref (ga g 59)]) hX (c_X12_registerOf N n h13 _) (cwV 1 ht (in_V mw_953 mw_954 mw_955 mw_861 mw_946) rfl rfl rfl pd_X12_registerOf ⟨Nat.le_of_ble_eq_true rfl, Nat.le_of_ble_eq_true rfl⟩) ⟨q_blind, va_recv hK hI.1 (ci := 11) (q0 := 59) rfl rfl, q_to hI hK hN hZ hA⟩ rfl rfl hl.1 rfl (lv_room (Nat.le_of_ble_eq_true rfl)) dX12_outOf_12 (by decide)) (fun H locs hI => ?_)
    refine lv_iload_n hx hb dX12_outOf_15 rfl (lv_at hl 2 rfl) ?_
    refine lv_iconst (v := 0) hx hb dX12_outOf_16 (by decide) ?_
    refine lv_iconst (v := 0) hx hb dX12_outOf_17 (by decide) ?_
    obtain ⟨r14, σ15, h16, hm⟩ := bd_some hm
    refine k_v hI hA (va_runV (As := [.int 1, .int r11, .int p1, .int 0, .int 0]) (rest := []) hX (c_X12_emit N n h16 _) (cwV 5 ht (in_V mw_956 mw_957 mw_958 mw_861 mw_943) rfl rfl rfl pd_X12_emit ⟨Nat.le_of_ble_eq_true rfl, Nat.le_of_ble_eq_true rfl⟩) ⟨q_blind, va_recv hK hI.1 (ci := 11) (q0 := 59) rfl rfl, q_to hI hK hN hZ hA⟩ rfl rfl hl.1 rfl (lv_room (Nat.le_of_ble_eq_true rfl)) dX12_outOf_18 (by decide)) (fun H locs hI => ?_)
    refine lv_goto (tgt := 38) hx hb dX12_outOf_21 (by decide) ?_
    exact hR _ _ _ _ _ hm hI dX12_outOf_38
def f_X12_swaps (N n : Nat) (σ : Sg) (p0 : Int32) (p1 : Int32) (p2 : Int32) (p3 : Int32) : Option (Int32 × Sg) := bd (f_X12_slotOf N n σ p0) (fun r1 σ2 => if 0 ≤ r1 then (bd (f_X12_into N n σ2 p2 p0) (fun r5 σ6 => bd (f_X12_into N n σ6 p3 p1) (fun r8 σ9 => bd (f_X12_outOf N n σ9 p0 p3) (fun r11 σ12 => bd (f_X12_outOf N n σ12 p1 p2) (fun r14 σ15 => some (0, σ15)))))) else (bd (f_X12_slotOf N n σ2 p1) (fun r17 σ18 => if 0 ≤ r17 then (bd (f_X12_into N n σ18 p2 p0) (fun r21 σ22 => bd (f_X12_into N n σ22 p3 p1) (fun r24 σ25 => bd (f_X12_outOf N n σ25 p0 p3) (fun r27 σ28 => bd (f_X12_outOf N n σ28 p1 p2) (fun r30 σ31 => some (0, σ31)))))) else (bd (f_X12_registerOf N n σ18 p0) (fun r33 σ34 => bd (f_X12_registerOf N n σ34 p1) (fun r36 σ37 => bd (f_X12_emit N n σ37 3 r33 r36 0 0) (fun r39 σ40 => some (0, σ40))))))))
set_option maxHeartbeats 4000000 in
set_option maxRecDepth 100000 in
theorem c_X12_swaps {l : Launch} {g : GG} {q : Nat} (N n : Nat) {σ : Sg} {p0 : Int32} {p1 : Int32} {p2 : Int32} {p3 : Int32} {r : Int32} {σ' : Sg} (hm : f_X12_swaps N n σ p0 p1 p2 p3 = some (r, σ')) : CTv l yX12_swaps cX12_swaps 5 none 2 47 g q n [.ref (ga g 59), .int p0, .int p1, .int p2, .int p3] σ σ' := by
  refine e_v (r := r) (by decide) (Nat.le_of_ble_eq_true rfl) ?_
  intro p e s m args below meth c A Q ls hC hl hI
  obtain ⟨hX, hK, hN, hZ, hA, hR⟩ := id hC
  have hx : p.tables.exec = Jvm.exec := hX.1
  have hb : c.code = cX12_swaps := hX.2.1
  have hml : c.maxLocals = 5 := hX.2.2.1
  have hown : s.vm.findClass RX12 = some m.cls := hX.2.2.2.1
  have ht : ∀ w ∈ BIG, w.before args s = true := hX.2.2.2.2
  have hl : lv_has ls 5 [(0, .ref (ga g 59)), (1, .int p0), (2, .int p1), (3, .int p2), (4, .int p3)] := hl
  unfold f_X12_swaps at hm
  refine lv_aload_n hx hb dX12_swaps_0 rfl (lv_at hl 0 rfl) ?_
  refine lv_iload_n hx hb dX12_swaps_1 rfl (lv_at hl 1 rfl) ?_
  obtain ⟨r1, σ2, h3, hm⟩ := bd_some hm
  refine k_i hI hA (va_runV (As := [.int p0]) (rest := []) hX (c_X12_slotOf N n h3 _) (cwV 1 ht (in_V mw_950 mw_951 mw_952 mw_861 mw_948) rfl rfl rfl pd_X12_slotOf ⟨Nat.le_of_ble_eq_true rfl, Nat.le_of_ble_eq_true rfl⟩) ⟨q_blind, va_recv hK hI.1 (ci := 11) (q0 := 59) rfl rfl, q_to hI hK hN hZ hA⟩ rfl rfl hl.1 rfl (lv_room (Nat.le_of_ble_eq_true rfl)) dX12_swaps_2 (by decide)) (fun H locs hI => ?_)
  refine lv_if_ge (tgt := 34) hx hb dX12_swaps_5 (by decide) (fun c4 => ?_) (fun c4 => ?_)
  · have hm := (if_pos c4).symm.trans hm
    refine lv_aload_n hx hb dX12_swaps_34 rfl (lv_at hl 0 rfl) ?_
    refine lv_iload_n hx hb dX12_swaps_35 rfl (lv_at hl 3 rfl) ?_
    refine lv_iload_n hx hb dX12_swaps_36 rfl (lv_at hl 1 rfl) ?_
    obtain ⟨r5, σ6, h7, hm⟩ := bd_some hm
    refine k_v hI hA (va_runV (As := [.int p2, .int p0]) (rest := []) hX (c_X12_into N n h7 _) (cwV 2 ht (in_V mw_964 mw_965 mw_966 mw_861 mw_962) rfl rfl rfl pd_X12_into ⟨Nat.le_of_ble_eq_true rfl, Nat.le_of_ble_eq_true rfl⟩) ⟨q_blind, va_recv hK hI.1 (ci := 11) (q0 := 59) rfl rfl, q_to hI hK hN hZ hA⟩ rfl rfl hl.1 rfl (lv_room (Nat.le_of_ble_eq_true rfl)) dX12_swaps_37 (by decide)) (fun H locs hI => ?_)
    refine lv_aload_n hx hb dX12_swaps_40 rfl (lv_at hl 0 rfl) ?_
    refine lv_iload hx hb dX12_swaps_41 (lv_at hl 4 rfl) ?_
    refine lv_iload_n hx hb dX12_swaps_43 rfl (lv_at hl 2 rfl) ?_
    obtain ⟨r8, σ9, h10, hm⟩ := bd_some hm
    refine k_v hI hA (va_runV (As := [.int p3, .int p1]) (rest := []) hX (c_X12_into N n h10 _) (cwV 2 ht (in_V mw_964 mw_965 mw_966 mw_861 mw_962) rfl rfl rfl pd_X12_into ⟨Nat.le_of_ble_eq_true rfl, Nat.le_of_ble_eq_true rfl⟩) ⟨q_blind, va_recv hK hI.1 (ci := 11) (q0 := 59) rfl rfl, q_to hI hK hN hZ hA⟩ rfl rfl hl.1 rfl (lv_room (Nat.le_of_ble_eq_true rfl)) dX12_swaps_44 (by decide)) (fun H locs hI => ?_)
    refine lv_aload_n hx hb dX12_swaps_47 rfl (lv_at hl 0 rfl) ?_
    refine lv_iload_n hx hb dX12_swaps_48 rfl (lv_at hl 1 rfl) ?_
    refine lv_iload hx hb dX12_swaps_49 (lv_at hl 4 rfl) ?_
    obtain ⟨r11, σ12, h13, hm⟩ := bd_some hm
    refine k_v hI hA (va_runV (As := [.int p0, .int p3]) (rest := []) hX (c_X12_outOf N n h13 _) (cwV 2 ht (in_V mw_967 mw_968 mw_969 mw_861 mw_963) rfl rfl rfl pd_X12_outOf ⟨Nat.le_of_ble_eq_true rfl, Nat.le_of_ble_eq_true rfl⟩) ⟨q_blind, va_recv hK hI.1 (ci := 11) (q0 := 59) rfl rfl, q_to hI hK hN hZ hA⟩ rfl rfl hl.1 rfl (lv_room (Nat.le_of_ble_eq_true rfl)) dX12_swaps_51 (by decide)) (fun H locs hI => ?_)
    refine lv_aload_n hx hb dX12_swaps_54 rfl (lv_at hl 0 rfl) ?_
    refine lv_iload_n hx hb dX12_swaps_55 rfl (lv_at hl 2 rfl) ?_
    refine lv_iload_n hx hb dX12_swaps_56 rfl (lv_at hl 3 rfl) ?_
    obtain ⟨r14, σ15, h16, hm⟩ := bd_some hm
    refine k_v hI hA (va_runV (As := [.int p1, .int p2]) (rest := []) hX (c_X12_outOf N n h16 _) (cwV 2 ht (in_V mw_967 mw_968 mw_969 mw_861 mw_963) rfl rfl rfl pd_X12_outOf ⟨Nat.le_of_ble_eq_true rfl, Nat.le_of_ble_eq_true rfl⟩) ⟨q_blind, va_recv hK hI.1 (ci := 11) (q0 := 59) rfl rfl, q_to hI hK hN hZ hA⟩ rfl rfl hl.1 rfl (lv_room (Nat.le_of_ble_eq_true rfl)) dX12_swaps_57 (by decide)) (fun H locs hI => ?_)
    exact hR _ _ _ _ _ hm hI dX12_swaps_60
  · have hm := (if_neg c4).symm.trans hm
    refine lv_aload_n hx hb dX12_swaps_8 rfl (lv_at hl 0 rfl) ?_
    refine lv_iload_n hx hb dX12_swaps_9 rfl (lv_at hl 2 rfl) ?_
    obtain ⟨r17, σ18, h19, hm⟩ := bd_some hm
    refine k_i hI hA (va_runV (As := [.int p1]) (rest := []) hX (c_X12_slotOf N n h19 _) (cwV 1 ht (in_V mw_950 mw_951 mw_952 mw_861 mw_948) rfl rfl rfl pd_X12_slotOf ⟨Nat.le_of_ble_eq_true rfl, Nat.le_of_ble_eq_true rfl⟩) ⟨q_blind, va_recv hK hI.1 (ci := 11) (q0 := 59) rfl rfl, q_to hI hK hN hZ hA⟩ rfl rfl hl.1 rfl (lv_room (Nat.le_of_ble_eq_true rfl)) dX12_swaps_10 (by decide)) (fun H locs hI => ?_)
    refine lv_if_ge (tgt := 34) hx hb dX12_swaps_13 (by decide) (fun c20 => ?_) (fun c20 => ?_)
    · have hm := (if_pos c20).symm.trans hm
      refine lv_aload_n hx hb dX12_swaps_34 rfl (lv_at hl 0 rfl) ?_
      refine lv_iload_n hx hb dX12_swaps_35 rfl (lv_at hl 3 rfl) ?_
      refine lv_iload_n hx hb dX12_swaps_36 rfl (lv_at hl 1 rfl) ?_
      obtain ⟨r21, σ22, h23, hm⟩ := bd_some hm
      refine k_v hI hA (va_runV (As := [.int p2, .int p0]) (rest := []) hX (c_X12_into N n h23 _) (cwV 2 ht (in_V mw_964 mw_965 mw_966 mw_861 mw_962) rfl rfl rfl pd_X12_into ⟨Nat.le_of_ble_eq_true rfl, Nat.le_of_ble_eq_true rfl⟩) ⟨q_blind, va_recv hK hI.1 (ci := 11) (q0 := 59) rfl rfl, q_to hI hK hN hZ hA⟩ rfl rfl hl.1 rfl (lv_room (Nat.le_of_ble_eq_true rfl)) dX12_swaps_37 (by decide)) (fun H locs hI => ?_)
      refine lv_aload_n hx hb dX12_swaps_40 rfl (lv_at hl 0 rfl) ?_
      refine lv_iload hx hb dX12_swaps_41 (lv_at hl 4 rfl) ?_
      refine lv_iload_n hx hb dX12_swaps_43 rfl (lv_at hl 2 rfl) ?_
      obtain ⟨r24, σ25, h26, hm⟩ := bd_some hm
      refine k_v hI hA (va_runV (As := [.int p3, .int p1]) (rest := []) hX (c_X12_into N n h26 _) (cwV 2 ht (in_V mw_964 mw_965 mw_966 mw_861 mw_962) rfl rfl rfl pd_X12_into ⟨Nat.le_of_ble_eq_true rfl, Nat.le_of_ble_eq_true rfl⟩) ⟨q_blind, va_recv hK hI.1 (ci := 11) (q0 := 59) rfl rfl, q_to hI hK hN hZ hA⟩ rfl rfl hl.1 rfl (lv_room (Nat.le_of_ble_eq_true rfl)) dX12_swaps_44 (by decide)) (fun H locs hI => ?_)
      refine lv_aload_n hx hb dX12_swaps_47 rfl (lv_at hl 0 rfl) ?_
      refine lv_iload_n hx hb dX12_swaps_48 rfl (lv_at hl 1 rfl) ?_
      refine lv_iload hx hb dX12_swaps_49 (lv_at hl 4 rfl) ?_
      obtain ⟨r27, σ28, h29, hm⟩ := bd_some hm
      refine k_v hI hA (va_runV (As := [.int p0, .int p3]) (rest := []) hX (c_X12_outOf N n h29 _) (cwV 2 ht (in_V mw_967 mw_968 mw_969 mw_861 mw_963) rfl rfl rfl pd_X12_outOf ⟨Nat.le_of_ble_eq_true rfl, Nat.le_of_ble_eq_true rfl⟩) ⟨q_blind, va_recv hK hI.1 (ci := 11) (q0 := 59) rfl rfl, q_to hI hK hN hZ hA⟩ rfl rfl hl.1 rfl (lv_room (Nat.le_of_ble_eq_true rfl)) dX12_swaps_51 (by decide)) (fun H locs hI => ?_)
      refine lv_aload_n hx hb dX12_swaps_54 rfl (lv_at hl 0 rfl) ?_
      refine lv_iload_n hx hb dX12_swaps_55 rfl (lv_at hl 2 rfl) ?_
      refine lv_iload_n hx hb dX12_swaps_56 rfl (lv_at hl 3 rfl) ?_
      obtain ⟨r30, σ31, h32, hm⟩ := bd_some hm
      refine k_v hI hA (va_runV (As := [.int p1, .int p2]) (rest := []) hX (c_X12_outOf N n h32 _) (cwV 2 ht (in_V mw_967 mw_968 mw_969 mw_861 mw_963) rfl rfl rfl pd_X12_outOf ⟨Nat.le_of_ble_eq_true rfl, Nat.le_of_ble_eq_true rfl⟩) ⟨q_blind, va_recv hK hI.1 (ci := 11) (q0 := 59) rfl rfl, q_to hI hK hN hZ hA⟩ rfl rfl hl.1 rfl (lv_room (Nat.le_of_ble_eq_true rfl)) dX12_swaps_57 (by decide)) (fun H locs hI => ?_)
      exact hR _ _ _ _ _ hm hI dX12_swaps_60
    · have hm := (if_neg c20).symm.trans hm
      refine lv_aload_n hx hb dX12_swaps_16 rfl (lv_at hl 0 rfl) ?_
      refine lv_iconst (v := 3) hx hb dX12_swaps_17 (by decide) ?_
      refine lv_aload_n hx hb dX12_swaps_18 rfl (lv_at hl 0 rfl) ?_
      refine lv_iload_n hx hb dX12_swaps_19 rfl (lv_at hl 1 rfl) ?_
      obtain ⟨r33, σ34, h35, hm⟩ := bd_some hm
      refine k_i hI hA (va_runV (As := [.int p0]) (rest := [.int 3, .ref (ga g 59)]) hX (c_X12_registerOf N n h35 _) (cwV 1 ht (in_V mw_953 mw_954 mw_955 mw_861 mw_946) rfl rfl rfl pd_X12_registerOf ⟨Nat.le_of_ble_eq_true rfl, Nat.le_of_ble_eq_true rfl⟩) ⟨q_blind, va_recv hK hI.1 (ci := 11) (q0 := 59) rfl rfl, q_to hI hK hN hZ hA⟩ rfl rfl hl.1 rfl (lv_room (Nat.le_of_ble_eq_true rfl)) dX12_swaps_20 (by decide)) (fun H locs hI => ?_)
      refine lv_aload_n hx hb dX12_swaps_23 rfl (lv_at hl 0 rfl) ?_
      refine lv_iload_n hx hb dX12_swaps_24 rfl (lv_at hl 2 rfl) ?_
      obtain ⟨r36, σ37, h38, hm⟩ := bd_some hm
      refine k_i hI hA (va_runV (As := [.int p1]) (rest := [.int r33, .int 3, .ref (ga g 59)]) hX (c_X12_registerOf N n h38 _) (cwV 1 ht (in_V mw_953 mw_954 mw_955 mw_861 mw_946) rfl rfl rfl pd_X12_registerOf ⟨Nat.le_of_ble_eq_true rfl, Nat.le_of_ble_eq_true rfl⟩) ⟨q_blind, va_recv hK hI.1 (ci := 11) (q0 := 59) rfl rfl, q_to hI hK hN hZ hA⟩ rfl rfl hl.1 rfl (lv_room (Nat.le_of_ble_eq_true rfl)) dX12_swaps_25 (by decide)) (fun H locs hI => ?_)
      refine lv_iconst (v := 0) hx hb dX12_swaps_28 (by decide) ?_
      refine lv_iconst (v := 0) hx hb dX12_swaps_29 (by decide) ?_
      obtain ⟨r39, σ40, h41, hm⟩ := bd_some hm
      refine k_v hI hA (va_runV (As := [.int 3, .int r33, .int r36, .int 0, .int 0]) (rest := []) hX (c_X12_emit N n h41 _) (cwV 5 ht (in_V mw_956 mw_957 mw_958 mw_861 mw_943) rfl rfl rfl pd_X12_emit ⟨Nat.le_of_ble_eq_true rfl, Nat.le_of_ble_eq_true rfl⟩) ⟨q_blind, va_recv hK hI.1 (ci := 11) (q0 := 59) rfl rfl, q_to hI hK hN hZ hA⟩ rfl rfl hl.1 rfl (lv_room (Nat.le_of_ble_eq_true rfl)) dX12_swaps_30 (by decide)) (fun H locs hI => ?_)
      exact hR _ _ _ _ _ hm hI dX12_swaps_33
def lb_X12_codePlace_327 (N n : Nat) (u1 : Int32) (u2 : Int32) (u4 : Int32) (K377 : (Sg → Int32 → Option (Int32 × Sg))) (rec : (Sg → Int32 → Option (Int32 × Sg))) (σ : Sg) (v9 : Int32) : Option (Int32 × Sg) := gb u1 300 (if (σ 71 (ix u1)) ≤ v9 then (K377 σ v9) else (gb ((8 * u1) + v9) 2400 (bd (f_X12_read N n σ (σ 70 (ix ((8 * u1) + v9))) u2) (fun r87 σ88 => bd (f_X12_emit N n σ88 12 (v9 - 1) r87 0 0) (fun r90 σ91 => rec σ91 (v9 + 1))))))
def lf_X12_codePlace_327 (N n : Nat) (u1 : Int32) (u2 : Int32) (u4 : Int32) (K377 : (Sg → Int32 → Option (Int32 × Sg))) : Nat → (Sg → Int32 → Option (Int32 × Sg))
  | 0 => fun _ _ => none
  | k + 1 => lb_X12_codePlace_327 N n u1 u2 u4 K377 (lf_X12_codePlace_327 N n u1 u2 u4 K377 k)
def f_X12_codePlace (N n : Nat) (σ : Sg) (p0 : Int32) : Option (Int32 × Sg) := gb (8 * p0) 2400 (gb ((8 * p0) + 1) 2400 (gb ((8 * p0) + 2) 2400 (gb p0 300 (if (σ 68 (ix p0)) = 0 then (bd (f_X12_written N n σ (σ 70 (ix (8 * p0)))) (fun r6 σ7 => gb p0 300 (bd (f_X12_emit N n σ7 0 r6 (σ7 69 (ix p0)) 0 0) (fun r10 σ11 => bd (f_X12_saved N n σ11 (σ 70 (ix (8 * p0)))) (fun r13 σ14 => some (0, σ14)))))) else (if (σ 68 (ix p0)) = 1 then (bd (f_X12_moves N n σ (σ 70 (ix (8 * p0))) (σ 70 (ix ((8 * p0) + 1)))) (fun r17 σ18 => some (0, σ18))) else (if (σ 68 (ix p0)) = 2 then (bd (f_X12_read N n σ (σ 70 (ix ((8 * p0) + 1))) ((σ 59 22) - 2)) (fun r21 σ22 => bd (f_X12_read N n σ22 (σ 70 (ix ((8 * p0) + 2))) ((σ 59 22) - 1)) (fun r24 σ25 => bd (f_X12_written N n σ25 (σ 70 (ix (8 * p0)))) (fun r27 σ28 => gb p0 300 (bd (f_X12_emit N n σ28 2 r27 r21 r24 (σ28 69 (ix p0))) (fun r31 σ32 => bd (f_X12_saved N n σ32 (σ 70 (ix (8 * p0)))) (fun r34 σ35 => some (0, σ35)))))))) else (if (σ 68 (ix p0)) = 3 then (bd (f_X12_swaps N n σ (σ 70 (ix (8 * p0))) (σ 70 (ix ((8 * p0) + 1))) ((σ 59 22) - 2) ((σ 59 22) - 1)) (fun r38 σ39 => some (0, σ39))) else (if (σ 68 (ix p0)) = 4 then (gb p0 300 (bd (f_X12_emit N n σ 4 (σ 69 (ix p0)) 0 0 0) (fun r43 σ44 => some (0, σ44)))) else (if (σ 68 (ix p0)) = 5 then (bd (f_X12_read N n σ (σ 70 (ix (8 * p0))) ((σ 59 22) - 2)) (fun r47 σ48 => gb p0 300 (bd (f_X12_emit N n σ48 5 r47 (σ48 69 (ix p0)) 0 0) (fun r51 σ52 => some (0, σ52))))) else (if (σ 68 (ix p0)) = 6 then (bd (f_X12_read N n σ (σ 70 (ix (8 * p0))) ((σ 59 22) - 2)) (fun r55 σ56 => bd (f_X12_emit N n σ56 6 r55 0 0 0) (fun r58 σ59 => some (0, σ59)))) else (if (σ 68 (ix p0)) = 7 then (bd (f_X12_read N n σ (σ 70 (ix ((8 * p0) + 1))) ((σ 59 22) - 2)) (fun r62 σ63 => bd (f_X12_written N n σ63 (σ 70 (ix (8 * p0)))) (fun r65 σ66 => bd (f_X12_emit N n σ66 7 r65 r62 0 0) (fun r68 σ69 => bd (f_X12_saved N n σ69 (σ 70 (ix (8 * p0)))) (fun r71 σ72 => some (0, σ72)))))) else (if (σ 68 (ix p0)) = 8 then (bd (f_X12_read N n σ (σ 70 (ix (8 * p0))) ((σ 59 22) - 2)) (fun r75 σ76 => bd (f_X12_read N n σ76 (σ 70 (ix ((8 * p0) + 1))) ((σ 59 22) - 1)) (fun r78 σ79 => bd (f_X12_emit N n σ79 8 r75 r78 0 0) (fun r81 σ82 => some (0, σ82))))) else (lf_X12_codePlace_327 N n p0 ((σ 59 22) - 2) (σ 70 (ix (8 * p0))) (fun σ93 w94 => gb p0 300 (bd (f_X12_emit N n σ93 13 (σ93 69 (ix p0)) 0 0 0) (fun r96 σ97 => bd (f_X12_written N n σ97 (σ 70 (ix (8 * p0)))) (fun r99 σ100 => bd (f_X12_emit N n σ100 14 r99 0 0 0) (fun r102 σ103 => bd (f_X12_saved N n σ103 (σ 70 (ix (8 * p0)))) (fun r105 σ106 => some (0, σ106))))))) N σ 1)))))))))))))
set_option maxHeartbeats 4000000 in
set_option maxRecDepth 100000 in
theorem lp_X12_codePlace_327 {p : Program} {l : Launch} {e : Env} {s : State} {m : MethodId} {args : Array Value} {below : List Frame} {meth : Method} {c : Code} {Q : State → Prop} {A : Nat → Prop} {g : GG} {q N n : Nat} {out : Int32 × Sg} {u1 : Int32} {u2 : Int32} {u4 : Int32} {K377 : (Sg → Int32 → Option (Int32 × Sg))}
    (hC : CXv p l e (qR 3 71) s m args below meth c cX12_codePlace 10 RX12 g q n A Q (some out)) :
    ∀ (k : Nat) (σ : Sg) (v9 : Int32) (H : Heap) (locs : List Loc) (ls : Array Slot), lf_X12_codePlace_327 N n u1 u2 u4 K377 k σ v9 = some out → wI g q n σ A s.heap H locs → lv_has ls 10 [(0, .ref (ga g 59)), (1, .int u1), (2, .int u2), (4, .int u4), (9, .int v9)] → (∀ (σ : Sg) (v9 : Int32) (H : Heap) (locs : List Loc) (ls : Array Slot), K377 σ v9 = some out → wI g q n σ A s.heap H locs → lv_has ls 10 [(0, .ref (ga g 59)), (1, .int u1), (4, .int u4)] → W p l e (qR 3 71) s m args below meth c H locs 0 0 Q (F0 m 377 ls [])) → W p l e (qR 3 71) s m args below meth c H locs 0 0 Q (F0 m 327 ls []) := by
  obtain ⟨hX, hK, hN, hZ, hA, hR⟩ := id hC
  have hx : p.tables.exec = Jvm.exec := hX.1
  have hb : c.code = cX12_codePlace := hX.2.1
  have hml : c.maxLocals = 10 := hX.2.2.1
  have hown : s.vm.findClass RX12 = some m.cls := hX.2.2.2.1
  have ht : ∀ w ∈ BIG, w.before args s = true := hX.2.2.2.2
  intro k
  induction k with
  | zero =>
    intro σ v9 H locs ls hm
    have hm : none = some out := hm
    exact nomatch hm
  | succ k ih =>
    intro σ v9 H locs ls hm hI hl hx377
    have hm : lb_X12_codePlace_327 N n u1 u2 u4 K377 (lf_X12_codePlace_327 N n u1 u2 u4 K377 k) σ v9 = some out := hm
    unfold lb_X12_codePlace_327 at hm
    refine lv_iload hx hb dX12_codePlace_327 (lv_at hl 4 rfl) ?_
    refine lv_aload_n hx hb dX12_codePlace_329 rfl (lv_at hl 0 rfl) ?_
    refine gf_59_16 hx hb ht hK hI mw_766 (fun _ h9 => h9) hown dX12_codePlace_330 ?_
    refine lv_iload_n hx hb dX12_codePlace_333 rfl (lv_at hl 1 rfl) ?_
    obtain ⟨g84, hm⟩ := gb_some hm
    refine ld_71 hx hb hK hI g84 (v := σ 71 (ix u1)) rfl dX12_codePlace_334 ?_
    refine lv_icmp_ge (tgt := 377) hx hb dX12_codePlace_335 (by decide) (fun c85 => ?_) (fun c85 => ?_)
    · have hm := (if_pos c85).symm.trans hm
      exact hx377 σ v9 _ _ _ hm hI (lv_sub hl [0, 1, 3] rfl)
    · have hm := (if_neg c85).symm.trans hm
      refine lv_aload_n hx hb dX12_codePlace_338 rfl (lv_at hl 0 rfl) ?_
      refine lv_aload_n hx hb dX12_codePlace_339 rfl (lv_at hl 0 rfl) ?_
      refine gf_59_15 hx hb ht hK hI mw_765 (fun _ h9 => h9) hown dX12_codePlace_340 ?_
      refine lv_bipush (v := 8) hx hb dX12_codePlace_343 (by decide) ?_
      refine lv_iload_n hx hb dX12_codePlace_345 rfl (lv_at hl 1 rfl) ?_
      refine lv_imul hx hb dX12_codePlace_346 ?_
      refine lv_iload hx hb dX12_codePlace_347 (lv_at hl 4 rfl) ?_
      refine lv_iadd hx hb dX12_codePlace_349 ?_
      obtain ⟨g86, hm⟩ := gb_some hm
      refine ld_70 hx hb hK hI g86 (v := σ 70 (ix ((8 * u1) + v9))) rfl dX12_codePlace_350 ?_
      refine lv_iload_n hx hb dX12_codePlace_351 rfl (lv_at hl 2 rfl) ?_
      obtain ⟨r87, σ88, h89, hm⟩ := bd_some hm
      refine k_i hI hA (va_runV (As := [.int (σ 70 (ix ((8 * u1) + v9))), .int u2]) (rest := []) hX (c_X12_read N n h89 _) (cwV 2 ht (in_V mw_980 mw_981 mw_982 mw_861 mw_949) rfl rfl rfl pd_X12_read ⟨Nat.le_of_ble_eq_true rfl, Nat.le_of_ble_eq_true rfl⟩) ⟨q_blind, va_recv hK hI.1 (ci := 11) (q0 := 59) rfl rfl, q_to hI hK hN hZ hA⟩ rfl rfl hl.1 rfl (lv_room (Nat.le_of_ble_eq_true rfl)) dX12_codePlace_352 (by decide)) (fun H locs hI => ?_)
      refine lv_istore (lv' := [(7, .int r87), (0, .ref (ga g 59)), (1, .int u1), (2, .int u2), (4, .int u4), (9, .int v9)]) hx hb dX12_codePlace_355 hl (by decide) rfl (fun ls hl => ?_)
      refine lv_aload_n hx hb dX12_codePlace_357 rfl (lv_at hl 1 rfl) ?_
      refine lv_bipush (v := 12) hx hb dX12_codePlace_358 (by decide) ?_
      refine lv_iload hx hb dX12_codePlace_360 (lv_at hl 5 rfl) ?_
      refine lv_iconst (v := 1) hx hb dX12_codePlace_362 (by decide) ?_
      refine lv_isub hx hb dX12_codePlace_363 ?_
      refine lv_iload hx hb dX12_codePlace_364 (lv_at hl 0 rfl) ?_
      refine lv_iconst (v := 0) hx hb dX12_codePlace_366 (by decide) ?_
      refine lv_iconst (v := 0) hx hb dX12_codePlace_367 (by decide) ?_
      obtain ⟨r90, σ91, h92, hm⟩ := bd_some hm
      refine k_v hI hA (va_runV (As := [.int 12, .int (v9 - 1), .int r87, .int 0, .int 0]) (rest := []) hX (c_X12_emit N n h92 _) (cwV 5 ht (in_V mw_956 mw_957 mw_958 mw_861 mw_943) rfl rfl rfl pd_X12_emit ⟨Nat.le_of_ble_eq_true rfl, Nat.le_of_ble_eq_true rfl⟩) ⟨q_blind, va_recv hK hI.1 (ci := 11) (q0 := 59) rfl rfl, q_to hI hK hN hZ hA⟩ rfl rfl hl.1 rfl (lv_room (Nat.le_of_ble_eq_true rfl)) dX12_codePlace_368 (by decide)) (fun H locs hI => ?_)
      refine lv_iinc (v := v9 + 1) (lv' := [(9, .int (v9 + 1)), (7, .int r87), (0, .ref (ga g 59)), (1, .int u1), (2, .int u2), (4, .int u4)]) hx hb dX12_codePlace_371 hl (k := 5) rfl (congrArg (fun z => v9 + z) (show Int32.ofInt 1 = 1 by decide)) (by decide) rfl (fun ls hl => ?_)
      refine lv_goto (tgt := 327) hx hb dX12_codePlace_374 (by decide) ?_
      exact ih σ91 (v9 + 1) _ _ _ hm hI (lv_sub hl [2, 3, 4, 5, 0] rfl) hx377
set_option maxHeartbeats 4000000 in
set_option maxRecDepth 100000 in
theorem c_X12_codePlace {l : Launch} {g : GG} {q : Nat} (N n : Nat) {σ : Sg} {p0 : Int32} {r : Int32} {σ' : Sg} (hm : f_X12_codePlace N n σ p0 = some (r, σ')) : CTv l yX12_codePlace cX12_codePlace 10 none 3 71 g q n [.ref (ga g 59), .int p0] σ σ' := by
  refine e_v (r := r) (by decide) (Nat.le_of_ble_eq_true rfl) ?_
  intro p e s m args below meth c A Q ls hC hl hI
  obtain ⟨hX, hK, hN, hZ, hA, hR⟩ := id hC
  have hx : p.tables.exec = Jvm.exec := hX.1
  have hb : c.code = cX12_codePlace := hX.2.1
  have hml : c.maxLocals = 10 := hX.2.2.1
  have hown : s.vm.findClass RX12 = some m.cls := hX.2.2.2.1
  have ht : ∀ w ∈ BIG, w.before args s = true := hX.2.2.2.2
  have hl : lv_has ls 10 [(0, .ref (ga g 59)), (1, .int p0)] := hl
  unfold f_X12_codePlace at hm
  refine lv_aload_n hx hb dX12_codePlace_0 rfl (lv_at hl 0 rfl) ?_
  refine gf_59_22 hx hb ht hK hI (v := σ 59 22) rfl mw_938 (fun _ h9 => h9) hown dX12_codePlace_1 ?_
  refine lv_iconst (v := 2) hx hb dX12_codePlace_4 (by decide) ?_
  refine lv_isub hx hb dX12_codePlace_5 ?_
  refine lv_istore_n (lv' := [(2, .int ((σ 59 22) - 2)), (0, .ref (ga g 59)), (1, .int p0)]) hx hb dX12_codePlace_6 rfl hl (by decide) rfl (fun ls hl => ?_)
  refine lv_aload_n hx hb dX12_codePlace_7 rfl (lv_at hl 1 rfl) ?_
  refine gf_59_22 hx hb ht hK hI (v := σ 59 22) rfl mw_938 (fun _ h9 => h9) hown dX12_codePlace_8 ?_
  refine lv_iconst (v := 1) hx hb dX12_codePlace_11 (by decide) ?_
  refine lv_isub hx hb dX12_codePlace_12 ?_
  refine lv_istore_n (lv' := [(3, .int ((σ 59 22) - 1)), (2, .int ((σ 59 22) - 2)), (0, .ref (ga g 59)), (1, .int p0)]) hx hb dX12_codePlace_13 rfl hl (by decide) rfl (fun ls hl => ?_)
  refine lv_aload_n hx hb dX12_codePlace_14 rfl (lv_at hl 2 rfl) ?_
  refine gf_59_15 hx hb ht hK hI mw_765 (fun _ h9 => h9) hown dX12_codePlace_15 ?_
  refine lv_bipush (v := 8) hx hb dX12_codePlace_18 (by decide) ?_
  refine lv_iload_n hx hb dX12_codePlace_20 rfl (lv_at hl 3 rfl) ?_
  refine lv_imul hx hb dX12_codePlace_21 ?_
  obtain ⟨g1, hm⟩ := gb_some hm
  refine ld_70 hx hb hK hI g1 (v := σ 70 (ix (8 * p0))) rfl dX12_codePlace_22 ?_
  refine lv_istore (lv' := [(4, .int (σ 70 (ix (8 * p0)))), (3, .int ((σ 59 22) - 1)), (2, .int ((σ 59 22) - 2)), (0, .ref (ga g 59)), (1, .int p0)]) hx hb dX12_codePlace_23 hl (by decide) rfl (fun ls hl => ?_)
  refine lv_aload_n hx hb dX12_codePlace_25 rfl (lv_at hl 3 rfl) ?_
  refine gf_59_15 hx hb ht hK hI mw_765 (fun _ h9 => h9) hown dX12_codePlace_26 ?_
  refine lv_bipush (v := 8) hx hb dX12_codePlace_29 (by decide) ?_
  refine lv_iload_n hx hb dX12_codePlace_31 rfl (lv_at hl 4 rfl) ?_
  refine lv_imul hx hb dX12_codePlace_32 ?_
  refine lv_iconst (v := 1) hx hb dX12_codePlace_33 (by decide) ?_
  refine lv_iadd hx hb dX12_codePlace_34 ?_
  obtain ⟨g2, hm⟩ := gb_some hm
  refine ld_70 hx hb hK hI g2 (v := σ 70 (ix ((8 * p0) + 1))) rfl dX12_codePlace_35 ?_
  refine lv_istore (lv' := [(5, .int (σ 70 (ix ((8 * p0) + 1)))), (4, .int (σ 70 (ix (8 * p0)))), (3, .int ((σ 59 22) - 1)), (2, .int ((σ 59 22) - 2)), (0, .ref (ga g 59)), (1, .int p0)]) hx hb dX12_codePlace_36 hl (by decide) rfl (fun ls hl => ?_)
  refine lv_aload_n hx hb dX12_codePlace_38 rfl (lv_at hl 4 rfl) ?_
  refine gf_59_15 hx hb ht hK hI mw_765 (fun _ h9 => h9) hown dX12_codePlace_39 ?_
  refine lv_bipush (v := 8) hx hb dX12_codePlace_42 (by decide) ?_
  refine lv_iload_n hx hb dX12_codePlace_44 rfl (lv_at hl 5 rfl) ?_
  refine lv_imul hx hb dX12_codePlace_45 ?_
  refine lv_iconst (v := 2) hx hb dX12_codePlace_46 (by decide) ?_
  refine lv_iadd hx hb dX12_codePlace_47 ?_
  obtain ⟨g3, hm⟩ := gb_some hm
  refine ld_70 hx hb hK hI g3 (v := σ 70 (ix ((8 * p0) + 2))) rfl dX12_codePlace_48 ?_
  refine lv_istore (lv' := [(6, .int (σ 70 (ix ((8 * p0) + 2)))), (5, .int (σ 70 (ix ((8 * p0) + 1)))), (4, .int (σ 70 (ix (8 * p0)))), (3, .int ((σ 59 22) - 1)), (2, .int ((σ 59 22) - 2)), (0, .ref (ga g 59)), (1, .int p0)]) hx hb dX12_codePlace_49 hl (by decide) rfl (fun ls hl => ?_)
  refine lv_aload_n hx hb dX12_codePlace_51 rfl (lv_at hl 5 rfl) ?_
  refine gf_59_13 hx hb ht hK hI mw_763 (fun _ h9 => h9) hown dX12_codePlace_52 ?_
  refine lv_iload_n hx hb dX12_codePlace_55 rfl (lv_at hl 6 rfl) ?_
  obtain ⟨g4, hm⟩ := gb_some hm
  refine ld_68 hx hb hK hI g4 (v := σ 68 (ix p0)) rfl dX12_codePlace_56 ?_
  by_cases c5 : (σ 68 (ix p0)) = 0
  · have hm := (if_pos c5).symm.trans hm
    refine lv_tableIn (off := 51) (tgt := 108) hx hb dX12_codePlace_57 (by (rw [c5]; decide)) (by (rw [c5]; decide)) (by (rw [c5]; rfl)) (by decide) ?_
    refine lv_aload_n hx hb dX12_codePlace_108 rfl (lv_at hl 5 rfl) ?_
    refine lv_iconst (v := 0) hx hb dX12_codePlace_109 (by decide) ?_
    refine lv_aload_n hx hb dX12_codePlace_110 rfl (lv_at hl 5 rfl) ?_
    refine lv_iload hx hb dX12_codePlace_111 (lv_at hl 2 rfl) ?_
    obtain ⟨r6, σ7, h8, hm⟩ := bd_some hm
    refine k_i hI hA (va_runV (As := [.int (σ 70 (ix (8 * p0)))]) (rest := [.int 0, .ref (ga g 59)]) hX (c_X12_written N n h8 _) (cwV 1 ht (in_V mw_971 mw_972 mw_973 mw_861 mw_959) rfl rfl rfl pd_X12_written ⟨Nat.le_of_ble_eq_true rfl, Nat.le_of_ble_eq_true rfl⟩) ⟨q_blind, va_recv hK hI.1 (ci := 11) (q0 := 59) rfl rfl, q_to hI hK hN hZ hA⟩ rfl rfl hl.1 rfl (lv_room (Nat.le_of_ble_eq_true rfl)) dX12_codePlace_113 (by decide)) (fun H locs hI => ?_)
    refine lv_aload_n hx hb dX12_codePlace_116 rfl (lv_at hl 5 rfl) ?_
    refine gf_59_14 hx hb ht hK hI mw_764 (fun _ h9 => h9) hown dX12_codePlace_117 ?_
    refine lv_iload_n hx hb dX12_codePlace_120 rfl (lv_at hl 6 rfl) ?_
    obtain ⟨g9, hm⟩ := gb_some hm
    refine ld_69 hx hb hK hI g9 (v := σ7 69 (ix p0)) rfl dX12_codePlace_121 ?_
    refine lv_iconst (v := 0) hx hb dX12_codePlace_122 (by decide) ?_
    refine lv_iconst (v := 0) hx hb dX12_codePlace_123 (by decide) ?_
    obtain ⟨r10, σ11, h12, hm⟩ := bd_some hm
    refine k_v hI hA (va_runV (As := [.int 0, .int r6, .int (σ7 69 (ix p0)), .int 0, .int 0]) (rest := []) hX (c_X12_emit N n h12 _) (cwV 5 ht (in_V mw_956 mw_957 mw_958 mw_861 mw_943) rfl rfl rfl pd_X12_emit ⟨Nat.le_of_ble_eq_true rfl, Nat.le_of_ble_eq_true rfl⟩) ⟨q_blind, va_recv hK hI.1 (ci := 11) (q0 := 59) rfl rfl, q_to hI hK hN hZ hA⟩ rfl rfl hl.1 rfl (lv_room (Nat.le_of_ble_eq_true rfl)) dX12_codePlace_124 (by decide)) (fun H locs hI => ?_)
    refine lv_aload_n hx hb dX12_codePlace_127 rfl (lv_at hl 5 rfl) ?_
    refine lv_iload hx hb dX12_codePlace_128 (lv_at hl 2 rfl) ?_
    obtain ⟨r13, σ14, h15, hm⟩ := bd_some hm
    refine k_v hI hA (va_runV (As := [.int (σ 70 (ix (8 * p0)))]) (rest := []) hX (c_X12_saved N n h15 _) (cwV 1 ht (in_V mw_974 mw_975 mw_976 mw_861 mw_960) rfl rfl rfl pd_X12_saved ⟨Nat.le_of_ble_eq_true rfl, Nat.le_of_ble_eq_true rfl⟩) ⟨q_blind, va_recv hK hI.1 (ci := 11) (q0 := 59) rfl rfl, q_to hI hK hN hZ hA⟩ rfl rfl hl.1 rfl (lv_room (Nat.le_of_ble_eq_true rfl)) dX12_codePlace_130 (by decide)) (fun H locs hI => ?_)
    exact hR _ _ _ _ _ hm hI dX12_codePlace_133
  have hm := (if_neg c5).symm.trans hm
  by_cases c16 : (σ 68 (ix p0)) = 1
  · have hm := (if_pos c16).symm.trans hm
    refine lv_tableIn (off := 77) (tgt := 134) hx hb dX12_codePlace_57 (by (rw [c16]; decide)) (by (rw [c16]; decide)) (by (rw [c16]; rfl)) (by decide) ?_
    refine lv_aload_n hx hb dX12_codePlace_134 rfl (lv_at hl 5 rfl) ?_
    refine lv_iload hx hb dX12_codePlace_135 (lv_at hl 2 rfl) ?_
    refine lv_iload hx hb dX12_codePlace_137 (lv_at hl 1 rfl) ?_
    obtain ⟨r17, σ18, h19, hm⟩ := bd_some hm
    refine k_v hI hA (va_runV (As := [.int (σ 70 (ix (8 * p0))), .int (σ 70 (ix ((8 * p0) + 1)))]) (rest := []) hX (c_X12_moves N n h19 _) (cwV 2 ht (in_V mw_977 mw_978 mw_979 mw_861 mw_961) rfl rfl rfl pd_X12_moves ⟨Nat.le_of_ble_eq_true rfl, Nat.le_of_ble_eq_true rfl⟩) ⟨q_blind, va_recv hK hI.1 (ci := 11) (q0 := 59) rfl rfl, q_to hI hK hN hZ hA⟩ rfl rfl hl.1 rfl (lv_room (Nat.le_of_ble_eq_true rfl)) dX12_codePlace_139 (by decide)) (fun H locs hI => ?_)
    exact hR _ _ _ _ _ hm hI dX12_codePlace_142
  have hm := (if_neg c16).symm.trans hm
  by_cases c20 : (σ 68 (ix p0)) = 2
  · have hm := (if_pos c20).symm.trans hm
    refine lv_tableIn (off := 86) (tgt := 143) hx hb dX12_codePlace_57 (by (rw [c20]; decide)) (by (rw [c20]; decide)) (by (rw [c20]; rfl)) (by decide) ?_
    refine lv_aload_n hx hb dX12_codePlace_143 rfl (lv_at hl 5 rfl) ?_
    refine lv_iload hx hb dX12_codePlace_144 (lv_at hl 1 rfl) ?_
    refine lv_iload_n hx hb dX12_codePlace_146 rfl (lv_at hl 4 rfl) ?_
    obtain ⟨r21, σ22, h23, hm⟩ := bd_some hm
    refine k_i hI hA (va_runV (As := [.int (σ 70 (ix ((8 * p0) + 1))), .int ((σ 59 22) - 2)]) (rest := []) hX (c_X12_read N n h23 _) (cwV 2 ht (in_V mw_980 mw_981 mw_982 mw_861 mw_949) rfl rfl rfl pd_X12_read ⟨Nat.le_of_ble_eq_true rfl, Nat.le_of_ble_eq_true rfl⟩) ⟨q_blind, va_recv hK hI.1 (ci := 11) (q0 := 59) rfl rfl, q_to hI hK hN hZ hA⟩ rfl rfl hl.1 rfl (lv_room (Nat.le_of_ble_eq_true rfl)) dX12_codePlace_147 (by decide)) (fun H locs hI => ?_)
    refine lv_istore (lv' := [(7, .int r21), (6, .int (σ 70 (ix ((8 * p0) + 2)))), (5, .int (σ 70 (ix ((8 * p0) + 1)))), (4, .int (σ 70 (ix (8 * p0)))), (3, .int ((σ 59 22) - 1)), (2, .int ((σ 59 22) - 2)), (0, .ref (ga g 59)), (1, .int p0)]) hx hb dX12_codePlace_150 hl (by decide) rfl (fun ls hl => ?_)
    refine lv_aload_n hx hb dX12_codePlace_152 rfl (lv_at hl 6 rfl) ?_
    refine lv_iload hx hb dX12_codePlace_153 (lv_at hl 1 rfl) ?_
    refine lv_iload_n hx hb dX12_codePlace_155 rfl (lv_at hl 4 rfl) ?_
    obtain ⟨r24, σ25, h26, hm⟩ := bd_some hm
    refine k_i hI hA (va_runV (As := [.int (σ 70 (ix ((8 * p0) + 2))), .int ((σ 59 22) - 1)]) (rest := []) hX (c_X12_read N n h26 _) (cwV 2 ht (in_V mw_980 mw_981 mw_982 mw_861 mw_949) rfl rfl rfl pd_X12_read ⟨Nat.le_of_ble_eq_true rfl, Nat.le_of_ble_eq_true rfl⟩) ⟨q_blind, va_recv hK hI.1 (ci := 11) (q0 := 59) rfl rfl, q_to hI hK hN hZ hA⟩ rfl rfl hl.1 rfl (lv_room (Nat.le_of_ble_eq_true rfl)) dX12_codePlace_156 (by decide)) (fun H locs hI => ?_)
    refine lv_istore (lv' := [(8, .int r24), (7, .int r21), (6, .int (σ 70 (ix ((8 * p0) + 2)))), (5, .int (σ 70 (ix ((8 * p0) + 1)))), (4, .int (σ 70 (ix (8 * p0)))), (3, .int ((σ 59 22) - 1)), (2, .int ((σ 59 22) - 2)), (0, .ref (ga g 59)), (1, .int p0)]) hx hb dX12_codePlace_159 hl (by decide) rfl (fun ls hl => ?_)
    refine lv_aload_n hx hb dX12_codePlace_161 rfl (lv_at hl 7 rfl) ?_
    refine lv_iconst (v := 2) hx hb dX12_codePlace_162 (by decide) ?_
    refine lv_aload_n hx hb dX12_codePlace_163 rfl (lv_at hl 7 rfl) ?_
    refine lv_iload hx hb dX12_codePlace_164 (lv_at hl 4 rfl) ?_
    obtain ⟨r27, σ28, h29, hm⟩ := bd_some hm
    refine k_i hI hA (va_runV (As := [.int (σ 70 (ix (8 * p0)))]) (rest := [.int 2, .ref (ga g 59)]) hX (c_X12_written N n h29 _) (cwV 1 ht (in_V mw_971 mw_972 mw_973 mw_861 mw_959) rfl rfl rfl pd_X12_written ⟨Nat.le_of_ble_eq_true rfl, Nat.le_of_ble_eq_true rfl⟩) ⟨q_blind, va_recv hK hI.1 (ci := 11) (q0 := 59) rfl rfl, q_to hI hK hN hZ hA⟩ rfl rfl hl.1 rfl (lv_room (Nat.le_of_ble_eq_true rfl)) dX12_codePlace_166 (by decide)) (fun H locs hI => ?_)
    refine lv_iload hx hb dX12_codePlace_169 (lv_at hl 1 rfl) ?_
    refine lv_iload hx hb dX12_codePlace_171 (lv_at hl 0 rfl) ?_
    refine lv_aload_n hx hb dX12_codePlace_173 rfl (lv_at hl 7 rfl) ?_
    refine gf_59_14 hx hb ht hK hI mw_764 (fun _ h9 => h9) hown dX12_codePlace_174 ?_
    refine lv_iload_n hx hb dX12_codePlace_177 rfl (lv_at hl 8 rfl) ?_
    obtain ⟨g30, hm⟩ := gb_some hm
    refine ld_69 hx hb hK hI g30 (v := σ28 69 (ix p0)) rfl dX12_codePlace_178 ?_
    obtain ⟨r31, σ32, h33, hm⟩ := bd_some hm
    refine k_v hI hA (va_runV (As := [.int 2, .int r27, .int r21, .int r24, .int (σ28 69 (ix p0))]) (rest := []) hX (c_X12_emit N n h33 _) (cwV 5 ht (in_V mw_956 mw_957 mw_958 mw_861 mw_943) rfl rfl rfl pd_X12_emit ⟨Nat.le_of_ble_eq_true rfl, Nat.le_of_ble_eq_true rfl⟩) ⟨q_blind, va_recv hK hI.1 (ci := 11) (q0 := 59) rfl rfl, q_to hI hK hN hZ hA⟩ rfl rfl hl.1 rfl (lv_room (Nat.le_of_ble_eq_true rfl)) dX12_codePlace_179 (by decide)) (fun H locs hI => ?_)
    refine lv_aload_n hx hb dX12_codePlace_182 rfl (lv_at hl 7 rfl) ?_
    refine lv_iload hx hb dX12_codePlace_183 (lv_at hl 4 rfl) ?_
    obtain ⟨r34, σ35, h36, hm⟩ := bd_some hm
    refine k_v hI hA (va_runV (As := [.int (σ 70 (ix (8 * p0)))]) (rest := []) hX (c_X12_saved N n h36 _) (cwV 1 ht (in_V mw_974 mw_975 mw_976 mw_861 mw_960) rfl rfl rfl pd_X12_saved ⟨Nat.le_of_ble_eq_true rfl, Nat.le_of_ble_eq_true rfl⟩) ⟨q_blind, va_recv hK hI.1 (ci := 11) (q0 := 59) rfl rfl, q_to hI hK hN hZ hA⟩ rfl rfl hl.1 rfl (lv_room (Nat.le_of_ble_eq_true rfl)) dX12_codePlace_185 (by decide)) (fun H locs hI => ?_)
    exact hR _ _ _ _ _ hm hI dX12_codePlace_188
  have hm := (if_neg c20).symm.trans hm
  by_cases c37 : (σ 68 (ix p0)) = 3
  · have hm := (if_pos c37).symm.trans hm
    refine lv_tableIn (off := 132) (tgt := 189) hx hb dX12_codePlace_57 (by (rw [c37]; decide)) (by (rw [c37]; decide)) (by (rw [c37]; rfl)) (by decide) ?_
    refine lv_aload_n hx hb dX12_codePlace_189 rfl (lv_at hl 5 rfl) ?_
    refine lv_iload hx hb dX12_codePlace_190 (lv_at hl 2 rfl) ?_
    refine lv_iload hx hb dX12_codePlace_192 (lv_at hl 1 rfl) ?_
    refine lv_iload_n hx hb dX12_codePlace_194 rfl (lv_at hl 4 rfl) ?_
    refine lv_iload_n hx hb dX12_codePlace_195 rfl (lv_at hl 3 rfl) ?_
    obtain ⟨r38, σ39, h40, hm⟩ := bd_some hm
    refine k_v hI hA (va_runV (As := [.int (σ 70 (ix (8 * p0))), .int (σ 70 (ix ((8 * p0) + 1))), .int ((σ 59 22) - 2), .int ((σ 59 22) - 1)]) (rest := []) hX (c_X12_swaps N n h40 _) (cwV 4 ht (in_V mw_983 mw_984 mw_985 mw_861 mw_970) rfl rfl rfl pd_X12_swaps ⟨Nat.le_of_ble_eq_true rfl, Nat.le_of_ble_eq_true rfl⟩) ⟨q_blind, va_recv hK hI.1 (ci := 11) (q0 := 59) rfl rfl, q_to hI hK hN hZ hA⟩ rfl rfl hl.1 rfl (lv_room (Nat.le_of_ble_eq_true rfl)) dX12_codePlace_196 (by decide)) (fun H locs hI => ?_)
    exact hR _ _ _ _ _ hm hI dX12_codePlace_199
  have hm := (if_neg c37).symm.trans hm
  by_cases c41 : (σ 68 (ix p0)) = 4
  · have hm := (if_pos c41).symm.trans hm
    refine lv_tableIn (off := 143) (tgt := 200) hx hb dX12_codePlace_57 (by (rw [c41]; decide)) (by (rw [c41]; decide)) (by (rw [c41]; rfl)) (by decide) ?_
    refine lv_aload_n hx hb dX12_codePlace_200 rfl (lv_at hl 5 rfl) ?_
    refine lv_iconst (v := 4) hx hb dX12_codePlace_201 (by decide) ?_
    refine lv_aload_n hx hb dX12_codePlace_202 rfl (lv_at hl 5 rfl) ?_
    refine gf_59_14 hx hb ht hK hI mw_764 (fun _ h9 => h9) hown dX12_codePlace_203 ?_
    refine lv_iload_n hx hb dX12_codePlace_206 rfl (lv_at hl 6 rfl) ?_
    obtain ⟨g42, hm⟩ := gb_some hm
    refine ld_69 hx hb hK hI g42 (v := σ 69 (ix p0)) rfl dX12_codePlace_207 ?_
    refine lv_iconst (v := 0) hx hb dX12_codePlace_208 (by decide) ?_
    refine lv_iconst (v := 0) hx hb dX12_codePlace_209 (by decide) ?_
    refine lv_iconst (v := 0) hx hb dX12_codePlace_210 (by decide) ?_
    obtain ⟨r43, σ44, h45, hm⟩ := bd_some hm
    refine k_v hI hA (va_runV (As := [.int 4, .int (σ 69 (ix p0)), .int 0, .int 0, .int 0]) (rest := []) hX (c_X12_emit N n h45 _) (cwV 5 ht (in_V mw_956 mw_957 mw_958 mw_861 mw_943) rfl rfl rfl pd_X12_emit ⟨Nat.le_of_ble_eq_true rfl, Nat.le_of_ble_eq_true rfl⟩) ⟨q_blind, va_recv hK hI.1 (ci := 11) (q0 := 59) rfl rfl, q_to hI hK hN hZ hA⟩ rfl rfl hl.1 rfl (lv_room (Nat.le_of_ble_eq_true rfl)) dX12_codePlace_211 (by decide)) (fun H locs hI => ?_)
    exact hR _ _ _ _ _ hm hI dX12_codePlace_214
  have hm := (if_neg c41).symm.trans hm
  by_cases c46 : (σ 68 (ix p0)) = 5
  · have hm := (if_pos c46).symm.trans hm
    refine lv_tableIn (off := 158) (tgt := 215) hx hb dX12_codePlace_57 (by (rw [c46]; decide)) (by (rw [c46]; decide)) (by (rw [c46]; rfl)) (by decide) ?_
    refine lv_aload_n hx hb dX12_codePlace_215 rfl (lv_at hl 5 rfl) ?_
    refine lv_iload hx hb dX12_codePlace_216 (lv_at hl 2 rfl) ?_
    refine lv_iload_n hx hb dX12_codePlace_218 rfl (lv_at hl 4 rfl) ?_
    obtain ⟨r47, σ48, h49, hm⟩ := bd_some hm
    refine k_i hI hA (va_runV (As := [.int (σ 70 (ix (8 * p0))), .int ((σ 59 22) - 2)]) (rest := []) hX (c_X12_read N n h49 _) (cwV 2 ht (in_V mw_980 mw_981 mw_982 mw_861 mw_949) rfl rfl rfl pd_X12_read ⟨Nat.le_of_ble_eq_true rfl, Nat.le_of_ble_eq_true rfl⟩) ⟨q_blind, va_recv hK hI.1 (ci := 11) (q0 := 59) rfl rfl, q_to hI hK hN hZ hA⟩ rfl rfl hl.1 rfl (lv_room (Nat.le_of_ble_eq_true rfl)) dX12_codePlace_219 (by decide)) (fun H locs hI => ?_)
    refine lv_istore (lv' := [(7, .int r47), (6, .int (σ 70 (ix ((8 * p0) + 2)))), (5, .int (σ 70 (ix ((8 * p0) + 1)))), (4, .int (σ 70 (ix (8 * p0)))), (3, .int ((σ 59 22) - 1)), (2, .int ((σ 59 22) - 2)), (0, .ref (ga g 59)), (1, .int p0)]) hx hb dX12_codePlace_222 hl (by decide) rfl (fun ls hl => ?_)
    refine lv_aload_n hx hb dX12_codePlace_224 rfl (lv_at hl 6 rfl) ?_
    refine lv_iconst (v := 5) hx hb dX12_codePlace_225 (by decide) ?_
    refine lv_iload hx hb dX12_codePlace_226 (lv_at hl 0 rfl) ?_
    refine lv_aload_n hx hb dX12_codePlace_228 rfl (lv_at hl 6 rfl) ?_
    refine gf_59_14 hx hb ht hK hI mw_764 (fun _ h9 => h9) hown dX12_codePlace_229 ?_
    refine lv_iload_n hx hb dX12_codePlace_232 rfl (lv_at hl 7 rfl) ?_
    obtain ⟨g50, hm⟩ := gb_some hm
    refine ld_69 hx hb hK hI g50 (v := σ48 69 (ix p0)) rfl dX12_codePlace_233 ?_
    refine lv_iconst (v := 0) hx hb dX12_codePlace_234 (by decide) ?_
    refine lv_iconst (v := 0) hx hb dX12_codePlace_235 (by decide) ?_
    obtain ⟨r51, σ52, h53, hm⟩ := bd_some hm
    refine k_v hI hA (va_runV (As := [.int 5, .int r47, .int (σ48 69 (ix p0)), .int 0, .int 0]) (rest := []) hX (c_X12_emit N n h53 _) (cwV 5 ht (in_V mw_956 mw_957 mw_958 mw_861 mw_943) rfl rfl rfl pd_X12_emit ⟨Nat.le_of_ble_eq_true rfl, Nat.le_of_ble_eq_true rfl⟩) ⟨q_blind, va_recv hK hI.1 (ci := 11) (q0 := 59) rfl rfl, q_to hI hK hN hZ hA⟩ rfl rfl hl.1 rfl (lv_room (Nat.le_of_ble_eq_true rfl)) dX12_codePlace_236 (by decide)) (fun H locs hI => ?_)
    exact hR _ _ _ _ _ hm hI dX12_codePlace_239
  have hm := (if_neg c46).symm.trans hm
  by_cases c54 : (σ 68 (ix p0)) = 6
  · have hm := (if_pos c54).symm.trans hm
    refine lv_tableIn (off := 183) (tgt := 240) hx hb dX12_codePlace_57 (by (rw [c54]; decide)) (by (rw [c54]; decide)) (by (rw [c54]; rfl)) (by decide) ?_
    refine lv_aload_n hx hb dX12_codePlace_240 rfl (lv_at hl 5 rfl) ?_
    refine lv_iload hx hb dX12_codePlace_241 (lv_at hl 2 rfl) ?_
    refine lv_iload_n hx hb dX12_codePlace_243 rfl (lv_at hl 4 rfl) ?_
    obtain ⟨r55, σ56, h57, hm⟩ := bd_some hm
    refine k_i hI hA (va_runV (As := [.int (σ 70 (ix (8 * p0))), .int ((σ 59 22) - 2)]) (rest := []) hX (c_X12_read N n h57 _) (cwV 2 ht (in_V mw_980 mw_981 mw_982 mw_861 mw_949) rfl rfl rfl pd_X12_read ⟨Nat.le_of_ble_eq_true rfl, Nat.le_of_ble_eq_true rfl⟩) ⟨q_blind, va_recv hK hI.1 (ci := 11) (q0 := 59) rfl rfl, q_to hI hK hN hZ hA⟩ rfl rfl hl.1 rfl (lv_room (Nat.le_of_ble_eq_true rfl)) dX12_codePlace_244 (by decide)) (fun H locs hI => ?_)
    refine lv_istore (lv' := [(7, .int r55), (6, .int (σ 70 (ix ((8 * p0) + 2)))), (5, .int (σ 70 (ix ((8 * p0) + 1)))), (4, .int (σ 70 (ix (8 * p0)))), (3, .int ((σ 59 22) - 1)), (2, .int ((σ 59 22) - 2)), (0, .ref (ga g 59)), (1, .int p0)]) hx hb dX12_codePlace_247 hl (by decide) rfl (fun ls hl => ?_)
    refine lv_aload_n hx hb dX12_codePlace_249 rfl (lv_at hl 6 rfl) ?_
    refine lv_bipush (v := 6) hx hb dX12_codePlace_250 (by decide) ?_
    refine lv_iload hx hb dX12_codePlace_252 (lv_at hl 0 rfl) ?_
    refine lv_iconst (v := 0) hx hb dX12_codePlace_254 (by decide) ?_
    refine lv_iconst (v := 0) hx hb dX12_codePlace_255 (by decide) ?_
    refine lv_iconst (v := 0) hx hb dX12_codePlace_256 (by decide) ?_
    obtain ⟨r58, σ59, h60, hm⟩ := bd_some hm
    refine k_v hI hA (va_runV (As := [.int 6, .int r55, .int 0, .int 0, .int 0]) (rest := []) hX (c_X12_emit N n h60 _) (cwV 5 ht (in_V mw_956 mw_957 mw_958 mw_861 mw_943) rfl rfl rfl pd_X12_emit ⟨Nat.le_of_ble_eq_true rfl, Nat.le_of_ble_eq_true rfl⟩) ⟨q_blind, va_recv hK hI.1 (ci := 11) (q0 := 59) rfl rfl, q_to hI hK hN hZ hA⟩ rfl rfl hl.1 rfl (lv_room (Nat.le_of_ble_eq_true rfl)) dX12_codePlace_257 (by decide)) (fun H locs hI => ?_)
    exact hR _ _ _ _ _ hm hI dX12_codePlace_260
  have hm := (if_neg c54).symm.trans hm
  by_cases c61 : (σ 68 (ix p0)) = 7
  · have hm := (if_pos c61).symm.trans hm
    refine lv_tableIn (off := 204) (tgt := 261) hx hb dX12_codePlace_57 (by (rw [c61]; decide)) (by (rw [c61]; decide)) (by (rw [c61]; rfl)) (by decide) ?_
    refine lv_aload_n hx hb dX12_codePlace_261 rfl (lv_at hl 5 rfl) ?_
    refine lv_iload hx hb dX12_codePlace_262 (lv_at hl 1 rfl) ?_
    refine lv_iload_n hx hb dX12_codePlace_264 rfl (lv_at hl 4 rfl) ?_
    obtain ⟨r62, σ63, h64, hm⟩ := bd_some hm
    refine k_i hI hA (va_runV (As := [.int (σ 70 (ix ((8 * p0) + 1))), .int ((σ 59 22) - 2)]) (rest := []) hX (c_X12_read N n h64 _) (cwV 2 ht (in_V mw_980 mw_981 mw_982 mw_861 mw_949) rfl rfl rfl pd_X12_read ⟨Nat.le_of_ble_eq_true rfl, Nat.le_of_ble_eq_true rfl⟩) ⟨q_blind, va_recv hK hI.1 (ci := 11) (q0 := 59) rfl rfl, q_to hI hK hN hZ hA⟩ rfl rfl hl.1 rfl (lv_room (Nat.le_of_ble_eq_true rfl)) dX12_codePlace_265 (by decide)) (fun H locs hI => ?_)
    refine lv_istore (lv' := [(7, .int r62), (6, .int (σ 70 (ix ((8 * p0) + 2)))), (5, .int (σ 70 (ix ((8 * p0) + 1)))), (4, .int (σ 70 (ix (8 * p0)))), (3, .int ((σ 59 22) - 1)), (2, .int ((σ 59 22) - 2)), (0, .ref (ga g 59)), (1, .int p0)]) hx hb dX12_codePlace_268 hl (by decide) rfl (fun ls hl => ?_)
    refine lv_aload_n hx hb dX12_codePlace_270 rfl (lv_at hl 6 rfl) ?_
    refine lv_bipush (v := 7) hx hb dX12_codePlace_271 (by decide) ?_
    refine lv_aload_n hx hb dX12_codePlace_273 rfl (lv_at hl 6 rfl) ?_
    refine lv_iload hx hb dX12_codePlace_274 (lv_at hl 3 rfl) ?_
    obtain ⟨r65, σ66, h67, hm⟩ := bd_some hm
    refine k_i hI hA (va_runV (As := [.int (σ 70 (ix (8 * p0)))]) (rest := [.int 7, .ref (ga g 59)]) hX (c_X12_written N n h67 _) (cwV 1 ht (in_V mw_971 mw_972 mw_973 mw_861 mw_959) rfl rfl rfl pd_X12_written ⟨Nat.le_of_ble_eq_true rfl, Nat.le_of_ble_eq_true rfl⟩) ⟨q_blind, va_recv hK hI.1 (ci := 11) (q0 := 59) rfl rfl, q_to hI hK hN hZ hA⟩ rfl rfl hl.1 rfl (lv_room (Nat.le_of_ble_eq_true rfl)) dX12_codePlace_276 (by decide)) (fun H locs hI => ?_)
    refine lv_iload hx hb dX12_codePlace_279 (lv_at hl 0 rfl) ?_
    refine lv_iconst (v := 0) hx hb dX12_codePlace_281 (by decide) ?_
    refine lv_iconst (v := 0) hx hb dX12_codePlace_282 (by decide) ?_
    obtain ⟨r68, σ69, h70, hm⟩ := bd_some hm
    refine k_v hI hA (va_runV (As := [.int 7, .int r65, .int r62, .int 0, .int 0]) (rest := []) hX (c_X12_emit N n h70 _) (cwV 5 ht (in_V mw_956 mw_957 mw_958 mw_861 mw_943) rfl rfl rfl pd_X12_emit ⟨Nat.le_of_ble_eq_true rfl, Nat.le_of_ble_eq_true rfl⟩) ⟨q_blind, va_recv hK hI.1 (ci := 11) (q0 := 59) rfl rfl, q_to hI hK hN hZ hA⟩ rfl rfl hl.1 rfl (lv_room (Nat.le_of_ble_eq_true rfl)) dX12_codePlace_283 (by decide)) (fun H locs hI => ?_)
    refine lv_aload_n hx hb dX12_codePlace_286 rfl (lv_at hl 6 rfl) ?_
    refine lv_iload hx hb dX12_codePlace_287 (lv_at hl 3 rfl) ?_
    obtain ⟨r71, σ72, h73, hm⟩ := bd_some hm
    refine k_v hI hA (va_runV (As := [.int (σ 70 (ix (8 * p0)))]) (rest := []) hX (c_X12_saved N n h73 _) (cwV 1 ht (in_V mw_974 mw_975 mw_976 mw_861 mw_960) rfl rfl rfl pd_X12_saved ⟨Nat.le_of_ble_eq_true rfl, Nat.le_of_ble_eq_true rfl⟩) ⟨q_blind, va_recv hK hI.1 (ci := 11) (q0 := 59) rfl rfl, q_to hI hK hN hZ hA⟩ rfl rfl hl.1 rfl (lv_room (Nat.le_of_ble_eq_true rfl)) dX12_codePlace_289 (by decide)) (fun H locs hI => ?_)
    exact hR _ _ _ _ _ hm hI dX12_codePlace_292
  have hm := (if_neg c61).symm.trans hm
  by_cases c74 : (σ 68 (ix p0)) = 8
  · have hm := (if_pos c74).symm.trans hm
    refine lv_tableIn (off := 236) (tgt := 293) hx hb dX12_codePlace_57 (by (rw [c74]; decide)) (by (rw [c74]; decide)) (by (rw [c74]; rfl)) (by decide) ?_
    refine lv_aload_n hx hb dX12_codePlace_293 rfl (lv_at hl 5 rfl) ?_
    refine lv_iload hx hb dX12_codePlace_294 (lv_at hl 2 rfl) ?_
    refine lv_iload_n hx hb dX12_codePlace_296 rfl (lv_at hl 4 rfl) ?_
    obtain ⟨r75, σ76, h77, hm⟩ := bd_some hm
    refine k_i hI hA (va_runV (As := [.int (σ 70 (ix (8 * p0))), .int ((σ 59 22) - 2)]) (rest := []) hX (c_X12_read N n h77 _) (cwV 2 ht (in_V mw_980 mw_981 mw_982 mw_861 mw_949) rfl rfl rfl pd_X12_read ⟨Nat.le_of_ble_eq_true rfl, Nat.le_of_ble_eq_true rfl⟩) ⟨q_blind, va_recv hK hI.1 (ci := 11) (q0 := 59) rfl rfl, q_to hI hK hN hZ hA⟩ rfl rfl hl.1 rfl (lv_room (Nat.le_of_ble_eq_true rfl)) dX12_codePlace_297 (by decide)) (fun H locs hI => ?_)
    refine lv_istore (lv' := [(7, .int r75), (6, .int (σ 70 (ix ((8 * p0) + 2)))), (5, .int (σ 70 (ix ((8 * p0) + 1)))), (4, .int (σ 70 (ix (8 * p0)))), (3, .int ((σ 59 22) - 1)), (2, .int ((σ 59 22) - 2)), (0, .ref (ga g 59)), (1, .int p0)]) hx hb dX12_codePlace_300 hl (by decide) rfl (fun ls hl => ?_)
    refine lv_aload_n hx hb dX12_codePlace_302 rfl (lv_at hl 6 rfl) ?_
    refine lv_iload hx hb dX12_codePlace_303 (lv_at hl 2 rfl) ?_
    refine lv_iload_n hx hb dX12_codePlace_305 rfl (lv_at hl 4 rfl) ?_
    obtain ⟨r78, σ79, h80, hm⟩ := bd_some hm
    refine k_i hI hA (va_runV (As := [.int (σ 70 (ix ((8 * p0) + 1))), .int ((σ 59 22) - 1)]) (rest := []) hX (c_X12_read N n h80 _) (cwV 2 ht (in_V mw_980 mw_981 mw_982 mw_861 mw_949) rfl rfl rfl pd_X12_read ⟨Nat.le_of_ble_eq_true rfl, Nat.le_of_ble_eq_true rfl⟩) ⟨q_blind, va_recv hK hI.1 (ci := 11) (q0 := 59) rfl rfl, q_to hI hK hN hZ hA⟩ rfl rfl hl.1 rfl (lv_room (Nat.le_of_ble_eq_true rfl)) dX12_codePlace_306 (by decide)) (fun H locs hI => ?_)
    refine lv_istore (lv' := [(8, .int r78), (7, .int r75), (6, .int (σ 70 (ix ((8 * p0) + 2)))), (5, .int (σ 70 (ix ((8 * p0) + 1)))), (4, .int (σ 70 (ix (8 * p0)))), (3, .int ((σ 59 22) - 1)), (2, .int ((σ 59 22) - 2)), (0, .ref (ga g 59)), (1, .int p0)]) hx hb dX12_codePlace_309 hl (by decide) rfl (fun ls hl => ?_)
    refine lv_aload_n hx hb dX12_codePlace_311 rfl (lv_at hl 7 rfl) ?_
    refine lv_bipush (v := 8) hx hb dX12_codePlace_312 (by decide) ?_
    refine lv_iload hx hb dX12_codePlace_314 (lv_at hl 1 rfl) ?_
    refine lv_iload hx hb dX12_codePlace_316 (lv_at hl 0 rfl) ?_
    refine lv_iconst (v := 0) hx hb dX12_codePlace_318 (by decide) ?_
    refine lv_iconst (v := 0) hx hb dX12_codePlace_319 (by decide) ?_
    obtain ⟨r81, σ82, h83, hm⟩ := bd_some hm
    refine k_v hI hA (va_runV (As := [.int 8, .int r75, .int r78, .int 0, .int 0]) (rest := []) hX (c_X12_emit N n h83 _) (cwV 5 ht (in_V mw_956 mw_957 mw_958 mw_861 mw_943) rfl rfl rfl pd_X12_emit ⟨Nat.le_of_ble_eq_true rfl, Nat.le_of_ble_eq_true rfl⟩) ⟨q_blind, va_recv hK hI.1 (ci := 11) (q0 := 59) rfl rfl, q_to hI hK hN hZ hA⟩ rfl rfl hl.1 rfl (lv_room (Nat.le_of_ble_eq_true rfl)) dX12_codePlace_320 (by decide)) (fun H locs hI => ?_)
    exact hR _ _ _ _ _ hm hI dX12_codePlace_323
  have hm := (if_neg c74).symm.trans hm
  refine sw_d (tgt := 324) hx hb [0, 1, 2, 3, 4, 5, 6, 7, 8] dX12_codePlace_57 (by decide) (by decide) (ne_c (lv_neT c5 (by decide)) (ne_c (lv_neT c16 (by decide)) (ne_c (lv_neT c20 (by decide)) (ne_c (lv_neT c37 (by decide)) (ne_c (lv_neT c41 (by decide)) (ne_c (lv_neT c46 (by decide)) (ne_c (lv_neT c54 (by decide)) (ne_c (lv_neT c61 (by decide)) (ne_c (lv_neT c74 (by decide)) ne_n))))))))) (by decide) ?_
  refine lv_iconst (v := 1) hx hb dX12_codePlace_324 (by decide) ?_
  refine lv_istore (lv' := [(9, .int 1), (6, .int (σ 70 (ix ((8 * p0) + 2)))), (5, .int (σ 70 (ix ((8 * p0) + 1)))), (4, .int (σ 70 (ix (8 * p0)))), (3, .int ((σ 59 22) - 1)), (2, .int ((σ 59 22) - 2)), (0, .ref (ga g 59)), (1, .int p0)]) hx hb dX12_codePlace_325 hl (by decide) rfl (fun ls hl => ?_)
  refine lp_X12_codePlace_327 hC N _ _ _ _ _ hm hI (lv_sub hl [6, 7, 5, 3, 0] rfl) ?_
  intro σ93 w94 H locs ls hm hI hl
  refine lv_aload_n hx hb dX12_codePlace_377 rfl (lv_at hl 0 rfl) ?_
  refine lv_bipush (v := 13) hx hb dX12_codePlace_378 (by decide) ?_
  refine lv_aload_n hx hb dX12_codePlace_380 rfl (lv_at hl 0 rfl) ?_
  refine gf_59_14 hx hb ht hK hI mw_764 (fun _ h9 => h9) hown dX12_codePlace_381 ?_
  refine lv_iload_n hx hb dX12_codePlace_384 rfl (lv_at hl 1 rfl) ?_
  obtain ⟨g95, hm⟩ := gb_some hm
  refine ld_69 hx hb hK hI g95 (v := σ93 69 (ix p0)) rfl dX12_codePlace_385 ?_
  refine lv_iconst (v := 0) hx hb dX12_codePlace_386 (by decide) ?_
  refine lv_iconst (v := 0) hx hb dX12_codePlace_387 (by decide) ?_
  refine lv_iconst (v := 0) hx hb dX12_codePlace_388 (by decide) ?_
  obtain ⟨r96, σ97, h98, hm⟩ := bd_some hm
  refine k_v hI hA (va_runV (As := [.int 13, .int (σ93 69 (ix p0)), .int 0, .int 0, .int 0]) (rest := []) hX (c_X12_emit N n h98 _) (cwV 5 ht (in_V mw_956 mw_957 mw_958 mw_861 mw_943) rfl rfl rfl pd_X12_emit ⟨Nat.le_of_ble_eq_true rfl, Nat.le_of_ble_eq_true rfl⟩) ⟨q_blind, va_recv hK hI.1 (ci := 11) (q0 := 59) rfl rfl, q_to hI hK hN hZ hA⟩ rfl rfl hl.1 rfl (lv_room (Nat.le_of_ble_eq_true rfl)) dX12_codePlace_389 (by decide)) (fun H locs hI => ?_)
  refine lv_aload_n hx hb dX12_codePlace_392 rfl (lv_at hl 0 rfl) ?_
  refine lv_bipush (v := 14) hx hb dX12_codePlace_393 (by decide) ?_
  refine lv_aload_n hx hb dX12_codePlace_395 rfl (lv_at hl 0 rfl) ?_
  refine lv_iload hx hb dX12_codePlace_396 (lv_at hl 2 rfl) ?_
  obtain ⟨r99, σ100, h101, hm⟩ := bd_some hm
  refine k_i hI hA (va_runV (As := [.int (σ 70 (ix (8 * p0)))]) (rest := [.int 14, .ref (ga g 59)]) hX (c_X12_written N n h101 _) (cwV 1 ht (in_V mw_971 mw_972 mw_973 mw_861 mw_959) rfl rfl rfl pd_X12_written ⟨Nat.le_of_ble_eq_true rfl, Nat.le_of_ble_eq_true rfl⟩) ⟨q_blind, va_recv hK hI.1 (ci := 11) (q0 := 59) rfl rfl, q_to hI hK hN hZ hA⟩ rfl rfl hl.1 rfl (lv_room (Nat.le_of_ble_eq_true rfl)) dX12_codePlace_398 (by decide)) (fun H locs hI => ?_)
  refine lv_iconst (v := 0) hx hb dX12_codePlace_401 (by decide) ?_
  refine lv_iconst (v := 0) hx hb dX12_codePlace_402 (by decide) ?_
  refine lv_iconst (v := 0) hx hb dX12_codePlace_403 (by decide) ?_
  obtain ⟨r102, σ103, h104, hm⟩ := bd_some hm
  refine k_v hI hA (va_runV (As := [.int 14, .int r99, .int 0, .int 0, .int 0]) (rest := []) hX (c_X12_emit N n h104 _) (cwV 5 ht (in_V mw_956 mw_957 mw_958 mw_861 mw_943) rfl rfl rfl pd_X12_emit ⟨Nat.le_of_ble_eq_true rfl, Nat.le_of_ble_eq_true rfl⟩) ⟨q_blind, va_recv hK hI.1 (ci := 11) (q0 := 59) rfl rfl, q_to hI hK hN hZ hA⟩ rfl rfl hl.1 rfl (lv_room (Nat.le_of_ble_eq_true rfl)) dX12_codePlace_404 (by decide)) (fun H locs hI => ?_)
  refine lv_aload_n hx hb dX12_codePlace_407 rfl (lv_at hl 0 rfl) ?_
  refine lv_iload hx hb dX12_codePlace_408 (lv_at hl 2 rfl) ?_
  obtain ⟨r105, σ106, h107, hm⟩ := bd_some hm
  refine k_v hI hA (va_runV (As := [.int (σ 70 (ix (8 * p0)))]) (rest := []) hX (c_X12_saved N n h107 _) (cwV 1 ht (in_V mw_974 mw_975 mw_976 mw_861 mw_960) rfl rfl rfl pd_X12_saved ⟨Nat.le_of_ble_eq_true rfl, Nat.le_of_ble_eq_true rfl⟩) ⟨q_blind, va_recv hK hI.1 (ci := 11) (q0 := 59) rfl rfl, q_to hI hK hN hZ hA⟩ rfl rfl hl.1 rfl (lv_room (Nat.le_of_ble_eq_true rfl)) dX12_codePlace_410 (by decide)) (fun H locs hI => ?_)
  exact hR _ _ _ _ _ hm hI dX12_codePlace_413
