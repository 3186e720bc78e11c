def f_X11_size (N n : Nat) (σ : Sg) (p0 : Int32) : Option (Int32 × Sg) := bd (f_X11_isTurned N n σ p0) (fun r1 σ2 => if r1 = 0 then (some ((-1), σ2)) else (gb p0 12 (some (σ2 41 (ix p0), σ2))))
set_option maxHeartbeats 4000000 in
set_option maxRecDepth 100000 in
theorem c_X11_size {l : Launch} {g : GG} {q : Nat} (N n : Nat) {σ : Sg} {p0 : Int32} {r : Int32} {σ' : Sg} (hm : f_X11_size N n σ p0 = some (r, σ')) : CTi l yX11_size cX11_size 2 (some .int) 2 42 g q n [.ref (ga g 0), .int p0] σ r σ' := by
  refine e_i (r := r) (by decide) (Nat.le_of_ble_eq_true rfl) ?_
  intro p e s m args below meth c A Q ls hC hl hI
  obtain ⟨hX, hK, hN, hZ, hA, hR⟩ := id hC
  have hx : p.tables.exec = Jvm.exec := hX.1
  have hb : c.code = cX11_size := hX.2.1
  have hml : c.maxLocals = 2 := hX.2.2.1
  have hown : s.vm.findClass RX11 = some m.cls := hX.2.2.2.1
  have ht : ∀ w ∈ BIG, w.before args s = true := hX.2.2.2.2
  have hl : lv_has ls 2 [(0, .ref (ga g 0)), (1, .int p0)] := hl
  unfold f_X11_size at hm
  refine lv_aload_n hx hb dX11_size_0 rfl (lv_at hl 0 rfl) ?_
  refine lv_iload_n hx hb dX11_size_1 rfl (lv_at hl 1 rfl) ?_
  obtain ⟨r1, σ2, h3, hm⟩ := bd_some hm
  refine k_i hI hA (va_runV (As := [.int p0]) (rest := []) hX (c_X11_isTurned N n h3 _) (cwV 1 ht (in_V mw_717 mw_718 mw_719 mw_267 mw_713) rfl rfl rfl pd_X11_isTurned ⟨Nat.le_of_ble_eq_true rfl, Nat.le_of_ble_eq_true rfl⟩) ⟨q_blind, va_recv hK hI.1 (ci := 10) (q0 := 0) rfl rfl, q_to hI hK hN hZ hA⟩ rfl rfl hl.1 rfl (lv_room (Nat.le_of_ble_eq_true rfl)) dX11_size_2 (by decide)) (fun H locs hI => ?_)
  refine lv_if_eq (tgt := 23) hx hb dX11_size_5 (by decide) (fun c4 => ?_) (fun c4 => ?_)
  · have hm := (if_pos c4).symm.trans hm
    refine lv_iconst (v := (-1)) hx hb dX11_size_23 (by decide) ?_
    exact hR _ _ _ _ _ _ hm hI dX11_size_24
  · have hm := (if_neg c4).symm.trans hm
    refine lv_aload_n hx hb dX11_size_8 rfl (lv_at hl 0 rfl) ?_
    refine gf_0_2 hx hb ht hK hI mw_646 (fun _ h9 => h9) hown dX11_size_9 ?_
    refine gf_11_4 hx hb ht hK hI mw_652 (fun _ h9 => h9) hown dX11_size_12 ?_
    refine gf_39_1 hx hb ht hK hI mw_716 (fun _ h9 => h9) hown dX11_size_15 ?_
    refine lv_iload_n hx hb dX11_size_18 rfl (lv_at hl 1 rfl) ?_
    obtain ⟨g5, hm⟩ := gb_some hm
    refine ld_41 hx hb hK hI g5 (v := σ2 41 (ix p0)) rfl dX11_size_19 ?_
    refine lv_goto (tgt := 24) hx hb dX11_size_20 (by decide) ?_
    exact hR _ _ _ _ _ _ hm hI dX11_size_24
def f_X11_slots (N n : Nat) (σ : Sg) (p0 : Int32) : Option (Int32 × Sg) := bd (f_X11_isTurned N n σ p0) (fun r1 σ2 => if r1 = 0 then (some ((-1), σ2)) else (gb p0 12 (some (σ2 37 (ix p0), σ2))))
set_option maxHeartbeats 4000000 in
set_option maxRecDepth 100000 in
theorem c_X11_slots {l : Launch} {g : GG} {q : Nat} (N n : Nat) {σ : Sg} {p0 : Int32} {r : Int32} {σ' : Sg} (hm : f_X11_slots N n σ p0 = some (r, σ')) : CTi l yX11_slots cX11_slots 2 (some .int) 2 42 g q n [.ref (ga g 0), .int p0] σ r σ' := by
  refine e_i (r := r) (by decide) (Nat.le_of_ble_eq_true rfl) ?_
  intro p e s m args below meth c A Q ls hC hl hI
  obtain ⟨hX, hK, hN, hZ, hA, hR⟩ := id hC
  have hx : p.tables.exec = Jvm.exec := hX.1
  have hb : c.code = cX11_slots := hX.2.1
  have hml : c.maxLocals = 2 := hX.2.2.1
  have hown : s.vm.findClass RX11 = some m.cls := hX.2.2.2.1
  have ht : ∀ w ∈ BIG, w.before args s = true := hX.2.2.2.2
  have hl : lv_has ls 2 [(0, .ref (ga g 0)), (1, .int p0)] := hl
  unfold f_X11_slots at hm
  refine lv_aload_n hx hb dX11_slots_0 rfl (lv_at hl 0 rfl) ?_
  refine lv_iload_n hx hb dX11_slots_1 rfl (lv_at hl 1 rfl) ?_
  obtain ⟨r1, σ2, h3, hm⟩ := bd_some hm
  refine k_i hI hA (va_runV (As := [.int p0]) (rest := []) hX (c_X11_isTurned N n h3 _) (cwV 1 ht (in_V mw_717 mw_718 mw_719 mw_267 mw_713) rfl rfl rfl pd_X11_isTurned ⟨Nat.le_of_ble_eq_true rfl, Nat.le_of_ble_eq_true rfl⟩) ⟨q_blind, va_recv hK hI.1 (ci := 10) (q0 := 0) rfl rfl, q_to hI hK hN hZ hA⟩ rfl rfl hl.1 rfl (lv_room (Nat.le_of_ble_eq_true rfl)) dX11_slots_2 (by decide)) (fun H locs hI => ?_)
  refine lv_if_eq (tgt := 23) hx hb dX11_slots_5 (by decide) (fun c4 => ?_) (fun c4 => ?_)
  · have hm := (if_pos c4).symm.trans hm
    refine lv_iconst (v := (-1)) hx hb dX11_slots_23 (by decide) ?_
    exact hR _ _ _ _ _ _ hm hI dX11_slots_24
  · have hm := (if_neg c4).symm.trans hm
    refine lv_aload_n hx hb dX11_slots_8 rfl (lv_at hl 0 rfl) ?_
    refine gf_0_2 hx hb ht hK hI mw_646 (fun _ h9 => h9) hown dX11_slots_9 ?_
    refine gf_11_3 hx hb ht hK hI mw_724 (fun _ h9 => h9) hown dX11_slots_12 ?_
    refine gf_32_4 hx hb ht hK hI mw_730 (fun _ h9 => h9) hown dX11_slots_15 ?_
    refine lv_iload_n hx hb dX11_slots_18 rfl (lv_at hl 1 rfl) ?_
    obtain ⟨g5, hm⟩ := gb_some hm
    refine ld_37 hx hb hK hI g5 (v := σ2 37 (ix p0)) rfl dX11_slots_19 ?_
    refine lv_goto (tgt := 24) hx hb dX11_slots_20 (by decide) ?_
    exact hR _ _ _ _ _ _ hm hI dX11_slots_24
def f_X2_tell (N n : Nat) (σ : Sg) (p0 : Int32) (p1 : Int32) (p2 : Int32) : Option (Int32 × Sg) := if p2 = 0 then (gb ((p0 * 22) + p1) 264 (some (σ 33 (ix ((p0 * 22) + p1)), σ))) else (if p2 = 1 then (gb ((p0 * 22) + p1) 264 (some (σ 34 (ix ((p0 * 22) + p1)), σ))) else (if p2 = 2 then (gb ((p0 * 22) + p1) 264 (some (σ 35 (ix ((p0 * 22) + p1)), σ))) else (if p2 = 3 then (gb ((p0 * 22) + p1) 264 (some (σ 36 (ix ((p0 * 22) + p1)), σ))) else (some ((-1), σ)))))
set_option maxHeartbeats 4000000 in
set_option maxRecDepth 100000 in
theorem c_X2_tell {l : Launch} {g : GG} {q : Nat} (N n : Nat) {σ : Sg} {p0 : Int32} {p1 : Int32} {p2 : Int32} {r : Int32} {σ' : Sg} (hm : f_X2_tell N n σ p0 p1 p2 = some (r, σ')) : CTi l yX2_tell cX2_tell 5 (some .int) 0 0 g q n [.ref (ga g 32), .int p0, .int p1, .int p2] σ r σ' := by
  refine e_i (r := r) (by decide) (Nat.le_of_ble_eq_true rfl) ?_
  intro p e s m args below meth c A Q ls hC hl hI
  obtain ⟨hX, hK, hN, hZ, hA, hR⟩ := id hC
  have hx : p.tables.exec = Jvm.exec := hX.1
  have hb : c.code = cX2_tell := hX.2.1
  have hml : c.maxLocals = 5 := hX.2.2.1
  have hown : s.vm.findClass RX2 = some m.cls := hX.2.2.2.1
  have ht : ∀ w ∈ BIG, w.before args s = true := hX.2.2.2.2
  have hl : lv_has ls 5 [(0, .ref (ga g 32)), (1, .int p0), (2, .int p1), (3, .int p2)] := hl
  unfold f_X2_tell at hm
  refine lv_iload_n hx hb dX2_tell_0 rfl (lv_at hl 1 rfl) ?_
  refine lv_bipush (v := 22) hx hb dX2_tell_1 (by decide) ?_
  refine lv_imul hx hb dX2_tell_3 ?_
  refine lv_iload_n hx hb dX2_tell_4 rfl (lv_at hl 2 rfl) ?_
  refine lv_iadd hx hb dX2_tell_5 ?_
  refine lv_istore (lv' := [(4, .int ((p0 * 22) + p1)), (0, .ref (ga g 32)), (1, .int p0), (2, .int p1), (3, .int p2)]) hx hb dX2_tell_6 hl (by decide) rfl (fun ls hl => ?_)
  refine lv_iload_n hx hb dX2_tell_8 rfl (lv_at hl 4 rfl) ?_
  by_cases c1 : p2 = 0
  · have hm := (if_pos c1).symm.trans hm
    refine lv_tableIn (off := 31) (tgt := 40) hx hb dX2_tell_9 (by (rw [c1]; decide)) (by (rw [c1]; decide)) (by (rw [c1]; rfl)) (by decide) ?_
    refine lv_aload_n hx hb dX2_tell_40 rfl (lv_at hl 1 rfl) ?_
    refine gf_32_0 hx hb ht hK hI mw_100 (fun _ h9 => h9) hown dX2_tell_41 ?_
    refine lv_iload hx hb dX2_tell_44 (lv_at hl 0 rfl) ?_
    obtain ⟨g2, hm⟩ := gb_some hm
    refine ld_33 hx hb hK hI g2 (v := σ 33 (ix ((p0 * 22) + p1))) rfl dX2_tell_46 ?_
    exact hR _ _ _ _ _ _ hm hI dX2_tell_47
  have hm := (if_neg c1).symm.trans hm
  by_cases c3 : p2 = 1
  · have hm := (if_pos c3).symm.trans hm
    refine lv_tableIn (off := 39) (tgt := 48) hx hb dX2_tell_9 (by (rw [c3]; decide)) (by (rw [c3]; decide)) (by (rw [c3]; rfl)) (by decide) ?_
    refine lv_aload_n hx hb dX2_tell_48 rfl (lv_at hl 1 rfl) ?_
    refine gf_32_1 hx hb ht hK hI mw_101 (fun _ h9 => h9) hown dX2_tell_49 ?_
    refine lv_iload hx hb dX2_tell_52 (lv_at hl 0 rfl) ?_
    obtain ⟨g4, hm⟩ := gb_some hm
    refine ld_34 hx hb hK hI g4 (v := σ 34 (ix ((p0 * 22) + p1))) rfl dX2_tell_54 ?_
    exact hR _ _ _ _ _ _ hm hI dX2_tell_55
  have hm := (if_neg c3).symm.trans hm
  by_cases c5 : p2 = 2
  · have hm := (if_pos c5).symm.trans hm
    refine lv_tableIn (off := 47) (tgt := 56) hx hb dX2_tell_9 (by (rw [c5]; decide)) (by (rw [c5]; decide)) (by (rw [c5]; rfl)) (by decide) ?_
    refine lv_aload_n hx hb dX2_tell_56 rfl (lv_at hl 1 rfl) ?_
    refine gf_32_2 hx hb ht hK hI mw_102 (fun _ h9 => h9) hown dX2_tell_57 ?_
    refine lv_iload hx hb dX2_tell_60 (lv_at hl 0 rfl) ?_
    obtain ⟨g6, hm⟩ := gb_some hm
    refine ld_35 hx hb hK hI g6 (v := σ 35 (ix ((p0 * 22) + p1))) rfl dX2_tell_62 ?_
    exact hR _ _ _ _ _ _ hm hI dX2_tell_63
  have hm := (if_neg c5).symm.trans hm
  by_cases c7 : p2 = 3
  · have hm := (if_pos c7).symm.trans hm
    refine lv_tableIn (off := 55) (tgt := 64) hx hb dX2_tell_9 (by (rw [c7]; decide)) (by (rw [c7]; decide)) (by (rw [c7]; rfl)) (by decide) ?_
    refine lv_aload_n hx hb dX2_tell_64 rfl (lv_at hl 1 rfl) ?_
    refine gf_32_3 hx hb ht hK hI mw_103 (fun _ h9 => h9) hown dX2_tell_65 ?_
    refine lv_iload hx hb dX2_tell_68 (lv_at hl 0 rfl) ?_
    obtain ⟨g8, hm⟩ := gb_some hm
    refine ld_36 hx hb hK hI g8 (v := σ 36 (ix ((p0 * 22) + p1))) rfl dX2_tell_70 ?_
    exact hR _ _ _ _ _ _ hm hI dX2_tell_71
  have hm := (if_neg c7).symm.trans hm
  refine sw_d (tgt := 72) hx hb [0, 1, 2, 3] dX2_tell_9 (by decide) (by decide) (ne_c (lv_neT c1 (by decide)) (ne_c (lv_neT c3 (by decide)) (ne_c (lv_neT c5 (by decide)) (ne_c (lv_neT c7 (by decide)) ne_n)))) (by decide) ?_
  refine lv_iconst (v := (-1)) hx hb dX2_tell_72 (by decide) ?_
  exact hR _ _ _ _ _ _ hm hI dX2_tell_73
def f_X11_value (N n : Nat) (σ : Sg) (p0 : Int32) (p1 : Int32) (p2 : Int32) : Option (Int32 × Sg) := bd (f_X11_isTurned N n σ p0) (fun r1 σ2 => if r1 = 0 then (some ((-1), σ2)) else (if p1 < 0 then (some ((-1), σ2)) else (gb p0 12 (if p1 < ((σ2 3 (ix p0)) + 12) then (bd (f_X2_tell N n σ2 p0 p1 p2) (fun r8 σ9 => some (r8, σ9))) else (some ((-1), σ2))))))
set_option maxHeartbeats 4000000 in
set_option maxRecDepth 100000 in
theorem c_X11_value {l : Launch} {g : GG} {q : Nat} (N n : Nat) {σ : Sg} {p0 : Int32} {p1 : Int32} {p2 : Int32} {r : Int32} {σ' : Sg} (hm : f_X11_value N n σ p0 p1 p2 = some (r, σ')) : CTi l yX11_value cX11_value 4 (some .int) 2 42 g q n [.ref (ga g 0), .int p0, .int p1, .int p2] σ r σ' := by
  refine e_i (r := r) (by decide) (Nat.le_of_ble_eq_true rfl) ?_
  intro p e s m args below meth c A Q ls hC hl hI
  obtain ⟨hX, hK, hN, hZ, hA, hR⟩ := id hC
  have hx : p.tables.exec = Jvm.exec := hX.1
  have hb : c.code = cX11_value := hX.2.1
  have hml : c.maxLocals = 4 := hX.2.2.1
  have hown : s.vm.findClass RX11 = some m.cls := hX.2.2.2.1
  have ht : ∀ w ∈ BIG, w.before args s = true := hX.2.2.2.2
  have hl : lv_has ls 4 [(0, .ref (ga g 0)), (1, .int p0), (2, .int p1), (3, .int p2)] := hl
  unfold f_X11_value at hm
  refine lv_aload_n hx hb dX11_value_0 rfl (lv_at hl 0 rfl) ?_
  refine lv_iload_n hx hb dX11_value_1 rfl (lv_at hl 1 rfl) ?_
  obtain ⟨r1, σ2, h3, hm⟩ := bd_some hm
  refine k_i hI hA (va_runV (As := [.int p0]) (rest := []) hX (c_X11_isTurned N n h3 _) (cwV 1 ht (in_V mw_717 mw_718 mw_719 mw_267 mw_713) rfl rfl rfl pd_X11_isTurned ⟨Nat.le_of_ble_eq_true rfl, Nat.le_of_ble_eq_true rfl⟩) ⟨q_blind, va_recv hK hI.1 (ci := 10) (q0 := 0) rfl rfl, q_to hI hK hN hZ hA⟩ rfl rfl hl.1 rfl (lv_room (Nat.le_of_ble_eq_true rfl)) dX11_value_2 (by decide)) (fun H locs hI => ?_)
  refine lv_if_eq (tgt := 28) hx hb dX11_value_5 (by decide) (fun c4 => ?_) (fun c4 => ?_)
  · have hm := (if_pos c4).symm.trans hm
    refine lv_iconst (v := (-1)) hx hb dX11_value_28 (by decide) ?_
    exact hR _ _ _ _ _ _ hm hI dX11_value_29
  · have hm := (if_neg c4).symm.trans hm
    refine lv_iload_n hx hb dX11_value_8 rfl (lv_at hl 2 rfl) ?_
    refine lv_if_lt (tgt := 28) hx hb dX11_value_9 (by decide) (fun c5 => ?_) (fun c5 => ?_)
    · have hm := (if_pos c5).symm.trans hm
      refine lv_iconst (v := (-1)) hx hb dX11_value_28 (by decide) ?_
      exact hR _ _ _ _ _ _ hm hI dX11_value_29
    · have hm := (if_neg c5).symm.trans hm
      refine lv_iload_n hx hb dX11_value_12 rfl (lv_at hl 2 rfl) ?_
      refine lv_aload_n hx hb dX11_value_13 rfl (lv_at hl 0 rfl) ?_
      refine gf_0_0 hx hb ht hK hI mw_640 (fun _ h9 => h9) hown dX11_value_14 ?_
      refine gf_1_1 hx hb ht hK hI mw_723 (fun _ h9 => h9) hown dX11_value_17 ?_
      refine lv_iload_n hx hb dX11_value_20 rfl (lv_at hl 1 rfl) ?_
      obtain ⟨g6, hm⟩ := gb_some hm
      refine ld_3 hx hb hK hI g6 (v := σ2 3 (ix p0)) rfl dX11_value_21 ?_
      refine lv_bipush (v := 12) hx hb dX11_value_22 (by decide) ?_
      refine lv_iadd hx hb dX11_value_24 ?_
      refine lv_icmp_lt (tgt := 30) hx hb dX11_value_25 (by decide) (fun c7 => ?_) (fun c7 => ?_)
      · have hm := (if_pos c7).symm.trans hm
        refine lv_aload_n hx hb dX11_value_30 rfl (lv_at hl 0 rfl) ?_
        refine gf_0_2 hx hb ht hK hI mw_646 (fun _ h9 => h9) hown dX11_value_31 ?_
        refine gf_11_3 hx hb ht hK hI mw_724 (fun _ h9 => h9) hown dX11_value_34 ?_
        refine lv_iload_n hx hb dX11_value_37 rfl (lv_at hl 1 rfl) ?_
        refine lv_iload_n hx hb dX11_value_38 rfl (lv_at hl 2 rfl) ?_
        refine lv_iload_n hx hb dX11_value_39 rfl (lv_at hl 3 rfl) ?_
        obtain ⟨r8, σ9, h10, hm⟩ := bd_some hm
        refine k_i hI hA (va_runV (As := [.int p0, .int p1, .int p2]) (rest := []) hX (c_X2_tell N n h10 _) (cwV 3 ht (in_V mw_725 mw_726 mw_727 mw_146 mw_114) rfl rfl rfl pd_X2_tell ⟨Nat.le_of_ble_eq_true rfl, Nat.le_of_ble_eq_true rfl⟩) ⟨q_blind, va_recv hK hI.1 (ci := 2) (q0 := 32) rfl rfl, q_to hI hK hN hZ hA⟩ rfl rfl hl.1 rfl (lv_room (Nat.le_of_ble_eq_true rfl)) dX11_value_40 (by decide)) (fun H locs hI => ?_)
        exact hR _ _ _ _ _ _ hm hI dX11_value_43
      · have hm := (if_neg c7).symm.trans hm
        refine lv_iconst (v := (-1)) hx hb dX11_value_28 (by decide) ?_
        exact hR _ _ _ _ _ _ hm hI dX11_value_29
def f_X6_addWord (N n : Nat) (σ : Sg) (p0 : Int32) (p1 : Int32) : Option (Int32 × Sg) := gb (σ 1 8) 300 (gb (σ 1 8) 300 (gb ((σ 1 7) - 1) 12 (gb ((σ 1 7) - 1) 12 (gb ((σ 1 7) - 1) 12 (some (((σ 5 (ix ((σ 1 7) - 1))) + 1) - 1, sg (sg (sg (sg σ 6 (ix (σ 1 8)) p0) 7 (ix (σ 1 8)) p1) 1 8 ((σ 1 8) + 1)) 5 (ix ((σ 1 7) - 1)) ((σ 5 (ix ((σ 1 7) - 1))) + 1)))))))
set_option maxHeartbeats 4000000 in
set_option maxRecDepth 100000 in
theorem c_X6_addWord {l : Launch} {g : GG} {q : Nat} (N n : Nat) {σ : Sg} {p0 : Int32} {p1 : Int32} {r : Int32} {σ' : Sg} (hm : f_X6_addWord N n σ p0 p1 = some (r, σ')) : CTi l yX6_addWord cX6_addWord 4 (some .int) 0 0 g q n [.ref (ga g 1), .int p0, .int p1] σ r σ' := by
  refine e_i (r := r) (by decide) (Nat.le_of_ble_eq_true rfl) ?_
  intro p e s m args below meth c A Q ls hC hl hI
  obtain ⟨hX, hK, hN, hZ, hA, hR⟩ := id hC
  have hx : p.tables.exec = Jvm.exec := hX.1
  have hb : c.code = cX6_addWord := hX.2.1
  have hml : c.maxLocals = 4 := hX.2.2.1
  have hown : s.vm.findClass RX6 = some m.cls := hX.2.2.2.1
  have ht : ∀ w ∈ BIG, w.before args s = true := hX.2.2.2.2
  have hl : lv_has ls 4 [(0, .ref (ga g 1)), (1, .int p0), (2, .int p1)] := hl
  unfold f_X6_addWord at hm
  refine lv_aload_n hx hb dX6_addWord_0 rfl (lv_at hl 0 rfl) ?_
  refine gf_1_7 hx hb ht hK hI (v := σ 1 7) rfl mw_24 (fun _ h9 => h9) hown dX6_addWord_1 ?_
  refine lv_iconst (v := 1) hx hb dX6_addWord_4 (by decide) ?_
  refine lv_isub hx hb dX6_addWord_5 ?_
  refine lv_istore_n (lv' := [(3, .int ((σ 1 7) - 1)), (0, .ref (ga g 1)), (1, .int p0), (2, .int p1)]) hx hb dX6_addWord_6 rfl hl (by decide) rfl (fun ls hl => ?_)
  refine lv_aload_n hx hb dX6_addWord_7 rfl (lv_at hl 1 rfl) ?_
  refine gf_1_4 hx hb ht hK hI mw_455 (fun _ h9 => h9) hown dX6_addWord_8 ?_
  refine lv_aload_n hx hb dX6_addWord_11 rfl (lv_at hl 1 rfl) ?_
  refine gf_1_8 hx hb ht hK hI (v := σ 1 8) rfl mw_459 (fun _ h9 => h9) hown dX6_addWord_12 ?_
  refine lv_iload_n hx hb dX6_addWord_15 rfl (lv_at hl 2 rfl) ?_
  obtain ⟨g1, hm⟩ := gb_some hm
  refine sv_6 hx hb hK hI g1 dX6_addWord_16 (fun H locs hI => ?_)
  refine lv_aload_n hx hb dX6_addWord_17 rfl (lv_at hl 1 rfl) ?_
  refine gf_1_5 hx hb ht hK hI mw_456 (fun _ h9 => h9) hown dX6_addWord_18 ?_
  refine lv_aload_n hx hb dX6_addWord_21 rfl (lv_at hl 1 rfl) ?_
  refine gf_1_8 hx hb ht hK hI (v := σ 1 8) rfl mw_459 (fun _ h9 => h9) hown dX6_addWord_22 ?_
  refine lv_iload_n hx hb dX6_addWord_25 rfl (lv_at hl 3 rfl) ?_
  obtain ⟨g2, hm⟩ := gb_some hm
  refine sv_7 hx hb hK hI g2 dX6_addWord_26 (fun H locs hI => ?_)
  refine lv_aload_n hx hb dX6_addWord_27 rfl (lv_at hl 1 rfl) ?_
  refine lv_dup hx hb dX6_addWord_28 rfl ?_
  refine gf_1_8 hx hb ht hK hI (v := σ 1 8) rfl mw_459 (fun _ h9 => h9) hown dX6_addWord_29 ?_
  refine lv_iconst (v := 1) hx hb dX6_addWord_32 (by decide) ?_
  refine lv_iadd hx hb dX6_addWord_33 ?_
  refine pf_1_8 hx hb ht hK hI mw_459 (fun _ h9 => h9) hown dX6_addWord_34 (fun H locs hI => ?_)
  refine lv_aload_n hx hb dX6_addWord_37 rfl (lv_at hl 1 rfl) ?_
  refine gf_1_3 hx hb ht hK hI mw_454 (fun _ h9 => h9) hown dX6_addWord_38 ?_
  refine lv_iload_n hx hb dX6_addWord_41 rfl (lv_at hl 0 rfl) ?_
  refine lv_dup2_11 hx hb dX6_addWord_42 rfl rfl ?_
  obtain ⟨g3, hm⟩ := gb_some hm
  refine ld_5 hx hb hK hI g3 (v := σ 5 (ix ((σ 1 7) - 1))) rfl dX6_addWord_43 ?_
  refine lv_iconst (v := 1) hx hb dX6_addWord_44 (by decide) ?_
  refine lv_iadd hx hb dX6_addWord_45 ?_
  obtain ⟨g4, hm⟩ := gb_some hm
  refine sv_5 hx hb hK hI g4 dX6_addWord_46 (fun H locs hI => ?_)
  refine lv_aload_n hx hb dX6_addWord_47 rfl (lv_at hl 1 rfl) ?_
  refine gf_1_3 hx hb ht hK hI mw_454 (fun _ h9 => h9) hown dX6_addWord_48 ?_
  refine lv_iload_n hx hb dX6_addWord_51 rfl (lv_at hl 0 rfl) ?_
  obtain ⟨g5, hm⟩ := gb_some hm
  refine ld_5 hx hb hK hI g5 (v := (σ 5 (ix ((σ 1 7) - 1))) + 1) (show upd (σ 5) (ix ((σ 1 7) - 1)) ((σ 5 (ix ((σ 1 7) - 1))) + 1) (ix ((σ 1 7) - 1)) = (σ 5 (ix ((σ 1 7) - 1))) + 1 from up_same _ _ _) dX6_addWord_52 ?_
  refine lv_iconst (v := 1) hx hb dX6_addWord_53 (by decide) ?_
  refine lv_isub hx hb dX6_addWord_54 ?_
  exact hR _ _ _ _ _ _ hm hI dX6_addWord_55
def f_X11_word (N n : Nat) (σ : Sg) (p0 : Int32) (p1 : Int32) : Option (Int32 × Sg) := if (σ 1 7) = 0 then (some ((-1), σ)) else (if (σ 1 9) = 0 then (if (σ 1 8) < 300 then (bd (f_X6_addWord N n σ p0 p1) (fun r4 σ5 => some (r4, σ5))) else (some ((-1), σ))) else (some ((-1), σ)))
set_option maxHeartbeats 4000000 in
set_option maxRecDepth 100000 in
theorem c_X11_word {l : Launch} {g : GG} {q : Nat} (N n : Nat) {σ : Sg} {p0 : Int32} {p1 : Int32} {r : Int32} {σ' : Sg} (hm : f_X11_word N n σ p0 p1 = some (r, σ')) : CTi l yX11_word cX11_word 3 (some .int) 1 23 g q n [.ref (ga g 0), .int p0, .int p1] σ r σ' := by
  refine e_i (r := r) (by decide) (Nat.le_of_ble_eq_true rfl) ?_
  intro p e s m args below meth c A Q ls hC hl hI
  obtain ⟨hX, hK, hN, hZ, hA, hR⟩ := id hC
  have hx : p.tables.exec = Jvm.exec := hX.1
  have hb : c.code = cX11_word := hX.2.1
  have hml : c.maxLocals = 3 := hX.2.2.1
  have hown : s.vm.findClass RX11 = some m.cls := hX.2.2.2.1
  have ht : ∀ w ∈ BIG, w.before args s = true := hX.2.2.2.2
  have hl : lv_has ls 3 [(0, .ref (ga g 0)), (1, .int p0), (2, .int p1)] := hl
  unfold f_X11_word at hm
  refine lv_aload_n hx hb dX11_word_0 rfl (lv_at hl 0 rfl) ?_
  refine gf_0_0 hx hb ht hK hI mw_640 (fun _ h9 => h9) hown dX11_word_1 ?_
  refine gf_1_7 hx hb ht hK hI (v := σ 1 7) rfl mw_671 (fun _ h9 => h9) hown dX11_word_4 ?_
  refine lv_if_eq (tgt := 33) hx hb dX11_word_7 (by decide) (fun c1 => ?_) (fun c1 => ?_)
  · have hm := (if_pos c1).symm.trans hm
    refine lv_iconst (v := (-1)) hx hb dX11_word_33 (by decide) ?_
    exact hR _ _ _ _ _ _ hm hI dX11_word_34
  · have hm := (if_neg c1).symm.trans hm
    refine lv_aload_n hx hb dX11_word_10 rfl (lv_at hl 0 rfl) ?_
    refine gf_0_0 hx hb ht hK hI mw_640 (fun _ h9 => h9) hown dX11_word_11 ?_
    refine gf_1_9 hx hb ht hK hI (v := σ 1 9) rfl mw_670 (fun _ h9 => h9) hown dX11_word_14 ?_
    refine lv_if_ne (tgt := 33) hx hb dX11_word_17 (by decide) (fun c2 => ?_) (fun c2 => ?_)
    · have hm := (if_neg c2).symm.trans hm
      refine lv_iconst (v := (-1)) hx hb dX11_word_33 (by decide) ?_
      exact hR _ _ _ _ _ _ hm hI dX11_word_34
    · have hm := (if_pos c2).symm.trans hm
      refine lv_aload_n hx hb dX11_word_20 rfl (lv_at hl 0 rfl) ?_
      refine gf_0_0 hx hb ht hK hI mw_640 (fun _ h9 => h9) hown dX11_word_21 ?_
      refine gf_1_8 hx hb ht hK hI (v := σ 1 8) rfl mw_676 (fun _ h9 => h9) hown dX11_word_24 ?_
      refine lv_sipush (v := 300) hx hb dX11_word_27 (by decide) ?_
      refine lv_icmp_lt (tgt := 35) hx hb dX11_word_30 (by decide) (fun c3 => ?_) (fun c3 => ?_)
      · have hm := (if_pos c3).symm.trans hm
        refine lv_aload_n hx hb dX11_word_35 rfl (lv_at hl 0 rfl) ?_
        refine gf_0_0 hx hb ht hK hI mw_640 (fun _ h9 => h9) hown dX11_word_36 ?_
        refine lv_iload_n hx hb dX11_word_39 rfl (lv_at hl 1 rfl) ?_
        refine lv_iload_n hx hb dX11_word_40 rfl (lv_at hl 2 rfl) ?_
        obtain ⟨r4, σ5, h6, hm⟩ := bd_some hm
        refine k_i hI hA (va_runV (As := [.int p0, .int p1]) (rest := []) hX (c_X6_addWord N n h6 _) (cwV 2 ht (in_V mw_677 mw_678 mw_679 mw_31 mw_460) rfl rfl rfl pd_X6_addWord ⟨Nat.le_of_ble_eq_true rfl, Nat.le_of_ble_eq_true rfl⟩) ⟨q_blind, va_recv hK hI.1 (ci := 5) (q0 := 1) rfl rfl, q_to hI hK hN hZ hA⟩ rfl rfl hl.1 rfl (lv_room (Nat.le_of_ble_eq_true rfl)) dX11_word_41 (by decide)) (fun H locs hI => ?_)
        exact hR _ _ _ _ _ _ hm hI dX11_word_44
      · have hm := (if_neg c3).symm.trans hm
        refine lv_iconst (v := (-1)) hx hb dX11_word_33 (by decide) ?_
        exact hR _ _ _ _ _ _ hm hI dX11_word_34
def lb_X12_begin_2 (N n : Nat)  (K55 : (Sg → Int32 → Option (Int32 × Sg))) (rec : (Sg → Int32 → Option (Int32 × Sg))) (σ : Sg) (v1 : Int32) : Option (Int32 × Sg) := if 2 ≤ v1 then (K55 σ v1) else (gb v1 2 (gb v1 2 (gb v1 2 (gb v1 2 (gb v1 2 (gb v1 2 (rec (sg (sg (sg (sg (sg (sg σ 89 (ix v1) 0) 90 (ix v1) 0) 91 (ix v1) 0) 92 (ix v1) 0) 93 (ix v1) 0) 101 (ix v1) 0) (v1 + 1))))))))
def lf_X12_begin_2 (N n : Nat)  (K55 : (Sg → Int32 → Option (Int32 × Sg))) : Nat → (Sg → Int32 → Option (Int32 × Sg))
  | 0 => fun _ _ => none
  | k + 1 => lb_X12_begin_2 N n  K55 (lf_X12_begin_2 N n  K55 k)
def lb_X12_begin_57 (N n : Nat)  (K76 : (Sg → Int32 → Option (Int32 × Sg))) (rec : (Sg → Int32 → Option (Int32 × Sg))) (σ : Sg) (v1 : Int32) : Option (Int32 × Sg) := if 12 ≤ v1 then (K76 σ v1) else (gb v1 12 (rec (sg σ 100 (ix v1) 0) (v1 + 1)))
def lf_X12_begin_57 (N n : Nat)  (K76 : (Sg → Int32 → Option (Int32 × Sg))) : Nat → (Sg → Int32 → Option (Int32 × Sg))
  | 0 => fun _ _ => none
  | k + 1 => lb_X12_begin_57 N n  K76 (lf_X12_begin_57 N n  K76 k)
def f_X12_begin (N n : Nat) (σ : Sg)  : Option (Int32 × Sg) := lf_X12_begin_2 N n  (fun σ8 w9 => lf_X12_begin_57 N n  (fun σ12 w13 => some (0, σ12)) N σ8 0) N σ 0
set_option maxHeartbeats 4000000 in
set_option maxRecDepth 100000 in
theorem lp_X12_begin_2 {p : Program} {l : Launch} {e : Env} {s : State} {m : MethodId} {args : Array Value} {below : List Frame} {meth : Method} {c : Code} {Q : State → Prop} {A : Nat → Prop} {g : GG} {q N n : Nat} {out : Int32 × Sg}  {K55 : (Sg → Int32 → Option (Int32 × Sg))}
    (hC : CXv p l e (qR 0 0) s m args below meth c cX12_begin 2 RX12 g q n A Q (some out)) :
    ∀ (k : Nat) (σ : Sg) (v1 : Int32) (H : Heap) (locs : List Loc) (ls : Array Slot), lf_X12_begin_2 N n  K55 k σ v1 = some out → wI g q n σ A s.heap H locs → lv_has ls 2 [(0, .ref (ga g 59)), (1, .int v1)] → (∀ (σ : Sg) (v1 : Int32) (H : Heap) (locs : List Loc) (ls : Array Slot), K55 σ v1 = some out → wI g q n σ A s.heap H locs → lv_has ls 2 [(0, .ref (ga g 59))] → W p l e (qR 0 0) s m args below meth c H locs 0 0 Q (F0 m 55 ls [])) → W p l e (qR 0 0) s m args below meth c H locs 0 0 Q (F0 m 2 ls []) := by
  obtain ⟨hX, hK, hN, hZ, hA, hR⟩ := id hC
  have hx : p.tables.exec = Jvm.exec := hX.1
  have hb : c.code = cX12_begin := hX.2.1
  have hml : c.maxLocals = 2 := hX.2.2.1
  have hown : s.vm.findClass RX12 = some m.cls := hX.2.2.2.1
  have ht : ∀ w ∈ BIG, w.before args s = true := hX.2.2.2.2
  intro k
  induction k with
  | zero =>
    intro σ v1 H locs ls hm
    have hm : none = some out := hm
    exact nomatch hm
  | succ k ih =>
    intro σ v1 H locs ls hm hI hl hx55
    have hm : lb_X12_begin_2 N n  K55 (lf_X12_begin_2 N n  K55 k) σ v1 = some out := hm
    unfold lb_X12_begin_2 at hm
    refine lv_iload_n hx hb dX12_begin_2 rfl (lv_at hl 1 rfl) ?_
    refine lv_iconst (v := 2) hx hb dX12_begin_3 (by decide) ?_
    refine lv_icmp_ge (tgt := 55) hx hb dX12_begin_4 (by decide) (fun c1 => ?_) (fun c1 => ?_)
    · have hm := (if_pos c1).symm.trans hm
      exact hx55 σ v1 _ _ _ hm hI (lv_sub hl [0] rfl)
    · have hm := (if_neg c1).symm.trans hm
      refine lv_aload_n hx hb dX12_begin_7 rfl (lv_at hl 0 rfl) ?_
      refine gf_59_39 hx hb ht hK hI mw_784 (fun _ h9 => h9) hown dX12_begin_8 ?_
      refine lv_iload_n hx hb dX12_begin_11 rfl (lv_at hl 1 rfl) ?_
      refine lv_iconst (v := 0) hx hb dX12_begin_12 (by decide) ?_
      obtain ⟨g2, hm⟩ := gb_some hm
      refine sv_89 hx hb hK hI g2 dX12_begin_13 (fun H locs hI => ?_)
      refine lv_aload_n hx hb dX12_begin_14 rfl (lv_at hl 0 rfl) ?_
      refine gf_59_40 hx hb ht hK hI mw_785 (fun _ h9 => h9) hown dX12_begin_15 ?_
      refine lv_iload_n hx hb dX12_begin_18 rfl (lv_at hl 1 rfl) ?_
      refine lv_iconst (v := 0) hx hb dX12_begin_19 (by decide) ?_
      obtain ⟨g3, hm⟩ := gb_some hm
      refine sv_90 hx hb hK hI g3 dX12_begin_20 (fun H locs hI => ?_)
      refine lv_aload_n hx hb dX12_begin_21 rfl (lv_at hl 0 rfl) ?_
      refine gf_59_41 hx hb ht hK hI mw_786 (fun _ h9 => h9) hown dX12_begin_22 ?_
      refine lv_iload_n hx hb dX12_begin_25 rfl (lv_at hl 1 rfl) ?_
      refine lv_iconst (v := 0) hx hb dX12_begin_26 (by decide) ?_
      obtain ⟨g4, hm⟩ := gb_some hm
      refine sv_91 hx hb hK hI g4 dX12_begin_27 (fun H locs hI => ?_)
      refine lv_aload_n hx hb dX12_begin_28 rfl (lv_at hl 0 rfl) ?_
      refine gf_59_42 hx hb ht hK hI mw_787 (fun _ h9 => h9) hown dX12_begin_29 ?_
      refine lv_iload_n hx hb dX12_begin_32 rfl (lv_at hl 1 rfl) ?_
      refine lv_iconst (v := 0) hx hb dX12_begin_33 (by decide) ?_
      obtain ⟨g5, hm⟩ := gb_some hm
      refine sv_92 hx hb hK hI g5 dX12_begin_34 (fun H locs hI => ?_)
      refine lv_aload_n hx hb dX12_begin_35 rfl (lv_at hl 0 rfl) ?_
      refine gf_59_43 hx hb ht hK hI mw_788 (fun _ h9 => h9) hown dX12_begin_36 ?_
      refine lv_iload_n hx hb dX12_begin_39 rfl (lv_at hl 1 rfl) ?_
      refine lv_iconst (v := 0) hx hb dX12_begin_40 (by decide) ?_
      obtain ⟨g6, hm⟩ := gb_some hm
      refine sv_93 hx hb hK hI g6 dX12_begin_41 (fun H locs hI => ?_)
      refine lv_aload_n hx hb dX12_begin_42 rfl (lv_at hl 0 rfl) ?_
      refine gf_59_51 hx hb ht hK hI mw_796 (fun _ h9 => h9) hown dX12_begin_43 ?_
      refine lv_iload_n hx hb dX12_begin_46 rfl (lv_at hl 1 rfl) ?_
      refine lv_iconst (v := 0) hx hb dX12_begin_47 (by decide) ?_
      obtain ⟨g7, hm⟩ := gb_some hm
      refine sv_101 hx hb hK hI g7 dX12_begin_48 (fun H locs hI => ?_)
      refine lv_iinc (v := v1 + 1) (lv' := [(1, .int (v1 + 1)), (0, .ref (ga g 59))]) hx hb dX12_begin_49 hl (k := 1) rfl (congrArg (fun z => v1 + z) (show Int32.ofInt 1 = 1 by decide)) (by decide) rfl (fun ls hl => ?_)
      refine lv_goto (tgt := 2) hx hb dX12_begin_52 (by decide) ?_
      exact ih (sg (sg (sg (sg (sg (sg σ 89 (ix v1) 0) 90 (ix v1) 0) 91 (ix v1) 0) 92 (ix v1) 0) 93 (ix v1) 0) 101 (ix v1) 0) (v1 + 1) _ _ _ hm hI (lv_sub hl [1, 0] rfl) hx55
set_option maxHeartbeats 4000000 in
set_option maxRecDepth 100000 in
theorem lp_X12_begin_57 {p : Program} {l : Launch} {e : Env} {s : State} {m : MethodId} {args : Array Value} {below : List Frame} {meth : Method} {c : Code} {Q : State → Prop} {A : Nat → Prop} {g : GG} {q N n : Nat} {out : Int32 × Sg}  {K76 : (Sg → Int32 → Option (Int32 × Sg))}
    (hC : CXv p l e (qR 0 0) s m args below meth c cX12_begin 2 RX12 g q n A Q (some out)) :
    ∀ (k : Nat) (σ : Sg) (v1 : Int32) (H : Heap) (locs : List Loc) (ls : Array Slot), lf_X12_begin_57 N n  K76 k σ v1 = some out → wI g q n σ A s.heap H locs → lv_has ls 2 [(0, .ref (ga g 59)), (1, .int v1)] → (∀ (σ : Sg) (v1 : Int32) (H : Heap) (locs : List Loc) (ls : Array Slot), K76 σ v1 = some out → wI g q n σ A s.heap H locs → lv_has ls 2 [] → W p l e (qR 0 0) s m args below meth c H locs 0 0 Q (F0 m 76 ls [])) → W p l e (qR 0 0) s m args below meth c H locs 0 0 Q (F0 m 57 ls []) := by
  obtain ⟨hX, hK, hN, hZ, hA, hR⟩ := id hC
  have hx : p.tables.exec = Jvm.exec := hX.1
  have hb : c.code = cX12_begin := hX.2.1
  have hml : c.maxLocals = 2 := hX.2.2.1
  have hown : s.vm.findClass RX12 = some m.cls := hX.2.2.2.1
  have ht : ∀ w ∈ BIG, w.before args s = true := hX.2.2.2.2
  intro k
  induction k with
  | zero =>
    intro σ v1 H locs ls hm
    have hm : none = some out := hm
    exact nomatch hm
  | succ k ih =>
    intro σ v1 H locs ls hm hI hl hx76
    have hm : lb_X12_begin_57 N n  K76 (lf_X12_begin_57 N n  K76 k) σ v1 = some out := hm
    unfold lb_X12_begin_57 at hm
    refine lv_iload_n hx hb dX12_begin_57 rfl (lv_at hl 1 rfl) ?_
    refine lv_bipush (v := 12) hx hb dX12_begin_58 (by decide) ?_
    refine lv_icmp_ge (tgt := 76) hx hb dX12_begin_60 (by decide) (fun c10 => ?_) (fun c10 => ?_)
    · have hm := (if_pos c10).symm.trans hm
      exact hx76 σ v1 _ _ _ hm hI (lv_sub hl [] rfl)
    · have hm := (if_neg c10).symm.trans hm
      refine lv_aload_n hx hb dX12_begin_63 rfl (lv_at hl 0 rfl) ?_
      refine gf_59_50 hx hb ht hK hI mw_795 (fun _ h9 => h9) hown dX12_begin_64 ?_
      refine lv_iload_n hx hb dX12_begin_67 rfl (lv_at hl 1 rfl) ?_
      refine lv_iconst (v := 0) hx hb dX12_begin_68 (by decide) ?_
      obtain ⟨g11, hm⟩ := gb_some hm
      refine sv_100 hx hb hK hI g11 dX12_begin_69 (fun H locs hI => ?_)
      refine lv_iinc (v := v1 + 1) (lv' := [(1, .int (v1 + 1)), (0, .ref (ga g 59))]) hx hb dX12_begin_70 hl (k := 1) rfl (congrArg (fun z => v1 + z) (show Int32.ofInt 1 = 1 by decide)) (by decide) rfl (fun ls hl => ?_)
      refine lv_goto (tgt := 57) hx hb dX12_begin_73 (by decide) ?_
      exact ih (sg σ 100 (ix v1) 0) (v1 + 1) _ _ _ hm hI (lv_sub hl [1, 0] rfl) hx76
set_option maxHeartbeats 4000000 in
set_option maxRecDepth 100000 in
theorem c_X12_begin {l : Launch} {g : GG} {q : Nat} (N n : Nat) {σ : Sg}  {r : Int32} {σ' : Sg} (hm : f_X12_begin N n σ  = some (r, σ')) : CTv l yX12_begin cX12_begin 2 none 0 0 g q n [.ref (ga g 59)] σ σ' := by
  refine e_v (r := r) (by decide) (Nat.le_of_ble_eq_true rfl) ?_
  intro p e s m args below meth c A Q ls hC hl hI
  obtain ⟨hX, hK, hN, hZ, hA, hR⟩ := id hC
  have hx : p.tables.exec = Jvm.exec := hX.1
  have hb : c.code = cX12_begin := hX.2.1
  have hml : c.maxLocals = 2 := hX.2.2.1
  have hown : s.vm.findClass RX12 = some m.cls := hX.2.2.2.1
  have ht : ∀ w ∈ BIG, w.before args s = true := hX.2.2.2.2
  have hl : lv_has ls 2 [(0, .ref (ga g 59))] := hl
  unfold f_X12_begin at hm
  refine lv_iconst (v := 0) hx hb dX12_begin_0 (by decide) ?_
  refine lv_istore_n (lv' := [(1, .int 0), (0, .ref (ga g 59))]) hx hb dX12_begin_1 rfl hl (by decide) rfl (fun ls hl => ?_)
  refine lp_X12_begin_2 hC N _ _ _ _ _ hm hI (lv_sub hl [1, 0] rfl) ?_
  intro σ8 w9 H locs ls hm hI hl
  refine lv_iconst (v := 0) hx hb dX12_begin_55 (by decide) ?_
  refine lv_istore_n (lv' := [(1, .int 0), (0, .ref (ga g 59))]) hx hb dX12_begin_56 rfl hl (by decide) rfl (fun ls hl => ?_)
  refine lp_X12_begin_57 hC N _ _ _ _ _ hm hI (lv_sub hl [1, 0] rfl) ?_
  intro σ12 w13 H locs ls hm hI hl
  exact hR _ _ _ _ _ hm hI dX12_begin_76
def f_X12_again (N n : Nat) (σ : Sg)  : Option (Int32 × Sg) := if (σ 59 10) = 0 then (g01 (σ 59 10) (some (σ 59 10, sg σ 59 0 0))) else (bd (f_X12_begin N n (sg σ 59 0 0) ) (fun r3 σ4 => g01 (σ4 59 10) (some (σ4 59 10, σ4))))
set_option maxHeartbeats 4000000 in
set_option maxRecDepth 100000 in
theorem c_X12_again {l : Launch} {g : GG} {q : Nat} (N n : Nat) {σ : Sg}  {r : Int32} {σ' : Sg} (hm : f_X12_again N n σ  = some (r, σ')) : CTi l yX12_again cX12_again 1 (some .boolean) 1 21 g q n [.ref (ga g 59)] σ r σ' := by
  refine e_z (r := r) (by decide) (Nat.le_of_ble_eq_true rfl) ?_
  intro p e s m args below meth c A Q ls hC hl hI
  obtain ⟨hX, hK, hN, hZ, hA, hR⟩ := id hC
  have hx : p.tables.exec = Jvm.exec := hX.1
  have hb : c.code = cX12_again := hX.2.1
  have hml : c.maxLocals = 1 := hX.2.2.1
  have hown : s.vm.findClass RX12 = some m.cls := hX.2.2.2.1
  have ht : ∀ w ∈ BIG, w.before args s = true := hX.2.2.2.2
  have hl : lv_has ls 1 [(0, .ref (ga g 59))] := hl
  unfold f_X12_again at hm
  refine lv_aload_n hx hb dX12_again_0 rfl (lv_at hl 0 rfl) ?_
  refine lv_iconst (v := 0) hx hb dX12_again_1 (by decide) ?_
  refine pf_59_0 hx hb ht hK hI mw_851 (fun _ h9 => h9) hown dX12_again_2 (fun H locs hI => ?_)
  refine lv_aload_n hx hb dX12_again_5 rfl (lv_at hl 0 rfl) ?_
  refine gf_59_10 hx hb ht hK hI (v := σ 59 10) rfl mw_853 (fun _ h9 => h9) hown dX12_again_6 ?_
  refine lv_if_eq (tgt := 16) hx hb dX12_again_9 (by decide) (fun c1 => ?_) (fun c1 => ?_)
  · have hm := (if_pos c1).symm.trans hm
    refine lv_aload_n hx hb dX12_again_16 rfl (lv_at hl 0 rfl) ?_
    refine gf_59_10 hx hb ht hK hI (v := σ 59 10) rfl mw_853 (fun _ h9 => h9) hown dX12_again_17 ?_
    obtain ⟨g2, hm⟩ := g01_some hm
    exact hR _ _ _ _ _ _ hm hI g2 dX12_again_20
  · have hm := (if_neg c1).symm.trans hm
    refine lv_aload_n hx hb dX12_again_12 rfl (lv_at hl 0 rfl) ?_
    obtain ⟨r3, σ4, h5, hm⟩ := bd_some hm
    refine k_v hI hA (va_runV (As := []) (rest := []) hX (c_X12_begin N n h5 _) (cwV 0 ht (in_V mw_882 mw_883 mw_884 mw_861 mw_878) rfl rfl rfl pd_X12_begin ⟨Nat.le_of_ble_eq_true rfl, Nat.le_of_ble_eq_true rfl⟩) ⟨q_blind, va_recv hK hI.1 (ci := 11) (q0 := 59) rfl rfl, q_to hI hK hN hZ hA⟩ rfl rfl hl.1 rfl (lv_room (Nat.le_of_ble_eq_true rfl)) dX12_again_13 (by decide)) (fun H locs hI => ?_)
    refine lv_aload_n hx hb dX12_again_16 rfl (lv_at hl 0 rfl) ?_
    refine gf_59_10 hx hb ht hK hI (v := σ4 59 10) rfl mw_853 (fun _ h9 => h9) hown dX12_again_17 ?_
    obtain ⟨g6, hm⟩ := g01_some hm
    exact hR _ _ _ _ _ _ hm hI g6 dX12_again_20
def f_X12_takes (N n : Nat) (σ : Sg) (p0 : Int32) (p1 : Int32) : Option (Int32 × Sg) := if p0 = 0 ∨ p0 = 1 ∨ p0 = 12 then (some (0, σ)) else (if p0 = 2 ∨ p0 = 9 ∨ p0 = 11 ∨ p0 = 13 ∨ p0 = 15 ∨ p0 = 16 then (some (1, σ)) else (if p0 = 14 then (gb p1 12 (some (σ 60 (ix p1), σ))) else (some (2, σ))))
set_option maxHeartbeats 4000000 in
set_option maxRecDepth 100000 in
theorem c_X12_takes {l : Launch} {g : GG} {q : Nat} (N n : Nat) {σ : Sg} {p0 : Int32} {p1 : Int32} {r : Int32} {σ' : Sg} (hm : f_X12_takes N n σ p0 p1 = some (r, σ')) : CTi l yX12_takes cX12_takes 3 (some .int) 0 0 g q n [.ref (ga g 59), .int p0, .int p1] σ r σ' := by
  refine e_i (r := r) (by decide) (Nat.le_of_ble_eq_true rfl) ?_
  intro p e s m args below meth c A Q ls hC hl hI
  obtain ⟨hX, hK, hN, hZ, hA, hR⟩ := id hC
  have hx : p.tables.exec = Jvm.exec := hX.1
  have hb : c.code = cX12_takes := hX.2.1
  have hml : c.maxLocals = 3 := hX.2.2.1
  have hown : s.vm.findClass RX12 = some m.cls := hX.2.2.2.1
  have ht : ∀ w ∈ BIG, w.before args s = true := hX.2.2.2.2
  have hl : lv_has ls 3 [(0, .ref (ga g 59)), (1, .int p0), (2, .int p1)] := hl
  unfold f_X12_takes at hm
  refine lv_iload_n hx hb dX12_takes_0 rfl (lv_at hl 1 rfl) ?_
  by_cases c1 : p0 = 0 ∨ p0 = 1 ∨ p0 = 12
  · have hm := (if_pos c1).symm.trans hm
    refine lv_tableIn (off := 83) (tgt := 84) hx hb dX12_takes_1 (by rcases c1 with c1 | c1 | c1 <;> (rw [c1]; decide)) (by rcases c1 with c1 | c1 | c1 <;> (rw [c1]; decide)) (by rcases c1 with c1 | c1 | c1 <;> (rw [c1]; rfl)) (by decide) ?_
    refine lv_iconst (v := 0) hx hb dX12_takes_84 (by decide) ?_
    exact hR _ _ _ _ _ _ hm hI dX12_takes_85
  have hm := (if_neg c1).symm.trans hm
  by_cases c2 : p0 = 2 ∨ p0 = 9 ∨ p0 = 11 ∨ p0 = 13 ∨ p0 = 15 ∨ p0 = 16
  · have hm := (if_pos c2).symm.trans hm
    refine lv_tableIn (off := 85) (tgt := 86) hx hb dX12_takes_1 (by rcases c2 with c2 | c2 | c2 | c2 | c2 | c2 <;> (rw [c2]; decide)) (by rcases c2 with c2 | c2 | c2 | c2 | c2 | c2 <;> (rw [c2]; decide)) (by rcases c2 with c2 | c2 | c2 | c2 | c2 | c2 <;> (rw [c2]; rfl)) (by decide) ?_
    refine lv_iconst (v := 1) hx hb dX12_takes_86 (by decide) ?_
    exact hR _ _ _ _ _ _ hm hI dX12_takes_87
  have hm := (if_neg c2).symm.trans hm
  by_cases c3 : p0 = 14
  · have hm := (if_pos c3).symm.trans hm
    refine lv_tableIn (off := 87) (tgt := 88) hx hb dX12_takes_1 (by (rw [c3]; decide)) (by (rw [c3]; decide)) (by (rw [c3]; rfl)) (by decide) ?_
    refine lv_aload_n hx hb dX12_takes_88 rfl (lv_at hl 0 rfl) ?_
    refine gf_59_2 hx hb ht hK hI mw_755 (fun _ h9 => h9) hown dX12_takes_89 ?_
    refine lv_iload_n hx hb dX12_takes_92 rfl (lv_at hl 2 rfl) ?_
    obtain ⟨g4, hm⟩ := gb_some hm
    refine ld_60 hx hb hK hI g4 (v := σ 60 (ix p1)) rfl dX12_takes_93 ?_
    exact hR _ _ _ _ _ _ hm hI dX12_takes_94
  have hm := (if_neg c3).symm.trans hm
  refine sw_d (tgt := 95) hx hb [0, 1, 12, 2, 9, 11, 13, 15, 16, 14] dX12_takes_1 (by decide) (by decide) (ne_c (lv_neT (fun q9 => c1 (Or.inl q9)) (by decide)) (ne_c (lv_neT (fun q9 => c1 (Or.inr (Or.inl q9))) (by decide)) (ne_c (lv_neT (fun q9 => c1 (Or.inr (Or.inr (q9)))) (by decide)) (ne_c (lv_neT (fun q9 => c2 (Or.inl q9)) (by decide)) (ne_c (lv_neT (fun q9 => c2 (Or.inr (Or.inl q9))) (by decide)) (ne_c (lv_neT (fun q9 => c2 (Or.inr (Or.inr (Or.inl q9)))) (by decide)) (ne_c (lv_neT (fun q9 => c2 (Or.inr (Or.inr (Or.inr (Or.inl q9))))) (by decide)) (ne_c (lv_neT (fun q9 => c2 (Or.inr (Or.inr (Or.inr (Or.inr (Or.inl q9)))))) (by decide)) (ne_c (lv_neT (fun q9 => c2 (Or.inr (Or.inr (Or.inr (Or.inr (Or.inr (q9))))))) (by decide)) (ne_c (lv_neT c3 (by decide)) ne_n)))))))))) (by decide) ?_
  refine lv_iconst (v := 2) hx hb dX12_takes_95 (by decide) ?_
  exact hR _ _ _ _ _ _ hm hI dX12_takes_96
def f_X12_behind (N n : Nat) (σ : Sg) (p0 : Int32) (p1 : Int32) (p2 : Int32) : Option (Int32 × Sg) := if p0 = 10 then (bd (f_X12_takes N n σ p0 p1) (fun r2 σ3 => some ((p2 - r2) + 2, σ3))) else (if p0 = 9 then (bd (f_X12_takes N n σ p0 p1) (fun r33 σ34 => some ((p2 - r33) + 2, σ34))) else (if p0 = 2 then (bd (f_X12_takes N n σ p0 p1) (fun r7 σ8 => some ((p2 - r7) + 0, σ8))) else (if p0 = 11 then (bd (f_X12_takes N n σ p0 p1) (fun r11 σ12 => some ((p2 - r11) + 0, σ12))) else (if p0 = 12 then (bd (f_X12_takes N n σ p0 p1) (fun r15 σ16 => some ((p2 - r15) + 0, σ16))) else (if p0 = 13 then (bd (f_X12_takes N n σ p0 p1) (fun r19 σ20 => some ((p2 - r19) + 0, σ20))) else (if p0 = 15 then (bd (f_X12_takes N n σ p0 p1) (fun r23 σ24 => some ((p2 - r23) + 0, σ24))) else (if p0 = 17 then (bd (f_X12_takes N n σ p0 p1) (fun r30 σ31 => some ((p2 - r30) + 0, σ31))) else (bd (f_X12_takes N n σ p0 p1) (fun r27 σ28 => some ((p2 - r27) + 1, σ28))))))))))
set_option maxHeartbeats 4000000 in
set_option maxRecDepth 100000 in
theorem c_X12_behind {l : Launch} {g : GG} {q : Nat} (N n : Nat) {σ : Sg} {p0 : Int32} {p1 : Int32} {p2 : Int32} {r : Int32} {σ' : Sg} (hm : f_X12_behind N n σ p0 p1 p2 = some (r, σ')) : CTi l yX12_behind cX12_behind 5 (some .int) 1 22 g q n [.ref (ga g 59), .int p0, .int p1, .int p2] σ r σ' := by
  refine e_i (r := r) (by decide) (Nat.le_of_ble_eq_true rfl) ?_
  intro p e s m args below meth c A Q ls hC hl hI
  obtain ⟨hX, hK, hN, hZ, hA, hR⟩ := id hC
  have hx : p.tables.exec = Jvm.exec := hX.1
  have hb : c.code = cX12_behind := hX.2.1
  have hml : c.maxLocals = 5 := hX.2.2.1
  have hown : s.vm.findClass RX12 = some m.cls := hX.2.2.2.1
  have ht : ∀ w ∈ BIG, w.before args s = true := hX.2.2.2.2
  have hl : lv_has ls 5 [(0, .ref (ga g 59)), (1, .int p0), (2, .int p1), (3, .int p2)] := hl
  unfold f_X12_behind at hm
  refine lv_iload_n hx hb dX12_behind_0 rfl (lv_at hl 1 rfl) ?_
  refine lv_bipush (v := 10) hx hb dX12_behind_1 (by decide) ?_
  refine lv_icmp_eq (tgt := 12) hx hb dX12_behind_3 (by decide) (fun c1 => ?_) (fun c1 => ?_)
  · have hm := (if_pos c1).symm.trans hm
    refine lv_iconst (v := 2) hx hb dX12_behind_12 (by decide) ?_
    refine lv_goto (tgt := 56) hx hb dX12_behind_13 (by decide) ?_
    refine lv_istore (lv' := [(4, .int 2), (0, .ref (ga g 59)), (1, .int p0), (2, .int p1), (3, .int p2)]) hx hb dX12_behind_56 hl (by decide) rfl (fun ls hl => ?_)
    refine lv_iload_n hx hb dX12_behind_58 rfl (lv_at hl 4 rfl) ?_
    refine lv_aload_n hx hb dX12_behind_59 rfl (lv_at hl 1 rfl) ?_
    refine lv_iload_n hx hb dX12_behind_60 rfl (lv_at hl 2 rfl) ?_
    refine lv_iload_n hx hb dX12_behind_61 rfl (lv_at hl 3 rfl) ?_
    obtain ⟨r2, σ3, h4, hm⟩ := bd_some hm
    refine k_i hI hA (va_runV (As := [.int p0, .int p1]) (rest := [.int p2]) hX (c_X12_takes N n h4 _) (cwV 2 ht (in_V mw_858 mw_859 mw_860 mw_861 mw_856) rfl rfl rfl pd_X12_takes ⟨Nat.le_of_ble_eq_true rfl, Nat.le_of_ble_eq_true rfl⟩) ⟨q_blind, va_recv hK hI.1 (ci := 11) (q0 := 59) rfl rfl, q_to hI hK hN hZ hA⟩ rfl rfl hl.1 rfl (lv_room (Nat.le_of_ble_eq_true rfl)) dX12_behind_62 (by decide)) (fun H locs hI => ?_)
    refine lv_isub hx hb dX12_behind_65 ?_
    refine lv_iload hx hb dX12_behind_66 (lv_at hl 0 rfl) ?_
    refine lv_iadd hx hb dX12_behind_68 ?_
    exact hR _ _ _ _ _ _ hm hI dX12_behind_69
  · have hm := (if_neg c1).symm.trans hm
    refine lv_iload_n hx hb dX12_behind_6 rfl (lv_at hl 1 rfl) ?_
    refine lv_bipush (v := 9) hx hb dX12_behind_7 (by decide) ?_
    refine lv_icmp_ne (tgt := 16) hx hb dX12_behind_9 (by decide) (fun c5 => ?_) (fun c5 => ?_)
    · have hm := (if_neg c5).symm.trans hm
      refine lv_iload_n hx hb dX12_behind_16 rfl (lv_at hl 1 rfl) ?_
      refine lv_iconst (v := 2) hx hb dX12_behind_17 (by decide) ?_
      refine lv_icmp_eq (tgt := 51) hx hb dX12_behind_18 (by decide) (fun c6 => ?_) (fun c6 => ?_)
      · have hm := (if_pos c6).symm.trans hm
        refine lv_iconst (v := 0) hx hb dX12_behind_51 (by decide) ?_
        refine lv_goto (tgt := 56) hx hb dX12_behind_52 (by decide) ?_
        refine lv_istore (lv' := [(4, .int 0), (0, .ref (ga g 59)), (1, .int p0), (2, .int p1), (3, .int p2)]) hx hb dX12_behind_56 hl (by decide) rfl (fun ls hl => ?_)
        refine lv_iload_n hx hb dX12_behind_58 rfl (lv_at hl 4 rfl) ?_
        refine lv_aload_n hx hb dX12_behind_59 rfl (lv_at hl 1 rfl) ?_
        refine lv_iload_n hx hb dX12_behind_60 rfl (lv_at hl 2 rfl) ?_
        refine lv_iload_n hx hb dX12_behind_61 rfl (lv_at hl 3 rfl) ?_
        obtain ⟨r7, σ8, h9, hm⟩ := bd_some hm
        refine k_i hI hA (va_runV (As := [.int p0, .int p1]) (rest := [.int p2]) hX (c_X12_takes N n h9 _) (cwV 2 ht (in_V mw_858 mw_859 mw_860 mw_861 mw_856) rfl rfl rfl pd_X12_takes ⟨Nat.le_of_ble_eq_true rfl, Nat.le_of_ble_eq_true rfl⟩) ⟨q_blind, va_recv hK hI.1 (ci := 11) (q0 := 59) rfl rfl, q_to hI hK hN hZ hA⟩ rfl rfl hl.1 rfl (lv_room (Nat.le_of_ble_eq_true rfl)) dX12_behind_62 (by decide)) (fun H locs hI => ?_)
        refine lv_isub hx hb dX12_behind_65 ?_
        refine lv_iload hx hb dX12_behind_66 (lv_at hl 0 rfl) ?_
        refine lv_iadd hx hb dX12_behind_68 ?_
        exact hR _ _ _ _ _ _ hm hI dX12_behind_69
      · have hm := (if_neg c6).symm.trans hm
        refine lv_iload_n hx hb dX12_behind_21 rfl (lv_at hl 1 rfl) ?_
        refine lv_bipush (v := 11) hx hb dX12_behind_22 (by decide) ?_
        refine lv_icmp_eq (tgt := 51) hx hb dX12_behind_24 (by decide) (fun c10 => ?_) (fun c10 => ?_)
        · have hm := (if_pos c10).symm.trans hm
          refine lv_iconst (v := 0) hx hb dX12_behind_51 (by decide) ?_
          refine lv_goto (tgt := 56) hx hb dX12_behind_52 (by decide) ?_
          refine lv_istore (lv' := [(4, .int 0), (0, .ref (ga g 59)), (1, .int p0), (2, .int p1), (3, .int p2)]) hx hb dX12_behind_56 hl (by decide) rfl (fun ls hl => ?_)
          refine lv_iload_n hx hb dX12_behind_58 rfl (lv_at hl 4 rfl) ?_
          refine lv_aload_n hx hb dX12_behind_59 rfl (lv_at hl 1 rfl) ?_
          refine lv_iload_n hx hb dX12_behind_60 rfl (lv_at hl 2 rfl) ?_
          refine lv_iload_n hx hb dX12_behind_61 rfl (lv_at hl 3 rfl) ?_
          obtain ⟨r11, σ12, h13, hm⟩ := bd_some hm
          refine k_i hI hA (va_runV (As := [.int p0, .int p1]) (rest := [.int p2]) hX (c_X12_takes N n h13 _) (cwV 2 ht (in_V mw_858 mw_859 mw_860 mw_861 mw_856) rfl rfl rfl pd_X12_takes ⟨Nat.le_of_ble_eq_true rfl, Nat.le_of_ble_eq_true rfl⟩) ⟨q_blind, va_recv hK hI.1 (ci := 11) (q0 := 59) rfl rfl, q_to hI hK hN hZ hA⟩ rfl rfl hl.1 rfl (lv_room (Nat.le_of_ble_eq_true rfl)) dX12_behind_62 (by decide)) (fun H locs hI => ?_)
          refine lv_isub hx hb dX12_behind_65 ?_
          refine lv_iload hx hb dX12_behind_66 (lv_at hl 0 rfl) ?_
          refine lv_iadd hx hb dX12_behind_68 ?_
          exact hR _ _ _ _ _ _ hm hI dX12_behind_69
        · have hm := (if_neg c10).symm.trans hm
          refine lv_iload_n hx hb dX12_behind_27 rfl (lv_at hl 1 rfl) ?_
          refine lv_bipush (v := 12) hx hb dX12_behind_28 (by decide) ?_
          refine lv_icmp_eq (tgt := 51) hx hb dX12_behind_30 (by decide) (fun c14 => ?_) (fun c14 => ?_)
          · have hm := (if_pos c14).symm.trans hm
            refine lv_iconst (v := 0) hx hb dX12_behind_51 (by decide) ?_
            refine lv_goto (tgt := 56) hx hb dX12_behind_52 (by decide) ?_
            refine lv_istore (lv' := [(4, .int 0), (0, .ref (ga g 59)), (1, .int p0), (2, .int p1), (3, .int p2)]) hx hb dX12_behind_56 hl (by decide) rfl (fun ls hl => ?_)
            refine lv_iload_n hx hb dX12_behind_58 rfl (lv_at hl 4 rfl) ?_
            refine lv_aload_n hx hb dX12_behind_59 rfl (lv_at hl 1 rfl) ?_
            refine lv_iload_n hx hb dX12_behind_60 rfl (lv_at hl 2 rfl) ?_
            refine lv_iload_n hx hb dX12_behind_61 rfl (lv_at hl 3 rfl) ?_
            obtain ⟨r15, σ16, h17, hm⟩ := bd_some hm
            refine k_i hI hA (va_runV (As := [.int p0, .int p1]) (rest := [.int p2]) hX (c_X12_takes N n h17 _) (cwV 2 ht (in_V mw_858 mw_859 mw_860 mw_861 mw_856) rfl rfl rfl pd_X12_takes ⟨Nat.le_of_ble_eq_true rfl, Nat.le_of_ble_eq_true rfl⟩) ⟨q_blind, va_recv hK hI.1 (ci := 11) (q0 := 59) rfl rfl, q_to hI hK hN hZ hA⟩ rfl rfl hl.1 rfl (lv_room (Nat.le_of_ble_eq_true rfl)) dX12_behind_62 (by decide)) (fun H locs hI => ?_)
            refine lv_isub hx hb dX12_behind_65 ?_
            refine lv_iload hx hb dX12_behind_66 (lv_at hl 0 rfl) ?_
            refine lv_iadd hx hb dX12_behind_68 ?_
            exact hR _ _ _ _ _ _ hm hI dX12_behind_69
          · have hm := (if_neg c14).symm.trans hm
            refine lv_iload_n hx hb dX12_behind_33 rfl (lv_at hl 1 rfl) ?_
            refine lv_bipush (v := 13) hx hb dX12_behind_34 (by decide) ?_
            refine lv_icmp_eq (tgt := 51) hx hb dX12_behind_36 (by decide) (fun c18 => ?_) (fun c18 => ?_)
            · have hm := (if_pos c18).symm.trans hm
              refine lv_iconst (v := 0) hx hb dX12_behind_51 (by decide) ?_
              refine lv_goto (tgt := 56) hx hb dX12_behind_52 (by decide) ?_
              refine lv_istore (lv' := [(4, .int 0), (0, .ref (ga g 59)), (1, .int p0), (2, .int p1), (3, .int p2)]) hx hb dX12_behind_56 hl (by decide) rfl (fun ls hl => ?_)
              refine lv_iload_n hx hb dX12_behind_58 rfl (lv_at hl 4 rfl) ?_
              refine lv_aload_n hx hb dX12_behind_59 rfl (lv_at hl 1 rfl) ?_
              refine lv_iload_n hx hb dX12_behind_60 rfl (lv_at hl 2 rfl) ?_
              refine lv_iload_n hx hb dX12_behind_61 rfl (lv_at hl 3 rfl) ?_
              obtain ⟨r19, σ20, h21, hm⟩ := bd_some hm
              refine k_i hI hA (va_runV (As := [.int p0, .int p1]) (rest := [.int p2]) hX (c_X12_takes N n h21 _) (cwV 2 ht (in_V mw_858 mw_859 mw_860 mw_861 mw_856) rfl rfl rfl pd_X12_takes ⟨Nat.le_of_ble_eq_true rfl, Nat.le_of_ble_eq_true rfl⟩) ⟨q_blind, va_recv hK hI.1 (ci := 11) (q0 := 59) rfl rfl, q_to hI hK hN hZ hA⟩ rfl rfl hl.1 rfl (lv_room (Nat.le_of_ble_eq_true rfl)) dX12_behind_62 (by decide)) (fun H locs hI => ?_)
              refine lv_isub hx hb dX12_behind_65 ?_
              refine lv_iload hx hb dX12_behind_66 (lv_at hl 0 rfl) ?_
              refine lv_iadd hx hb dX12_behind_68 ?_
              exact hR _ _ _ _ _ _ hm hI dX12_behind_69
            · have hm := (if_neg c18).symm.trans hm
              refine lv_iload_n hx hb dX12_behind_39 rfl (lv_at hl 1 rfl) ?_
              refine lv_bipush (v := 15) hx hb dX12_behind_40 (by decide) ?_
              refine lv_icmp_eq (tgt := 51) hx hb dX12_behind_42 (by decide) (fun c22 => ?_) (fun c22 => ?_)
              · have hm := (if_pos c22).symm.trans hm
                refine lv_iconst (v := 0) hx hb dX12_behind_51 (by decide) ?_
                refine lv_goto (tgt := 56) hx hb dX12_behind_52 (by decide) ?_
                refine lv_istore (lv' := [(4, .int 0), (0, .ref (ga g 59)), (1, .int p0), (2, .int p1), (3, .int p2)]) hx hb dX12_behind_56 hl (by decide) rfl (fun ls hl => ?_)
                refine lv_iload_n hx hb dX12_behind_58 rfl (lv_at hl 4 rfl) ?_
                refine lv_aload_n hx hb dX12_behind_59 rfl (lv_at hl 1 rfl) ?_
                refine lv_iload_n hx hb dX12_behind_60 rfl (lv_at hl 2 rfl) ?_
                refine lv_iload_n hx hb dX12_behind_61 rfl (lv_at hl 3 rfl) ?_
                obtain ⟨r23, σ24, h25, hm⟩ := bd_some hm
                refine k_i hI hA (va_runV (As := [.int p0, .int p1]) (rest := [.int p2]) hX (c_X12_takes N n h25 _) (cwV 2 ht (in_V mw_858 mw_859 mw_860 mw_861 mw_856) rfl rfl rfl pd_X12_takes ⟨Nat.le_of_ble_eq_true rfl, Nat.le_of_ble_eq_true rfl⟩) ⟨q_blind, va_recv hK hI.1 (ci := 11) (q0 := 59) rfl rfl, q_to hI hK hN hZ hA⟩ rfl rfl hl.1 rfl (lv_room (Nat.le_of_ble_eq_true rfl)) dX12_behind_62 (by decide)) (fun H locs hI => ?_)
                refine lv_isub hx hb dX12_behind_65 ?_
                refine lv_iload hx hb dX12_behind_66 (lv_at hl 0 rfl) ?_
                refine lv_iadd hx hb dX12_behind_68 ?_
                exact hR _ _ _ _ _ _ hm hI dX12_behind_69
              · have hm := (if_neg c22).symm.trans hm
                refine lv_iload_n hx hb dX12_behind_45 rfl (lv_at hl 1 rfl) ?_
                refine lv_bipush (v := 17) hx hb dX12_behind_46 (by decide) ?_
                refine lv_icmp_ne (tgt := 55) hx hb dX12_behind_48 (by decide) (fun c26 => ?_) (fun c26 => ?_)
                · have hm := (if_neg c26).symm.trans hm
                  refine lv_iconst (v := 1) hx hb dX12_behind_55 (by decide) ?_
                  refine lv_istore (lv' := [(4, .int 1), (0, .ref (ga g 59)), (1, .int p0), (2, .int p1), (3, .int p2)]) hx hb dX12_behind_56 hl (by decide) rfl (fun ls hl => ?_)
                  refine lv_iload_n hx hb dX12_behind_58 rfl (lv_at hl 4 rfl) ?_
                  refine lv_aload_n hx hb dX12_behind_59 rfl (lv_at hl 1 rfl) ?_
                  refine lv_iload_n hx hb dX12_behind_60 rfl (lv_at hl 2 rfl) ?_
                  refine lv_iload_n hx hb dX12_behind_61 rfl (lv_at hl 3 rfl) ?_
                  obtain ⟨r27, σ28, h29, hm⟩ := bd_some hm
                  refine k_i hI hA (va_runV (As := [.int p0, .int p1]) (rest := [.int p2]) hX (c_X12_takes N n h29 _) (cwV 2 ht (in_V mw_858 mw_859 mw_860 mw_861 mw_856) rfl rfl rfl pd_X12_takes ⟨Nat.le_of_ble_eq_true rfl, Nat.le_of_ble_eq_true rfl⟩) ⟨q_blind, va_recv hK hI.1 (ci := 11) (q0 := 59) rfl rfl, q_to hI hK hN hZ hA⟩ rfl rfl hl.1 rfl (lv_room (Nat.le_of_ble_eq_true rfl)) dX12_behind_62 (by decide)) (fun H locs hI => ?_)
                  refine lv_isub hx hb dX12_behind_65 ?_
                  refine lv_iload hx hb dX12_behind_66 (lv_at hl 0 rfl) ?_
                  refine lv_iadd hx hb dX12_behind_68 ?_
                  exact hR _ _ _ _ _ _ hm hI dX12_behind_69
                · have hm := (if_pos c26).symm.trans hm
                  refine lv_iconst (v := 0) hx hb dX12_behind_51 (by decide) ?_
                  refine lv_goto (tgt := 56) hx hb dX12_behind_52 (by decide) ?_
                  refine lv_istore (lv' := [(4, .int 0), (0, .ref (ga g 59)), (1, .int p0), (2, .int p1), (3, .int p2)]) hx hb dX12_behind_56 hl (by decide) rfl (fun ls hl => ?_)
                  refine lv_iload_n hx hb dX12_behind_58 rfl (lv_at hl 4 rfl) ?_
                  refine lv_aload_n hx hb dX12_behind_59 rfl (lv_at hl 1 rfl) ?_
                  refine lv_iload_n hx hb dX12_behind_60 rfl (lv_at hl 2 rfl) ?_
                  refine lv_iload_n hx hb dX12_behind_61 rfl (lv_at hl 3 rfl) ?_
                  obtain ⟨r30, σ31, h32, hm⟩ := bd_some hm
                  refine k_i hI hA (va_runV (As := [.int p0, .int p1]) (rest := [.int p2]) hX (c_X12_takes N n h32 _) (cwV 2 ht (in_V mw_858 mw_859 mw_860 mw_861 mw_856) rfl rfl rfl pd_X12_takes ⟨Nat.le_of_ble_eq_true rfl, Nat.le_of_ble_eq_true rfl⟩) ⟨q_blind, va_recv hK hI.1 (ci := 11) (q0 := 59) rfl rfl, q_to hI hK hN hZ hA⟩ rfl rfl hl.1 rfl (lv_room (Nat.le_of_ble_eq_true rfl)) dX12_behind_62 (by decide)) (fun H locs hI => ?_)
                  refine lv_isub hx hb dX12_behind_65 ?_
                  refine lv_iload hx hb dX12_behind_66 (lv_at hl 0 rfl) ?_
                  refine lv_iadd hx hb dX12_behind_68 ?_
                  exact hR _ _ _ _ _ _ hm hI dX12_behind_69
    · have hm := (if_pos c5).symm.trans hm
      refine lv_iconst (v := 2) hx hb dX12_behind_12 (by decide) ?_
      refine lv_goto (tgt := 56) hx hb dX12_behind_13 (by decide) ?_
      refine lv_istore (lv' := [(4, .int 2), (0, .ref (ga g 59)), (1, .int p0), (2, .int p1), (3, .int p2)]) hx hb dX12_behind_56 hl (by decide) rfl (fun ls hl => ?_)
      refine lv_iload_n hx hb dX12_behind_58 rfl (lv_at hl 4 rfl) ?_
      refine lv_aload_n hx hb dX12_behind_59 rfl (lv_at hl 1 rfl) ?_
      refine lv_iload_n hx hb dX12_behind_60 rfl (lv_at hl 2 rfl) ?_
      refine lv_iload_n hx hb dX12_behind_61 rfl (lv_at hl 3 rfl) ?_
      obtain ⟨r33, σ34, h35, hm⟩ := bd_some hm
      refine k_i hI hA (va_runV (As := [.int p0, .int p1]) (rest := [.int p2]) hX (c_X12_takes N n h35 _) (cwV 2 ht (in_V mw_858 mw_859 mw_860 mw_861 mw_856) rfl rfl rfl pd_X12_takes ⟨Nat.le_of_ble_eq_true rfl, Nat.le_of_ble_eq_true rfl⟩) ⟨q_blind, va_recv hK hI.1 (ci := 11) (q0 := 59) rfl rfl, q_to hI hK hN hZ hA⟩ rfl rfl hl.1 rfl (lv_room (Nat.le_of_ble_eq_true rfl)) dX12_behind_62 (by decide)) (fun H locs hI => ?_)
      refine lv_isub hx hb dX12_behind_65 ?_
      refine lv_iload hx hb dX12_behind_66 (lv_at hl 0 rfl) ?_
      refine lv_iadd hx hb dX12_behind_68 ?_
      exact hR _ _ _ _ _ _ hm hI dX12_behind_69
def f_X12_pop (N n : Nat) (σ : Sg)  : Option (Int32 × Sg) := gb 0 2 (gb ((σ 93 (ix 0)) - 1) 60 (gb ((σ 93 (ix 0)) - 1) 60 (gb ((σ 93 (ix 0)) - 1) 60 (gb ((24 * ((σ 93 (ix 0)) - 1)) + ((σ 97 (ix ((σ 93 (ix 0)) - 1))) - 1)) 1440 (some (σ 96 (ix ((24 * ((σ 93 (ix 0)) - 1)) + ((σ 97 (ix ((σ 93 (ix 0)) - 1))) - 1))), sg σ 97 (ix ((σ 93 (ix 0)) - 1)) ((σ 97 (ix ((σ 93 (ix 0)) - 1))) - 1)))))))
set_option maxHeartbeats 4000000 in
set_option maxRecDepth 100000 in
theorem c_X12_pop {l : Launch} {g : GG} {q : Nat} (N n : Nat) {σ : Sg}  {r : Int32} {σ' : Sg} (hm : f_X12_pop N n σ  = some (r, σ')) : CTi l yX12_pop cX12_pop 2 (some .int) 0 0 g q n [.ref (ga g 59)] σ r σ' := by
  refine e_i (r := r) (by decide) (Nat.le_of_ble_eq_true rfl) ?_
  intro p e s m args below meth c A Q ls hC hl hI
  obtain ⟨hX, hK, hN, hZ, hA, hR⟩ := id hC
  have hx : p.tables.exec = Jvm.exec := hX.1
  have hb : c.code = cX12_pop := hX.2.1
  have hml : c.maxLocals = 2 := hX.2.2.1
  have hown : s.vm.findClass RX12 = some m.cls := hX.2.2.2.1
  have ht : ∀ w ∈ BIG, w.before args s = true := hX.2.2.2.2
  have hl : lv_has ls 2 [(0, .ref (ga g 59))] := hl
  unfold f_X12_pop at hm
  refine lv_aload_n hx hb dX12_pop_0 rfl (lv_at hl 0 rfl) ?_
  refine gf_59_43 hx hb ht hK hI mw_788 (fun _ h9 => h9) hown dX12_pop_1 ?_
  refine lv_iconst (v := 0) hx hb dX12_pop_4 (by decide) ?_
  obtain ⟨g1, hm⟩ := gb_some hm
  refine ld_93 hx hb hK hI g1 (v := σ 93 (ix 0)) rfl dX12_pop_5 ?_
  refine lv_iconst (v := 1) hx hb dX12_pop_6 (by decide) ?_
  refine lv_isub hx hb dX12_pop_7 ?_
  refine lv_istore_n (lv' := [(1, .int ((σ 93 (ix 0)) - 1)), (0, .ref (ga g 59))]) hx hb dX12_pop_8 rfl hl (by decide) rfl (fun ls hl => ?_)
  refine lv_aload_n hx hb dX12_pop_9 rfl (lv_at hl 1 rfl) ?_
  refine gf_59_47 hx hb ht hK hI mw_792 (fun _ h9 => h9) hown dX12_pop_10 ?_
  refine lv_iload_n hx hb dX12_pop_13 rfl (lv_at hl 0 rfl) ?_
  refine lv_dup2_11 hx hb dX12_pop_14 rfl rfl ?_
  obtain ⟨g2, hm⟩ := gb_some hm
  refine ld_97 hx hb hK hI g2 (v := σ 97 (ix ((σ 93 (ix 0)) - 1))) rfl dX12_pop_15 ?_
  refine lv_iconst (v := 1) hx hb dX12_pop_16 (by decide) ?_
  refine lv_isub hx hb dX12_pop_17 ?_
  obtain ⟨g3, hm⟩ := gb_some hm
  refine sv_97 hx hb hK hI g3 dX12_pop_18 (fun H locs hI => ?_)
  refine lv_aload_n hx hb dX12_pop_19 rfl (lv_at hl 1 rfl) ?_
  refine gf_59_46 hx hb ht hK hI mw_791 (fun _ h9 => h9) hown dX12_pop_20 ?_
  refine lv_bipush (v := 24) hx hb dX12_pop_23 (by decide) ?_
  refine lv_iload_n hx hb dX12_pop_25 rfl (lv_at hl 0 rfl) ?_
  refine lv_imul hx hb dX12_pop_26 ?_
  refine lv_aload_n hx hb dX12_pop_27 rfl (lv_at hl 1 rfl) ?_
  refine gf_59_47 hx hb ht hK hI mw_792 (fun _ h9 => h9) hown dX12_pop_28 ?_
  refine lv_iload_n hx hb dX12_pop_31 rfl (lv_at hl 0 rfl) ?_
  obtain ⟨g4, hm⟩ := gb_some hm
  refine ld_97 hx hb hK hI g4 (v := (σ 97 (ix ((σ 93 (ix 0)) - 1))) - 1) (show upd (σ 97) (ix ((σ 93 (ix 0)) - 1)) ((σ 97 (ix ((σ 93 (ix 0)) - 1))) - 1) (ix ((σ 93 (ix 0)) - 1)) = (σ 97 (ix ((σ 93 (ix 0)) - 1))) - 1 from up_same _ _ _) dX12_pop_32 ?_
  refine lv_iadd hx hb dX12_pop_33 ?_
  obtain ⟨g5, hm⟩ := gb_some hm
  refine ld_96 hx hb hK hI g5 (v := σ 96 (ix ((24 * ((σ 93 (ix 0)) - 1)) + ((σ 97 (ix ((σ 93 (ix 0)) - 1))) - 1)))) rfl dX12_pop_34 ?_
  exact hR _ _ _ _ _ _ hm hI dX12_pop_35
def lb_X12_enters_49 (N n : Nat) (u1 : Int32) (u2 : Int32) (u3 : Int32) (K118 : (Sg → Int32 → Option (Int32 × Sg))) (rec : (Sg → Int32 → Option (Int32 × Sg))) (σ : Sg) (v4 : Int32) : Option (Int32 × Sg) := if 24 ≤ v4 then (K118 σ v4) else (if u1 = 0 then (gb u2 12 (if (σ 60 (ix u2)) ≤ v4 then (gb ((24 * u3) + v4) 1440 (gb ((24 * u3) + v4) 1440 (rec (sg (sg σ 96 (ix ((24 * u3) + v4)) 0) 98 (ix ((24 * u3) + v4)) 0) (v4 + 1)))) else (gb ((6 * u1) + v4) 12 (gb ((24 * u3) + v4) 1440 (gb ((24 * u3) + v4) 1440 (rec (sg (sg σ 96 (ix ((24 * u3) + v4)) (σ 100 (ix ((6 * u1) + v4)))) 98 (ix ((24 * u3) + v4)) 0) (v4 + 1))))))) else (gb ((24 * u3) + v4) 1440 (gb ((24 * u3) + v4) 1440 (rec (sg (sg σ 96 (ix ((24 * u3) + v4)) 0) 98 (ix ((24 * u3) + v4)) 0) (v4 + 1)))))
def lf_X12_enters_49 (N n : Nat) (u1 : Int32) (u2 : Int32) (u3 : Int32) (K118 : (Sg → Int32 → Option (Int32 × Sg))) : Nat → (Sg → Int32 → Option (Int32 × Sg))
  | 0 => fun _ _ => none
  | k + 1 => lb_X12_enters_49 N n u1 u2 u3 K118 (lf_X12_enters_49 N n u1 u2 u3 K118 k)
def lb_X12_enters_121 (N n : Nat) (u1 : Int32) (u2 : Int32) (u3 : Int32) (K173 : (Sg → Int32 → Option (Int32 × Sg))) (rec : (Sg → Int32 → Option (Int32 × Sg))) (σ : Sg) (v4 : Int32) : Option (Int32 × Sg) := if 6 ≤ v4 then (K173 σ v4) else (gb u2 12 (if (σ 60 (ix u2)) ≤ v4 then (gb ((7 * u3) + v4) 420 (rec (sg σ 99 (ix ((7 * u3) + v4)) 0) (v4 + 1))) else (gb ((6 * u1) + v4) 12 (gb ((7 * u3) + v4) 420 (rec (sg σ 99 (ix ((7 * u3) + v4)) (σ 100 (ix ((6 * u1) + v4)))) (v4 + 1))))))
def lf_X12_enters_121 (N n : Nat) (u1 : Int32) (u2 : Int32) (u3 : Int32) (K173 : (Sg → Int32 → Option (Int32 × Sg))) : Nat → (Sg → Int32 → Option (Int32 × Sg))
  | 0 => fun _ _ => none
  | k + 1 => lb_X12_enters_121 N n u1 u2 u3 K173 (lf_X12_enters_121 N n u1 u2 u3 K173 k)
def f_X12_enters (N n : Nat) (σ : Sg) (p0 : Int32) (p1 : Int32) : Option (Int32 × Sg) := gb p0 2 (gb p0 2 (gb p0 2 (gb p0 2 (gb p0 2 (gb ((30 * p0) + (σ 93 (ix p0))) 60 (gb ((30 * p0) + (σ 93 (ix p0))) 60 (lf_X12_enters_49 N n p0 p1 ((30 * p0) + (σ 93 (ix p0))) (fun σ19 w20 => lf_X12_enters_121 N n p0 p1 ((30 * p0) + (σ 93 (ix p0))) (fun σ27 w28 => gb p1 12 (gb ((30 * p0) + (σ 93 (ix p0))) 60 (some (0, sg σ27 97 (ix ((30 * p0) + (σ 93 (ix p0)))) (σ27 61 (ix p1)))))) N σ19 0) N (sg (sg (sg (sg σ 93 (ix p0) ((σ 93 (ix p0)) + 1)) 92 (ix p0) ((σ 92 (ix p0)) + 1)) 94 (ix ((30 * p0) + (σ 93 (ix p0)))) p1) 95 (ix ((30 * p0) + (σ 93 (ix p0)))) 0) 0)))))))
set_option maxHeartbeats 4000000 in
set_option maxRecDepth 100000 in
theorem lp_X12_enters_49 {p : Program} {l : Launch} {e : Env} {s : State} {m : MethodId} {args : Array Value} {below : List Frame} {meth : Method} {c : Code} {Q : State → Prop} {A : Nat → Prop} {g : GG} {q N n : Nat} {out : Int32 × Sg} {u1 : Int32} {u2 : Int32} {u3 : Int32} {K118 : (Sg → Int32 → Option (Int32 × Sg))}
    (hC : CXv p l e (qR 0 0) s m args below meth c cX12_enters 5 RX12 g q n A Q (some out)) :
    ∀ (k : Nat) (σ : Sg) (v4 : Int32) (H : Heap) (locs : List Loc) (ls : Array Slot), lf_X12_enters_49 N n u1 u2 u3 K118 k σ v4 = some out → wI g q n σ A s.heap H locs → lv_has ls 5 [(0, .ref (ga g 59)), (1, .int u1), (2, .int u2), (3, .int u3), (4, .int v4)] → (∀ (σ : Sg) (v4 : Int32) (H : Heap) (locs : List Loc) (ls : Array Slot), K118 σ v4 = some out → wI g q n σ A s.heap H locs → lv_has ls 5 [(0, .ref (ga g 59)), (1, .int u1), (2, .int u2), (3, .int u3)] → W p l e (qR 0 0) s m args below meth c H locs 0 0 Q (F0 m 118 ls [])) → W p l e (qR 0 0) s m args below meth c H locs 0 0 Q (F0 m 49 ls []) := by
  obtain ⟨hX, hK, hN, hZ, hA, hR⟩ := id hC
  have hx : p.tables.exec = Jvm.exec := hX.1
  have hb : c.code = cX12_enters := hX.2.1
  have hml : c.maxLocals = 5 := hX.2.2.1
  have hown : s.vm.findClass RX12 = some m.cls := hX.2.2.2.1
  have ht : ∀ w ∈ BIG, w.before args s = true := hX.2.2.2.2
  intro k
  induction k with
  | zero =>
    intro σ v4 H locs ls hm
    have hm : none = some out := hm
    exact nomatch hm
  | succ k ih =>
    intro σ v4 H locs ls hm hI hl hx118
    have hm : lb_X12_enters_49 N n u1 u2 u3 K118 (lf_X12_enters_49 N n u1 u2 u3 K118 k) σ v4 = some out := hm
    unfold lb_X12_enters_49 at hm
    refine lv_iload hx hb dX12_enters_49 (lv_at hl 4 rfl) ?_
    refine lv_bipush (v := 24) hx hb dX12_enters_51 (by decide) ?_
    refine lv_icmp_ge (tgt := 118) hx hb dX12_enters_53 (by decide) (fun c8 => ?_) (fun c8 => ?_)
    · have hm := (if_pos c8).symm.trans hm
      exact hx118 σ v4 _ _ _ hm hI (lv_sub hl [0, 1, 2, 3] rfl)
    · have hm := (if_neg c8).symm.trans hm
      refine lv_aload_n hx hb dX12_enters_56 rfl (lv_at hl 0 rfl) ?_
      refine gf_59_46 hx hb ht hK hI mw_791 (fun _ h9 => h9) hown dX12_enters_57 ?_
      refine lv_bipush (v := 24) hx hb dX12_enters_60 (by decide) ?_
      refine lv_iload_n hx hb dX12_enters_62 rfl (lv_at hl 3 rfl) ?_
      refine lv_imul hx hb dX12_enters_63 ?_
      refine lv_iload hx hb dX12_enters_64 (lv_at hl 4 rfl) ?_
      refine lv_iadd hx hb dX12_enters_66 ?_
      refine lv_iload_n hx hb dX12_enters_67 rfl (lv_at hl 1 rfl) ?_
      refine lv_if_ne (tgt := 97) hx hb dX12_enters_68 (by decide) (fun c9 => ?_) (fun c9 => ?_)
      · have hm := (if_neg c9).symm.trans hm
        refine lv_iconst (v := 0) hx hb dX12_enters_97 (by decide) ?_
        obtain ⟨g10, hm⟩ := gb_some hm
        refine sv_96 hx hb hK hI g10 dX12_enters_98 (fun H locs hI => ?_)
        refine lv_aload_n hx hb dX12_enters_99 rfl (lv_at hl 0 rfl) ?_
        refine gf_59_48 hx hb ht hK hI mw_793 (fun _ h9 => h9) hown dX12_enters_100 ?_
        refine lv_bipush (v := 24) hx hb dX12_enters_103 (by decide) ?_
        refine lv_iload_n hx hb dX12_enters_105 rfl (lv_at hl 3 rfl) ?_
        refine lv_imul hx hb dX12_enters_106 ?_
        refine lv_iload hx hb dX12_enters_107 (lv_at hl 4 rfl) ?_
        refine lv_iadd hx hb dX12_enters_109 ?_
        refine lv_iconst (v := 0) hx hb dX12_enters_110 (by decide) ?_
        obtain ⟨g11, hm⟩ := gb_some hm
        refine sv_98 hx hb hK hI g11 dX12_enters_111 (fun H locs hI => ?_)
        refine lv_iinc (v := v4 + 1) (lv' := [(4, .int (v4 + 1)), (0, .ref (ga g 59)), (1, .int u1), (2, .int u2), (3, .int u3)]) hx hb dX12_enters_112 hl (k := 4) rfl (congrArg (fun z => v4 + z) (show Int32.ofInt 1 = 1 by decide)) (by decide) rfl (fun ls hl => ?_)
        refine lv_goto (tgt := 49) hx hb dX12_enters_115 (by decide) ?_
        exact ih (sg (sg σ 96 (ix ((24 * u3) + v4)) 0) 98 (ix ((24 * u3) + v4)) 0) (v4 + 1) _ _ _ hm hI (lv_sub hl [1, 2, 3, 4, 0] rfl) hx118
      · have hm := (if_pos c9).symm.trans hm
        refine lv_iload hx hb dX12_enters_71 (lv_at hl 4 rfl) ?_
        refine lv_aload_n hx hb dX12_enters_73 rfl (lv_at hl 0 rfl) ?_
        refine gf_59_2 hx hb ht hK hI mw_755 (fun _ h9 => h9) hown dX12_enters_74 ?_
        refine lv_iload_n hx hb dX12_enters_77 rfl (lv_at hl 2 rfl) ?_
        obtain ⟨g12, hm⟩ := gb_some hm
        refine ld_60 hx hb hK hI g12 (v := σ 60 (ix u2)) rfl dX12_enters_78 ?_
        refine lv_icmp_ge (tgt := 97) hx hb dX12_enters_79 (by decide) (fun c13 => ?_) (fun c13 => ?_)
        · have hm := (if_pos c13).symm.trans hm
          refine lv_iconst (v := 0) hx hb dX12_enters_97 (by decide) ?_
          obtain ⟨g14, hm⟩ := gb_some hm
          refine sv_96 hx hb hK hI g14 dX12_enters_98 (fun H locs hI => ?_)
          refine lv_aload_n hx hb dX12_enters_99 rfl (lv_at hl 0 rfl) ?_
          refine gf_59_48 hx hb ht hK hI mw_793 (fun _ h9 => h9) hown dX12_enters_100 ?_
          refine lv_bipush (v := 24) hx hb dX12_enters_103 (by decide) ?_
          refine lv_iload_n hx hb dX12_enters_105 rfl (lv_at hl 3 rfl) ?_
          refine lv_imul hx hb dX12_enters_106 ?_
          refine lv_iload hx hb dX12_enters_107 (lv_at hl 4 rfl) ?_
          refine lv_iadd hx hb dX12_enters_109 ?_
          refine lv_iconst (v := 0) hx hb dX12_enters_110 (by decide) ?_
          obtain ⟨g15, hm⟩ := gb_some hm
          refine sv_98 hx hb hK hI g15 dX12_enters_111 (fun H locs hI => ?_)
          refine lv_iinc (v := v4 + 1) (lv' := [(4, .int (v4 + 1)), (0, .ref (ga g 59)), (1, .int u1), (2, .int u2), (3, .int u3)]) hx hb dX12_enters_112 hl (k := 4) rfl (congrArg (fun z => v4 + z) (show Int32.ofInt 1 = 1 by decide)) (by decide) rfl (fun ls hl => ?_)
          refine lv_goto (tgt := 49) hx hb dX12_enters_115 (by decide) ?_
          exact ih (sg (sg σ 96 (ix ((24 * u3) + v4)) 0) 98 (ix ((24 * u3) + v4)) 0) (v4 + 1) _ _ _ hm hI (lv_sub hl [1, 2, 3, 4, 0] rfl) hx118
        · have hm := (if_neg c13).symm.trans hm
          refine lv_aload_n hx hb dX12_enters_82 rfl (lv_at hl 0 rfl) ?_
          refine gf_59_50 hx hb ht hK hI mw_795 (fun _ h9 => h9) hown dX12_enters_83 ?_
          refine lv_bipush (v := 6) hx hb dX12_enters_86 (by decide) ?_
          refine lv_iload_n hx hb dX12_enters_88 rfl (lv_at hl 1 rfl) ?_
          refine lv_imul hx hb dX12_enters_89 ?_
          refine lv_iload hx hb dX12_enters_90 (lv_at hl 4 rfl) ?_
          refine lv_iadd hx hb dX12_enters_92 ?_
          obtain ⟨g16, hm⟩ := gb_some hm
          refine ld_100 hx hb hK hI g16 (v := σ 100 (ix ((6 * u1) + v4))) rfl dX12_enters_93 ?_
          refine lv_goto (tgt := 98) hx hb dX12_enters_94 (by decide) ?_
          obtain ⟨g17, hm⟩ := gb_some hm
          refine sv_96 hx hb hK hI g17 dX12_enters_98 (fun H locs hI => ?_)
          refine lv_aload_n hx hb dX12_enters_99 rfl (lv_at hl 0 rfl) ?_
          refine gf_59_48 hx hb ht hK hI mw_793 (fun _ h9 => h9) hown dX12_enters_100 ?_
          refine lv_bipush (v := 24) hx hb dX12_enters_103 (by decide) ?_
          refine lv_iload_n hx hb dX12_enters_105 rfl (lv_at hl 3 rfl) ?_
          refine lv_imul hx hb dX12_enters_106 ?_
          refine lv_iload hx hb dX12_enters_107 (lv_at hl 4 rfl) ?_
          refine lv_iadd hx hb dX12_enters_109 ?_
          refine lv_iconst (v := 0) hx hb dX12_enters_110 (by decide) ?_
          obtain ⟨g18, hm⟩ := gb_some hm
          refine sv_98 hx hb hK hI g18 dX12_enters_111 (fun H locs hI => ?_)
          refine lv_iinc (v := v4 + 1) (lv' := [(4, .int (v4 + 1)), (0, .ref (ga g 59)), (1, .int u1), (2, .int u2), (3, .int u3)]) hx hb dX12_enters_112 hl (k := 4) rfl (congrArg (fun z => v4 + z) (show Int32.ofInt 1 = 1 by decide)) (by decide) rfl (fun ls hl => ?_)
          refine lv_goto (tgt := 49) hx hb dX12_enters_115 (by decide) ?_
          exact ih (sg (sg σ 96 (ix ((24 * u3) + v4)) (σ 100 (ix ((6 * u1) + v4)))) 98 (ix ((24 * u3) + v4)) 0) (v4 + 1) _ _ _ hm hI (lv_sub hl [1, 2, 3, 4, 0] rfl) hx118
set_option maxHeartbeats 4000000 in
set_option maxRecDepth 100000 in
theorem lp_X12_enters_121 {p : Program} {l : Launch} {e : Env} {s : State} {m : MethodId} {args : Array Value} {below : List Frame} {meth : Method} {c : Code} {Q : State → Prop} {A : Nat → Prop} {g : GG} {q N n : Nat} {out : Int32 × Sg} {u1 : Int32} {u2 : Int32} {u3 : Int32} {K173 : (Sg → Int32 → Option (Int32 × Sg))}
    (hC : CXv p l e (qR 0 0) s m args below meth c cX12_enters 5 RX12 g q n A Q (some out)) :
    ∀ (k : Nat) (σ : Sg) (v4 : Int32) (H : Heap) (locs : List Loc) (ls : Array Slot), lf_X12_enters_121 N n u1 u2 u3 K173 k σ v4 = some out → wI g q n σ A s.heap H locs → lv_has ls 5 [(0, .ref (ga g 59)), (1, .int u1), (2, .int u2), (3, .int u3), (4, .int v4)] → (∀ (σ : Sg) (v4 : Int32) (H : Heap) (locs : List Loc) (ls : Array Slot), K173 σ v4 = some out → wI g q n σ A s.heap H locs → lv_has ls 5 [(0, .ref (ga g 59)), (2, .int u2), (3, .int u3)] → W p l e (qR 0 0) s m args below meth c H locs 0 0 Q (F0 m 173 ls [])) → W p l e (qR 0 0) s m args below meth c H locs 0 0 Q (F0 m 121 ls []) := by
  obtain ⟨hX, hK, hN, hZ, hA, hR⟩ := id hC
  have hx : p.tables.exec = Jvm.exec := hX.1
  have hb : c.code = cX12_enters := hX.2.1
  have hml : c.maxLocals = 5 := hX.2.2.1
  have hown : s.vm.findClass RX12 = some m.cls := hX.2.2.2.1
  have ht : ∀ w ∈ BIG, w.before args s = true := hX.2.2.2.2
  intro k
  induction k with
  | zero =>
    intro σ v4 H locs ls hm
    have hm : none = some out := hm
    exact nomatch hm
  | succ k ih =>
    intro σ v4 H locs ls hm hI hl hx173
    have hm : lb_X12_enters_121 N n u1 u2 u3 K173 (lf_X12_enters_121 N n u1 u2 u3 K173 k) σ v4 = some out := hm
    unfold lb_X12_enters_121 at hm
    refine lv_iload hx hb dX12_enters_121 (lv_at hl 4 rfl) ?_
    refine lv_bipush (v := 6) hx hb dX12_enters_123 (by decide) ?_
    refine lv_icmp_ge (tgt := 173) hx hb dX12_enters_125 (by decide) (fun c21 => ?_) (fun c21 => ?_)
    · have hm := (if_pos c21).symm.trans hm
      exact hx173 σ v4 _ _ _ hm hI (lv_sub hl [0, 2, 3] rfl)
    · have hm := (if_neg c21).symm.trans hm
      refine lv_aload_n hx hb dX12_enters_128 rfl (lv_at hl 0 rfl) ?_
      refine gf_59_49 hx hb ht hK hI mw_794 (fun _ h9 => h9) hown dX12_enters_129 ?_
      refine lv_bipush (v := 7) hx hb dX12_enters_132 (by decide) ?_
      refine lv_iload_n hx hb dX12_enters_134 rfl (lv_at hl 3 rfl) ?_
      refine lv_imul hx hb dX12_enters_135 ?_
      refine lv_iload hx hb dX12_enters_136 (lv_at hl 4 rfl) ?_
      refine lv_iadd hx hb dX12_enters_138 ?_
      refine lv_iload hx hb dX12_enters_139 (lv_at hl 4 rfl) ?_
      refine lv_aload_n hx hb dX12_enters_141 rfl (lv_at hl 0 rfl) ?_
      refine gf_59_2 hx hb ht hK hI mw_755 (fun _ h9 => h9) hown dX12_enters_142 ?_
      refine lv_iload_n hx hb dX12_enters_145 rfl (lv_at hl 2 rfl) ?_
      obtain ⟨g22, hm⟩ := gb_some hm
      refine ld_60 hx hb hK hI g22 (v := σ 60 (ix u2)) rfl dX12_enters_146 ?_
      refine lv_icmp_ge (tgt := 165) hx hb dX12_enters_147 (by decide) (fun c23 => ?_) (fun c23 => ?_)
      · have hm := (if_pos c23).symm.trans hm
        refine lv_iconst (v := 0) hx hb dX12_enters_165 (by decide) ?_
        obtain ⟨g24, hm⟩ := gb_some hm
        refine sv_99 hx hb hK hI g24 dX12_enters_166 (fun H locs hI => ?_)
        refine lv_iinc (v := v4 + 1) (lv' := [(4, .int (v4 + 1)), (0, .ref (ga g 59)), (1, .int u1), (2, .int u2), (3, .int u3)]) hx hb dX12_enters_167 hl (k := 4) rfl (congrArg (fun z => v4 + z) (show Int32.ofInt 1 = 1 by decide)) (by decide) rfl (fun ls hl => ?_)
        refine lv_goto (tgt := 121) hx hb dX12_enters_170 (by decide) ?_
        exact ih (sg σ 99 (ix ((7 * u3) + v4)) 0) (v4 + 1) _ _ _ hm hI (lv_sub hl [1, 2, 3, 4, 0] rfl) hx173
      · have hm := (if_neg c23).symm.trans hm
        refine lv_aload_n hx hb dX12_enters_150 rfl (lv_at hl 0 rfl) ?_
        refine gf_59_50 hx hb ht hK hI mw_795 (fun _ h9 => h9) hown dX12_enters_151 ?_
        refine lv_bipush (v := 6) hx hb dX12_enters_154 (by decide) ?_
        refine lv_iload_n hx hb dX12_enters_156 rfl (lv_at hl 1 rfl) ?_
        refine lv_imul hx hb dX12_enters_157 ?_
        refine lv_iload hx hb dX12_enters_158 (lv_at hl 4 rfl) ?_
        refine lv_iadd hx hb dX12_enters_160 ?_
        obtain ⟨g25, hm⟩ := gb_some hm
        refine ld_100 hx hb hK hI g25 (v := σ 100 (ix ((6 * u1) + v4))) rfl dX12_enters_161 ?_
        refine lv_goto (tgt := 166) hx hb dX12_enters_162 (by decide) ?_
        obtain ⟨g26, hm⟩ := gb_some hm
        refine sv_99 hx hb hK hI g26 dX12_enters_166 (fun H locs hI => ?_)
        refine lv_iinc (v := v4 + 1) (lv' := [(4, .int (v4 + 1)), (0, .ref (ga g 59)), (1, .int u1), (2, .int u2), (3, .int u3)]) hx hb dX12_enters_167 hl (k := 4) rfl (congrArg (fun z => v4 + z) (show Int32.ofInt 1 = 1 by decide)) (by decide) rfl (fun ls hl => ?_)
        refine lv_goto (tgt := 121) hx hb dX12_enters_170 (by decide) ?_
        exact ih (sg σ 99 (ix ((7 * u3) + v4)) (σ 100 (ix ((6 * u1) + v4)))) (v4 + 1) _ _ _ hm hI (lv_sub hl [1, 2, 3, 4, 0] rfl) hx173
set_option maxHeartbeats 4000000 in
set_option maxRecDepth 100000 in
theorem c_X12_enters {l : Launch} {g : GG} {q : Nat} (N n : Nat) {σ : Sg} {p0 : Int32} {p1 : Int32} {r : Int32} {σ' : Sg} (hm : f_X12_enters N n σ p0 p1 = some (r, σ')) : CTv l yX12_enters cX12_enters 5 none 0 0 g q n [.ref (ga g 59), .int p0, .int p1] σ σ' := by
  refine e_v (r := r) (by decide) (Nat.le_of_ble_eq_true rfl) ?_
  intro p e s m args below meth c A Q ls hC hl hI
  obtain ⟨hX, hK, hN, hZ, hA, hR⟩ := id hC
  have hx : p.tables.exec = Jvm.exec := hX.1
  have hb : c.code = cX12_enters := hX.2.1
  have hml : c.maxLocals = 5 := hX.2.2.1
  have hown : s.vm.findClass RX12 = some m.cls := hX.2.2.2.1
  have ht : ∀ w ∈ BIG, w.before args s = true := hX.2.2.2.2
  have hl : lv_has ls 5 [(0, .ref (ga g 59)), (1, .int p0), (2, .int p1)] := hl
  unfold f_X12_enters at hm
  refine lv_bipush (v := 30) hx hb dX12_enters_0 (by decide) ?_
  refine lv_iload_n hx hb dX12_enters_2 rfl (lv_at hl 1 rfl) ?_
  refine lv_imul hx hb dX12_enters_3 ?_
  refine lv_aload_n hx hb dX12_enters_4 rfl (lv_at hl 0 rfl) ?_
  refine gf_59_43 hx hb ht hK hI mw_788 (fun _ h9 => h9) hown dX12_enters_5 ?_
  refine lv_iload_n hx hb dX12_enters_8 rfl (lv_at hl 1 rfl) ?_
  obtain ⟨g1, hm⟩ := gb_some hm
  refine ld_93 hx hb hK hI g1 (v := σ 93 (ix p0)) rfl dX12_enters_9 ?_
  refine lv_iadd hx hb dX12_enters_10 ?_
  refine lv_istore_n (lv' := [(3, .int ((30 * p0) + (σ 93 (ix p0)))), (0, .ref (ga g 59)), (1, .int p0), (2, .int p1)]) hx hb dX12_enters_11 rfl hl (by decide) rfl (fun ls hl => ?_)
  refine lv_aload_n hx hb dX12_enters_12 rfl (lv_at hl 1 rfl) ?_
  refine gf_59_43 hx hb ht hK hI mw_788 (fun _ h9 => h9) hown dX12_enters_13 ?_
  refine lv_iload_n hx hb dX12_enters_16 rfl (lv_at hl 2 rfl) ?_
  refine lv_dup2_11 hx hb dX12_enters_17 rfl rfl ?_
  obtain ⟨g2, hm⟩ := gb_some hm
  refine ld_93 hx hb hK hI g2 (v := σ 93 (ix p0)) rfl dX12_enters_18 ?_
  refine lv_iconst (v := 1) hx hb dX12_enters_19 (by decide) ?_
  refine lv_iadd hx hb dX12_enters_20 ?_
  obtain ⟨g3, hm⟩ := gb_some hm
  refine sv_93 hx hb hK hI g3 dX12_enters_21 (fun H locs hI => ?_)
  refine lv_aload_n hx hb dX12_enters_22 rfl (lv_at hl 1 rfl) ?_
  refine gf_59_42 hx hb ht hK hI mw_787 (fun _ h9 => h9) hown dX12_enters_23 ?_
  refine lv_iload_n hx hb dX12_enters_26 rfl (lv_at hl 2 rfl) ?_
  refine lv_dup2_11 hx hb dX12_enters_27 rfl rfl ?_
  obtain ⟨g4, hm⟩ := gb_some hm
  refine ld_92 hx hb hK hI g4 (v := σ 92 (ix p0)) rfl dX12_enters_28 ?_
  refine lv_iconst (v := 1) hx hb dX12_enters_29 (by decide) ?_
  refine lv_iadd hx hb dX12_enters_30 ?_
  obtain ⟨g5, hm⟩ := gb_some hm
  refine sv_92 hx hb hK hI g5 dX12_enters_31 (fun H locs hI => ?_)
  refine lv_aload_n hx hb dX12_enters_32 rfl (lv_at hl 1 rfl) ?_
  refine gf_59_44 hx hb ht hK hI mw_789 (fun _ h9 => h9) hown dX12_enters_33 ?_
  refine lv_iload_n hx hb dX12_enters_36 rfl (lv_at hl 0 rfl) ?_
  refine lv_iload_n hx hb dX12_enters_37 rfl (lv_at hl 3 rfl) ?_
  obtain ⟨g6, hm⟩ := gb_some hm
  refine sv_94 hx hb hK hI g6 dX12_enters_38 (fun H locs hI => ?_)
  refine lv_aload_n hx hb dX12_enters_39 rfl (lv_at hl 1 rfl) ?_
  refine gf_59_45 hx hb ht hK hI mw_790 (fun _ h9 => h9) hown dX12_enters_40 ?_
  refine lv_iload_n hx hb dX12_enters_43 rfl (lv_at hl 0 rfl) ?_
  refine lv_iconst (v := 0) hx hb dX12_enters_44 (by decide) ?_
  obtain ⟨g7, hm⟩ := gb_some hm
  refine sv_95 hx hb hK hI g7 dX12_enters_45 (fun H locs hI => ?_)
  refine lv_iconst (v := 0) hx hb dX12_enters_46 (by decide) ?_
  refine lv_istore (lv' := [(4, .int 0), (3, .int ((30 * p0) + (σ 93 (ix p0)))), (0, .ref (ga g 59)), (1, .int p0), (2, .int p1)]) hx hb dX12_enters_47 hl (by decide) rfl (fun ls hl => ?_)
  refine lp_X12_enters_49 hC N _ _ _ _ _ hm hI (lv_sub hl [2, 3, 4, 1, 0] rfl) ?_
  intro σ19 w20 H locs ls hm hI hl
  refine lv_iconst (v := 0) hx hb dX12_enters_118 (by decide) ?_
  refine lv_istore (lv' := [(4, .int 0), (0, .ref (ga g 59)), (1, .int p0), (2, .int p1), (3, .int ((30 * p0) + (σ 93 (ix p0))))]) hx hb dX12_enters_119 hl (by decide) rfl (fun ls hl => ?_)
  refine lp_X12_enters_121 hC N _ _ _ _ _ hm hI (lv_sub hl [1, 2, 3, 4, 0] rfl) ?_
  intro σ27 w28 H locs ls hm hI hl
  refine lv_aload_n hx hb dX12_enters_173 rfl (lv_at hl 0 rfl) ?_
  refine gf_59_47 hx hb ht hK hI mw_792 (fun _ h9 => h9) hown dX12_enters_174 ?_
  refine lv_iload_n hx hb dX12_enters_177 rfl (lv_at hl 2 rfl) ?_
  refine lv_aload_n hx hb dX12_enters_178 rfl (lv_at hl 0 rfl) ?_
  refine gf_59_3 hx hb ht hK hI mw_756 (fun _ h9 => h9) hown dX12_enters_179 ?_
  refine lv_iload_n hx hb dX12_enters_182 rfl (lv_at hl 1 rfl) ?_
  obtain ⟨g29, hm⟩ := gb_some hm
  refine ld_61 hx hb hK hI g29 (v := σ27 61 (ix p1)) rfl dX12_enters_183 ?_
  obtain ⟨g30, hm⟩ := gb_some hm
  refine sv_97 hx hb hK hI g30 dX12_enters_184 (fun H locs hI => ?_)
  exact hR _ _ _ _ _ hm hI dX12_enters_185
def f_X12_ends (N n : Nat) (σ : Sg) (p0 : Int32) (p1 : Int32) : Option (Int32 × Sg) := gb p0 2 (gb p0 2 (some (0, sg (sg σ 89 (ix p0) p1) 93 (ix p0) 0)))
set_option maxHeartbeats 4000000 in
set_option maxRecDepth 100000 in
theorem c_X12_ends {l : Launch} {g : GG} {q : Nat} (N n : Nat) {σ : Sg} {p0 : Int32} {p1 : Int32} {r : Int32} {σ' : Sg} (hm : f_X12_ends N n σ p0 p1 = some (r, σ')) : CTv l yX12_ends cX12_ends 3 none 0 0 g q n [.ref (ga g 59), .int p0, .int p1] σ σ' := by
  refine e_v (r := r) (by decide) (Nat.le_of_ble_eq_true rfl) ?_
  intro p e s m args below meth c A Q ls hC hl hI
  obtain ⟨hX, hK, hN, hZ, hA, hR⟩ := id hC
  have hx : p.tables.exec = Jvm.exec := hX.1
  have hb : c.code = cX12_ends := hX.2.1
  have hml : c.maxLocals = 3 := hX.2.2.1
  have hown : s.vm.findClass RX12 = some m.cls := hX.2.2.2.1
  have ht : ∀ w ∈ BIG, w.before args s = true := hX.2.2.2.2
  have hl : lv_has ls 3 [(0, .ref (ga g 59)), (1, .int p0), (2, .int p1)] := hl
  unfold f_X12_ends at hm
  refine lv_aload_n hx hb dX12_ends_0 rfl (lv_at hl 0 rfl) ?_
  refine gf_59_39 hx hb ht hK hI mw_784 (fun _ h9 => h9) hown dX12_ends_1 ?_
  refine lv_iload_n hx hb dX12_ends_4 rfl (lv_at hl 1 rfl) ?_
  refine lv_iload_n hx hb dX12_ends_5 rfl (lv_at hl 2 rfl) ?_
  obtain ⟨g1, hm⟩ := gb_some hm
  refine sv_89 hx hb hK hI g1 dX12_ends_6 (fun H locs hI => ?_)
  refine lv_aload_n hx hb dX12_ends_7 rfl (lv_at hl 0 rfl) ?_
  refine gf_59_43 hx hb ht hK hI mw_788 (fun _ h9 => h9) hown dX12_ends_8 ?_
  refine lv_iload_n hx hb dX12_ends_11 rfl (lv_at hl 1 rfl) ?_
  refine lv_iconst (v := 0) hx hb dX12_ends_12 (by decide) ?_
  obtain ⟨g2, hm⟩ := gb_some hm
  refine sv_93 hx hb hK hI g2 dX12_ends_13 (fun H locs hI => ?_)
  exact hR _ _ _ _ _ hm hI dX12_ends_14
def lb_X12_callStack_27 (N n : Nat) (u1 : Int32) (K47 : (Sg → Int32 → Option (Int32 × Sg))) (rec : (Sg → Int32 → Option (Int32 × Sg))) (σ : Sg) (v2 : Int32) : Option (Int32 × Sg) := if v2 < 0 then (K47 σ v2) else (bd (f_X12_pop N n σ ) (fun r5 σ6 => gb v2 12 (rec (sg σ6 100 (ix v2) r5) (v2 + (-1)))))
def lf_X12_callStack_27 (N n : Nat) (u1 : Int32) (K47 : (Sg → Int32 → Option (Int32 × Sg))) : Nat → (Sg → Int32 → Option (Int32 × Sg))
  | 0 => fun _ _ => none
  | k + 1 => lb_X12_callStack_27 N n u1 K47 (lf_X12_callStack_27 N n u1 K47 k)
def f_X12_callStack (N n : Nat) (σ : Sg) (p0 : Int32) : Option (Int32 × Sg) := gb 0 2 (if (σ 93 (ix 0)) = 30 then (bd (f_X12_ends N n σ 0 4) (fun r14 σ15 => some (0, σ15))) else (gb p0 12 (lf_X12_callStack_27 N n p0 (fun σ9 w10 => bd (f_X12_enters N n σ9 0 p0) (fun r11 σ12 => some (0, σ12))) N σ ((σ 60 (ix p0)) - 1))))
set_option maxHeartbeats 4000000 in
set_option maxRecDepth 100000 in
theorem lp_X12_callStack_27 {p : Program} {l : Launch} {e : Env} {s : State} {m : MethodId} {args : Array Value} {below : List Frame} {meth : Method} {c : Code} {Q : State → Prop} {A : Nat → Prop} {g : GG} {q N n : Nat} {out : Int32 × Sg} {u1 : Int32} {K47 : (Sg → Int32 → Option (Int32 × Sg))}
    (hC : CXv p l e (qR 1 24) s m args below meth c cX12_callStack 3 RX12 g q n A Q (some out)) :
    ∀ (k : Nat) (σ : Sg) (v2 : Int32) (H : Heap) (locs : List Loc) (ls : Array Slot), lf_X12_callStack_27 N n u1 K47 k σ v2 = some out → wI g q n σ A s.heap H locs → lv_has ls 3 [(0, .ref (ga g 59)), (1, .int u1), (2, .int v2)] → (∀ (σ : Sg) (v2 : Int32) (H : Heap) (locs : List Loc) (ls : Array Slot), K47 σ v2 = some out → wI g q n σ A s.heap H locs → lv_has ls 3 [(0, .ref (ga g 59)), (1, .int u1)] → W p l e (qR 1 24) s m args below meth c H locs 0 0 Q (F0 m 47 ls [])) → W p l e (qR 1 24) s m args below meth c H locs 0 0 Q (F0 m 27 ls []) := by
  obtain ⟨hX, hK, hN, hZ, hA, hR⟩ := id hC
  have hx : p.tables.exec = Jvm.exec := hX.1
  have hb : c.code = cX12_callStack := hX.2.1
  have hml : c.maxLocals = 3 := hX.2.2.1
  have hown : s.vm.findClass RX12 = some m.cls := hX.2.2.2.1
  have ht : ∀ w ∈ BIG, w.before args s = true := hX.2.2.2.2
  intro k
  induction k with
  | zero =>
    intro σ v2 H locs ls hm
    have hm : none = some out := hm
    exact nomatch hm
  | succ k ih =>
    intro σ v2 H locs ls hm hI hl hx47
    have hm : lb_X12_callStack_27 N n u1 K47 (lf_X12_callStack_27 N n u1 K47 k) σ v2 = some out := hm
    unfold lb_X12_callStack_27 at hm
    refine lv_iload_n hx hb dX12_callStack_27 rfl (lv_at hl 2 rfl) ?_
    refine lv_if_lt (tgt := 47) hx hb dX12_callStack_28 (by decide) (fun c4 => ?_) (fun c4 => ?_)
    · have hm := (if_pos c4).symm.trans hm
      exact hx47 σ v2 _ _ _ hm hI (lv_sub hl [0, 1] rfl)
    · have hm := (if_neg c4).symm.trans hm
      refine lv_aload_n hx hb dX12_callStack_31 rfl (lv_at hl 0 rfl) ?_
      refine gf_59_50 hx hb ht hK hI mw_795 (fun _ h9 => h9) hown dX12_callStack_32 ?_
      refine lv_iload_n hx hb dX12_callStack_35 rfl (lv_at hl 2 rfl) ?_
      refine lv_aload_n hx hb dX12_callStack_36 rfl (lv_at hl 0 rfl) ?_
      obtain ⟨r5, σ6, h7, hm⟩ := bd_some hm
      refine k_i hI hA (va_runV (As := []) (rest := [.int v2, .ref (ga g 100)]) hX (c_X12_pop N n h7 _) (cwV 0 ht (in_V mw_1021 mw_1022 mw_1023 mw_861 mw_1018) rfl rfl rfl pd_X12_pop ⟨Nat.le_of_ble_eq_true rfl, Nat.le_of_ble_eq_true rfl⟩) ⟨q_blind, va_recv hK hI.1 (ci := 11) (q0 := 59) rfl rfl, q_to hI hK hN hZ hA⟩ rfl rfl hl.1 rfl (lv_room (Nat.le_of_ble_eq_true rfl)) dX12_callStack_37 (by decide)) (fun H locs hI => ?_)
      obtain ⟨g8, hm⟩ := gb_some hm
      refine sv_100 hx hb hK hI g8 dX12_callStack_40 (fun H locs hI => ?_)
      refine lv_iinc (v := v2 + (-1)) (lv' := [(2, .int (v2 + (-1))), (0, .ref (ga g 59)), (1, .int u1)]) hx hb dX12_callStack_41 hl (k := 2) rfl (congrArg (fun z => v2 + z) (show Int32.ofInt (-1) = (-1) by decide)) (by decide) rfl (fun ls hl => ?_)
      refine lv_goto (tgt := 27) hx hb dX12_callStack_44 (by decide) ?_
      exact ih (sg σ6 100 (ix v2) r5) (v2 + (-1)) _ _ _ hm hI (lv_sub hl [1, 2, 0] rfl) hx47
set_option maxHeartbeats 4000000 in
set_option maxRecDepth 100000 in
theorem c_X12_callStack {l : Launch} {g : GG} {q : Nat} (N n : Nat) {σ : Sg} {p0 : Int32} {r : Int32} {σ' : Sg} (hm : f_X12_callStack N n σ p0 = some (r, σ')) : CTv l yX12_callStack cX12_callStack 3 none 1 24 g q n [.ref (ga g 59), .int p0] σ σ' := by
  refine e_v (r := r) (by decide) (Nat.le_of_ble_eq_true rfl) ?_
  intro p e s m args below meth c A Q ls hC hl hI
  obtain ⟨hX, hK, hN, hZ, hA, hR⟩ := id hC
  have hx : p.tables.exec = Jvm.exec := hX.1
  have hb : c.code = cX12_callStack := hX.2.1
  have hml : c.maxLocals = 3 := hX.2.2.1
  have hown : s.vm.findClass RX12 = some m.cls := hX.2.2.2.1
  have ht : ∀ w ∈ BIG, w.before args s = true := hX.2.2.2.2
  have hl : lv_has ls 3 [(0, .ref (ga g 59)), (1, .int p0)] := hl
  unfold f_X12_callStack at hm
  refine lv_aload_n hx hb dX12_callStack_0 rfl (lv_at hl 0 rfl) ?_
  refine gf_59_43 hx hb ht hK hI mw_788 (fun _ h9 => h9) hown dX12_callStack_1 ?_
  refine lv_iconst (v := 0) hx hb dX12_callStack_4 (by decide) ?_
  obtain ⟨g1, hm⟩ := gb_some hm
  refine ld_93 hx hb hK hI g1 (v := σ 93 (ix 0)) rfl dX12_callStack_5 ?_
  refine lv_bipush (v := 30) hx hb dX12_callStack_6 (by decide) ?_
  refine lv_icmp_ne (tgt := 18) hx hb dX12_callStack_8 (by decide) (fun c2 => ?_) (fun c2 => ?_)
  · have hm := (if_neg c2).symm.trans hm
    refine lv_aload_n hx hb dX12_callStack_18 rfl (lv_at hl 0 rfl) ?_
    refine gf_59_2 hx hb ht hK hI mw_755 (fun _ h9 => h9) hown dX12_callStack_19 ?_
    refine lv_iload_n hx hb dX12_callStack_22 rfl (lv_at hl 1 rfl) ?_
    obtain ⟨g3, hm⟩ := gb_some hm
    refine ld_60 hx hb hK hI g3 (v := σ 60 (ix p0)) rfl dX12_callStack_23 ?_
    refine lv_iconst (v := 1) hx hb dX12_callStack_24 (by decide) ?_
    refine lv_isub hx hb dX12_callStack_25 ?_
    refine lv_istore_n (lv' := [(2, .int ((σ 60 (ix p0)) - 1)), (0, .ref (ga g 59)), (1, .int p0)]) hx hb dX12_callStack_26 rfl hl (by decide) rfl (fun ls hl => ?_)
    refine lp_X12_callStack_27 hC N _ _ _ _ _ hm hI (lv_sub hl [1, 2, 0] rfl) ?_
    intro σ9 w10 H locs ls hm hI hl
    refine lv_aload_n hx hb dX12_callStack_47 rfl (lv_at hl 0 rfl) ?_
    refine lv_iconst (v := 0) hx hb dX12_callStack_48 (by decide) ?_
    refine lv_iload_n hx hb dX12_callStack_49 rfl (lv_at hl 1 rfl) ?_
    obtain ⟨r11, σ12, h13, hm⟩ := bd_some hm
    refine k_v hI hA (va_runV (As := [.int 0, .int p0]) (rest := []) hX (c_X12_enters N n h13 _) (cwV 2 ht (in_V mw_1024 mw_1025 mw_1026 mw_861 mw_1008) rfl rfl rfl pd_X12_enters ⟨Nat.le_of_ble_eq_true rfl, Nat.le_of_ble_eq_true rfl⟩) ⟨q_blind, va_recv hK hI.1 (ci := 11) (q0 := 59) rfl rfl, q_to hI hK hN hZ hA⟩ rfl rfl hl.1 rfl (lv_room (Nat.le_of_ble_eq_true rfl)) dX12_callStack_50 (by decide)) (fun H locs hI => ?_)
    exact hR _ _ _ _ _ hm hI dX12_callStack_53
  · have hm := (if_pos c2).symm.trans hm
    refine lv_aload_n hx hb dX12_callStack_11 rfl (lv_at hl 0 rfl) ?_
    refine lv_iconst (v := 0) hx hb dX12_callStack_12 (by decide) ?_
    refine lv_iconst (v := 4) hx hb dX12_callStack_13 (by decide) ?_
    obtain ⟨r14, σ15, h16, hm⟩ := bd_some hm
    refine k_v hI hA (va_runV (As := [.int 0, .int 4]) (rest := []) hX (c_X12_ends N n h16 _) (cwV 2 ht (in_V mw_1012 mw_1013 mw_1014 mw_861 mw_1009) rfl rfl rfl pd_X12_ends ⟨Nat.le_of_ble_eq_true rfl, Nat.le_of_ble_eq_true rfl⟩) ⟨q_blind, va_recv hK hI.1 (ci := 11) (q0 := 59) rfl rfl, q_to hI hK hN hZ hA⟩ rfl rfl hl.1 rfl (lv_room (Nat.le_of_ble_eq_true rfl)) dX12_callStack_14 (by decide)) (fun H locs hI => ?_)
    exact hR _ _ _ _ _ hm hI dX12_callStack_17
def f_X12_isCell (N n : Nat) (σ : Sg) (p0 : Int32) : Option (Int32 × Sg) := if p0 < 0 then (some (0, σ)) else (if 64 ≤ p0 then (some (0, σ)) else (some (1, σ)))
set_option maxHeartbeats 4000000 in
set_option maxRecDepth 100000 in
theorem c_X12_isCell {l : Launch} {g : GG} {q : Nat} (N n : Nat) {σ : Sg} {p0 : Int32} {r : Int32} {σ' : Sg} (hm : f_X12_isCell N n σ p0 = some (r, σ')) : CTi l yX12_isCell cX12_isCell 1 (some .boolean) 0 0 g q n [.int p0] σ r σ' := by
  refine e_z (r := r) (by decide) (Nat.le_of_ble_eq_true rfl) ?_
  intro p e s m args below meth c A Q ls hC hl hI
  obtain ⟨hX, hK, hN, hZ, hA, hR⟩ := id hC
  have hx : p.tables.exec = Jvm.exec := hX.1
  have hb : c.code = cX12_isCell := hX.2.1
  have hml : c.maxLocals = 1 := hX.2.2.1
  have hown : s.vm.findClass RX12 = some m.cls := hX.2.2.2.1
  have ht : ∀ w ∈ BIG, w.before args s = true := hX.2.2.2.2
  have hl : lv_has ls 1 [(0, .int p0)] := hl
  unfold f_X12_isCell at hm
  refine lv_iload_n hx hb dX12_isCell_0 rfl (lv_at hl 0 rfl) ?_
  refine lv_if_lt (tgt := 14) hx hb dX12_isCell_1 (by decide) (fun c1 => ?_) (fun c1 => ?_)
  · have hm := (if_pos c1).symm.trans hm
    refine lv_iconst (v := 0) hx hb dX12_isCell_14 (by decide) ?_
    exact hR _ _ _ _ _ _ hm hI (by decide) dX12_isCell_15
  · have hm := (if_neg c1).symm.trans hm
    refine lv_iload_n hx hb dX12_isCell_4 rfl (lv_at hl 0 rfl) ?_
    refine lv_bipush (v := 64) hx hb dX12_isCell_5 (by decide) ?_
    refine lv_icmp_ge (tgt := 14) hx hb dX12_isCell_7 (by decide) (fun c2 => ?_) (fun c2 => ?_)
    · have hm := (if_pos c2).symm.trans hm
      refine lv_iconst (v := 0) hx hb dX12_isCell_14 (by decide) ?_
      exact hR _ _ _ _ _ _ hm hI (by decide) dX12_isCell_15
    · have hm := (if_neg c2).symm.trans hm
      refine lv_iconst (v := 1) hx hb dX12_isCell_10 (by decide) ?_
      refine lv_goto (tgt := 15) hx hb dX12_isCell_11 (by decide) ?_
      exact hR _ _ _ _ _ _ hm hI (by decide) dX12_isCell_15
def f_X12_cell (N n : Nat) (σ : Sg) (p0 : Int32) (p1 : Int32) : Option (Int32 × Sg) := bd (f_X12_isCell N n (sg σ 59 0 0) p0) (fun r1 σ2 => if r1 = 0 then (some (0, σ2)) else (gb p0 128 (gb (64 + p0) 128 (some (1, sg (sg σ2 88 (ix p0) p1) 88 (ix (64 + p0)) p1)))))
set_option maxHeartbeats 4000000 in
set_option maxRecDepth 100000 in
theorem c_X12_cell {l : Launch} {g : GG} {q : Nat} (N n : Nat) {σ : Sg} {p0 : Int32} {p1 : Int32} {r : Int32} {σ' : Sg} (hm : f_X12_cell N n σ p0 p1 = some (r, σ')) : CTi l yX12_cell cX12_cell 3 (some .boolean) 1 20 g q n [.ref (ga g 59), .int p0, .int p1] σ r σ' := by
  refine e_z (r := r) (by decide) (Nat.le_of_ble_eq_true rfl) ?_
  intro p e s m args below meth c A Q ls hC hl hI
  obtain ⟨hX, hK, hN, hZ, hA, hR⟩ := id hC
  have hx : p.tables.exec = Jvm.exec := hX.1
  have hb : c.code = cX12_cell := hX.2.1
  have hml : c.maxLocals = 3 := hX.2.2.1
  have hown : s.vm.findClass RX12 = some m.cls := hX.2.2.2.1
  have ht : ∀ w ∈ BIG, w.before args s = true := hX.2.2.2.2
  have hl : lv_has ls 3 [(0, .ref (ga g 59)), (1, .int p0), (2, .int p1)] := hl
  unfold f_X12_cell at hm
  refine lv_aload_n hx hb dX12_cell_0 rfl (lv_at hl 0 rfl) ?_
  refine lv_iconst (v := 0) hx hb dX12_cell_1 (by decide) ?_
  refine pf_59_0 hx hb ht hK hI mw_851 (fun _ h9 => h9) hown dX12_cell_2 (fun H locs hI => ?_)
  refine lv_iload_n hx hb dX12_cell_5 rfl (lv_at hl 1 rfl) ?_
  obtain ⟨r1, σ2, h3, hm⟩ := bd_some hm
  refine k_i hI hA (va_runS (As := [.int p0]) (rest := []) hX (c_X12_isCell N n h3 _) (va_cwS 1 ht (in_S mw_1030 mw_1031 mw_861 mw_1028) rfl rfl rfl pd_X12_isCell ⟨Nat.le_of_ble_eq_true rfl, Nat.le_of_ble_eq_true rfl⟩) ⟨q_blind, q_to hI hK hN hZ hA⟩ rfl rfl hl.1 rfl (lv_room (Nat.le_of_ble_eq_true rfl)) dX12_cell_6 (by decide)) (fun H locs hI => ?_)
  refine lv_if_ne (tgt := 14) hx hb dX12_cell_9 (by decide) (fun c4 => ?_) (fun c4 => ?_)
  · have hm := (if_neg c4).symm.trans hm
    refine lv_aload_n hx hb dX12_cell_14 rfl (lv_at hl 0 rfl) ?_
    refine gf_59_38 hx hb ht hK hI mw_783 (fun _ h9 => h9) hown dX12_cell_15 ?_
    refine lv_iload_n hx hb dX12_cell_18 rfl (lv_at hl 1 rfl) ?_
    refine lv_iload_n hx hb dX12_cell_19 rfl (lv_at hl 2 rfl) ?_
    obtain ⟨g5, hm⟩ := gb_some hm
    refine sv_88 hx hb hK hI g5 dX12_cell_20 (fun H locs hI => ?_)
    refine lv_aload_n hx hb dX12_cell_21 rfl (lv_at hl 0 rfl) ?_
    refine gf_59_38 hx hb ht hK hI mw_783 (fun _ h9 => h9) hown dX12_cell_22 ?_
    refine lv_bipush (v := 64) hx hb dX12_cell_25 (by decide) ?_
    refine lv_iload_n hx hb dX12_cell_27 rfl (lv_at hl 1 rfl) ?_
    refine lv_iadd hx hb dX12_cell_28 ?_
    refine lv_iload_n hx hb dX12_cell_29 rfl (lv_at hl 2 rfl) ?_
    obtain ⟨g6, hm⟩ := gb_some hm
    refine sv_88 hx hb hK hI g6 dX12_cell_30 (fun H locs hI => ?_)
    refine lv_iconst (v := 1) hx hb dX12_cell_31 (by decide) ?_
    exact hR _ _ _ _ _ _ hm hI (by decide) dX12_cell_32
  · have hm := (if_pos c4).symm.trans hm
    refine lv_iconst (v := 0) hx hb dX12_cell_12 (by decide) ?_
    exact hR _ _ _ _ _ _ hm hI (by decide) dX12_cell_13
