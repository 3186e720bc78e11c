def f_X11_isTurned (N n : Nat) (σ : Sg) (p0 : Int32) : Option (Int32 × Sg) := if (σ 11 7) = 0 then (some (0, σ)) else (bd (f_X6_hasFunc N n σ p0) (fun r2 σ3 => if r2 = 0 then (some (0, σ3)) else (some (1, σ3))))
set_option maxHeartbeats 4000000 in
set_option maxRecDepth 100000 in
theorem c_X11_isTurned {l : Launch} {g : GG} {q : Nat} (N n : Nat) {σ : Sg} {p0 : Int32} {r : Int32} {σ' : Sg} (hm : f_X11_isTurned N n σ p0 = some (r, σ')) : CTi l yX11_isTurned cX11_isTurned 2 (some .boolean) 1 21 g q n [.ref (ga g 0), .int p0] σ r σ' := by
  refine e_z (r := r) (by decide) (Nat.le_of_ble_eq_true rfl) ?_
  intro p e s m args below meth c A Q ls hC hl hI
  obtain ⟨hX, hK, hN, hZ, hA, hR⟩ := id hC
  have hx : p.tables.exec = Jvm.exec := hX.1
  have hb : c.code = cX11_isTurned := hX.2.1
  have hml : c.maxLocals = 2 := hX.2.2.1
  have hown : s.vm.findClass RX11 = some m.cls := hX.2.2.2.1
  have ht : ∀ w ∈ BIG, w.before args s = true := hX.2.2.2.2
  have hl : lv_has ls 2 [(0, .ref (ga g 0)), (1, .int p0)] := hl
  unfold f_X11_isTurned at hm
  refine lv_aload_n hx hb dX11_isTurned_0 rfl (lv_at hl 0 rfl) ?_
  refine gf_0_2 hx hb ht hK hI mw_646 (fun _ h9 => h9) hown dX11_isTurned_1 ?_
  refine gf_11_7 hx hb ht hK hI (v := σ 11 7) rfl mw_695 (fun _ h9 => h9) hown dX11_isTurned_4 ?_
  refine lv_if_eq (tgt := 25) hx hb dX11_isTurned_7 (by decide) (fun c1 => ?_) (fun c1 => ?_)
  · have hm := (if_pos c1).symm.trans hm
    refine lv_iconst (v := 0) hx hb dX11_isTurned_25 (by decide) ?_
    exact hR _ _ _ _ _ _ hm hI (by decide) dX11_isTurned_26
  · have hm := (if_neg c1).symm.trans hm
    refine lv_aload_n hx hb dX11_isTurned_10 rfl (lv_at hl 0 rfl) ?_
    refine gf_0_0 hx hb ht hK hI mw_640 (fun _ h9 => h9) hown dX11_isTurned_11 ?_
    refine lv_iload_n hx hb dX11_isTurned_14 rfl (lv_at hl 1 rfl) ?_
    obtain ⟨r2, σ3, h4, hm⟩ := bd_some hm
    refine k_i hI hA (va_runV (As := [.int p0]) (rest := []) hX (c_X6_hasFunc N n h4 _) (cwV 1 ht (in_V mw_688 mw_29 mw_30 mw_31 mw_23) rfl rfl rfl pd_X6_hasFunc ⟨Nat.le_of_ble_eq_true rfl, Nat.le_of_ble_eq_true rfl⟩) ⟨q_blind, va_recv hK hI.1 (ci := 5) (q0 := 1) rfl rfl, q_to hI hK hN hZ hA⟩ rfl rfl hl.1 rfl (lv_room (Nat.le_of_ble_eq_true rfl)) dX11_isTurned_15 (by decide)) (fun H locs hI => ?_)
    refine lv_if_eq (tgt := 25) hx hb dX11_isTurned_18 (by decide) (fun c5 => ?_) (fun c5 => ?_)
    · have hm := (if_pos c5).symm.trans hm
      refine lv_iconst (v := 0) hx hb dX11_isTurned_25 (by decide) ?_
      exact hR _ _ _ _ _ _ hm hI (by decide) dX11_isTurned_26
    · have hm := (if_neg c5).symm.trans hm
      refine lv_iconst (v := 1) hx hb dX11_isTurned_21 (by decide) ?_
      refine lv_goto (tgt := 26) hx hb dX11_isTurned_22 (by decide) ?_
      exact hR _ _ _ _ _ _ hm hI (by decide) dX11_isTurned_26
def f_X11_places (N n : Nat) (σ : Sg) (p0 : Int32) : Option (Int32 × Sg) := bd (f_X11_isTurned N n σ p0) (fun r1 σ2 => if r1 = 0 then (some ((-1), σ2)) else (gb p0 12 (some (σ2 12 (ix p0), σ2))))
set_option maxHeartbeats 4000000 in
set_option maxRecDepth 100000 in
theorem c_X11_places {l : Launch} {g : GG} {q : Nat} (N n : Nat) {σ : Sg} {p0 : Int32} {r : Int32} {σ' : Sg} (hm : f_X11_places N n σ p0 = some (r, σ')) : CTi l yX11_places cX11_places 2 (some .int) 2 42 g q n [.ref (ga g 0), .int p0] σ r σ' := by
  refine e_i (r := r) (by decide) (Nat.le_of_ble_eq_true rfl) ?_
  intro p e s m args below meth c A Q ls hC hl hI
  obtain ⟨hX, hK, hN, hZ, hA, hR⟩ := id hC
  have hx : p.tables.exec = Jvm.exec := hX.1
  have hb : c.code = cX11_places := hX.2.1
  have hml : c.maxLocals = 2 := hX.2.2.1
  have hown : s.vm.findClass RX11 = some m.cls := hX.2.2.2.1
  have ht : ∀ w ∈ BIG, w.before args s = true := hX.2.2.2.2
  have hl : lv_has ls 2 [(0, .ref (ga g 0)), (1, .int p0)] := hl
  unfold f_X11_places at hm
  refine lv_aload_n hx hb dX11_places_0 rfl (lv_at hl 0 rfl) ?_
  refine lv_iload_n hx hb dX11_places_1 rfl (lv_at hl 1 rfl) ?_
  obtain ⟨r1, σ2, h3, hm⟩ := bd_some hm
  refine k_i hI hA (va_runV (As := [.int p0]) (rest := []) hX (c_X11_isTurned N n h3 _) (cwV 1 ht (in_V mw_717 mw_718 mw_719 mw_267 mw_713) rfl rfl rfl pd_X11_isTurned ⟨Nat.le_of_ble_eq_true rfl, Nat.le_of_ble_eq_true rfl⟩) ⟨q_blind, va_recv hK hI.1 (ci := 10) (q0 := 0) rfl rfl, q_to hI hK hN hZ hA⟩ rfl rfl hl.1 rfl (lv_room (Nat.le_of_ble_eq_true rfl)) dX11_places_2 (by decide)) (fun H locs hI => ?_)
  refine lv_if_eq (tgt := 20) hx hb dX11_places_5 (by decide) (fun c4 => ?_) (fun c4 => ?_)
  · have hm := (if_pos c4).symm.trans hm
    refine lv_iconst (v := (-1)) hx hb dX11_places_20 (by decide) ?_
    exact hR _ _ _ _ _ _ hm hI dX11_places_21
  · have hm := (if_neg c4).symm.trans hm
    refine lv_aload_n hx hb dX11_places_8 rfl (lv_at hl 0 rfl) ?_
    refine gf_0_2 hx hb ht hK hI mw_646 (fun _ h9 => h9) hown dX11_places_9 ?_
    refine gf_11_6 hx hb ht hK hI mw_732 (fun _ h9 => h9) hown dX11_places_12 ?_
    refine lv_iload_n hx hb dX11_places_15 rfl (lv_at hl 1 rfl) ?_
    obtain ⟨g5, hm⟩ := gb_some hm
    refine ld_12 hx hb hK hI g5 (v := σ2 12 (ix p0)) rfl dX11_places_16 ?_
    refine lv_goto (tgt := 21) hx hb dX11_places_17 (by decide) ?_
    exact hR _ _ _ _ _ _ hm hI dX11_places_21
def f_X11_reckon (N n : Nat) (σ : Sg) (p0 : Int32) (p1 : Int32) (p2 : Int32) : Option (Int32 × Sg) := if p0 = 3 then (some (p1 + p2, σ)) else (if p0 = 4 then (some (p1 - p2, σ)) else (if p0 = 5 then (some (p1 * p2, σ)) else (if p0 = 6 then (if p2 = 0 then (some (0, σ)) else (gdz p2 (some (p1 / p2, σ)))) else (if p0 = 7 then (if p2 ≤ p1 then (some (0, σ)) else (some (1, σ))) else (if p1 = p2 then (some (1, σ)) else (some (0, σ)))))))
set_option maxHeartbeats 4000000 in
set_option maxRecDepth 100000 in
theorem c_X11_reckon {l : Launch} {g : GG} {q : Nat} (N n : Nat) {σ : Sg} {p0 : Int32} {p1 : Int32} {p2 : Int32} {r : Int32} {σ' : Sg} (hm : f_X11_reckon N n σ p0 p1 p2 = some (r, σ')) : CTi l yX11_reckon cX11_reckon 3 (some .int) 0 0 g q n [.int p0, .int p1, .int p2] σ r σ' := by
  refine e_i (r := r) (by decide) (Nat.le_of_ble_eq_true rfl) ?_
  intro p e s m args below meth c A Q ls hC hl hI
  obtain ⟨hX, hK, hN, hZ, hA, hR⟩ := id hC
  have hx : p.tables.exec = Jvm.exec := hX.1
  have hb : c.code = cX11_reckon := hX.2.1
  have hml : c.maxLocals = 3 := hX.2.2.1
  have hown : s.vm.findClass RX11 = some m.cls := hX.2.2.2.1
  have ht : ∀ w ∈ BIG, w.before args s = true := hX.2.2.2.2
  have hl : lv_has ls 3 [(0, .int p0), (1, .int p1), (2, .int p2)] := hl
  unfold f_X11_reckon at hm
  refine lv_iload_n hx hb dX11_reckon_0 rfl (lv_at hl 0 rfl) ?_
  by_cases c1 : p0 = 3
  · have hm := (if_pos c1).symm.trans hm
    refine lv_tableIn (off := 35) (tgt := 36) hx hb dX11_reckon_1 (by (rw [c1]; decide)) (by (rw [c1]; decide)) (by (rw [c1]; rfl)) (by decide) ?_
    refine lv_iload_n hx hb dX11_reckon_36 rfl (lv_at hl 1 rfl) ?_
    refine lv_iload_n hx hb dX11_reckon_37 rfl (lv_at hl 2 rfl) ?_
    refine lv_iadd hx hb dX11_reckon_38 ?_
    exact hR _ _ _ _ _ _ hm hI dX11_reckon_39
  have hm := (if_neg c1).symm.trans hm
  by_cases c2 : p0 = 4
  · have hm := (if_pos c2).symm.trans hm
    refine lv_tableIn (off := 39) (tgt := 40) hx hb dX11_reckon_1 (by (rw [c2]; decide)) (by (rw [c2]; decide)) (by (rw [c2]; rfl)) (by decide) ?_
    refine lv_iload_n hx hb dX11_reckon_40 rfl (lv_at hl 1 rfl) ?_
    refine lv_iload_n hx hb dX11_reckon_41 rfl (lv_at hl 2 rfl) ?_
    refine lv_isub hx hb dX11_reckon_42 ?_
    exact hR _ _ _ _ _ _ hm hI dX11_reckon_43
  have hm := (if_neg c2).symm.trans hm
  by_cases c3 : p0 = 5
  · have hm := (if_pos c3).symm.trans hm
    refine lv_tableIn (off := 43) (tgt := 44) hx hb dX11_reckon_1 (by (rw [c3]; decide)) (by (rw [c3]; decide)) (by (rw [c3]; rfl)) (by decide) ?_
    refine lv_iload_n hx hb dX11_reckon_44 rfl (lv_at hl 1 rfl) ?_
    refine lv_iload_n hx hb dX11_reckon_45 rfl (lv_at hl 2 rfl) ?_
    refine lv_imul hx hb dX11_reckon_46 ?_
    exact hR _ _ _ _ _ _ hm hI dX11_reckon_47
  have hm := (if_neg c3).symm.trans hm
  by_cases c4 : p0 = 6
  · have hm := (if_pos c4).symm.trans hm
    refine lv_tableIn (off := 47) (tgt := 48) hx hb dX11_reckon_1 (by (rw [c4]; decide)) (by (rw [c4]; decide)) (by (rw [c4]; rfl)) (by decide) ?_
    refine lv_iload_n hx hb dX11_reckon_48 rfl (lv_at hl 2 rfl) ?_
    refine lv_if_ne (tgt := 56) hx hb dX11_reckon_49 (by decide) (fun c5 => ?_) (fun c5 => ?_)
    · have hm := (if_neg c5).symm.trans hm
      refine lv_iload_n hx hb dX11_reckon_56 rfl (lv_at hl 1 rfl) ?_
      refine lv_iload_n hx hb dX11_reckon_57 rfl (lv_at hl 2 rfl) ?_
      obtain ⟨g6, hm⟩ := gdz_some hm
      refine lv_idiv hx hb dX11_reckon_58 g6 ?_
      exact hR _ _ _ _ _ _ hm hI dX11_reckon_59
    · have hm := (if_pos c5).symm.trans hm
      refine lv_iconst (v := 0) hx hb dX11_reckon_52 (by decide) ?_
      refine lv_goto (tgt := 59) hx hb dX11_reckon_53 (by decide) ?_
      exact hR _ _ _ _ _ _ hm hI dX11_reckon_59
  have hm := (if_neg c4).symm.trans hm
  by_cases c7 : p0 = 7
  · have hm := (if_pos c7).symm.trans hm
    refine lv_tableIn (off := 59) (tgt := 60) hx hb dX11_reckon_1 (by (rw [c7]; decide)) (by (rw [c7]; decide)) (by (rw [c7]; rfl)) (by decide) ?_
    refine lv_iload_n hx hb dX11_reckon_60 rfl (lv_at hl 1 rfl) ?_
    refine lv_iload_n hx hb dX11_reckon_61 rfl (lv_at hl 2 rfl) ?_
    refine lv_icmp_ge (tgt := 69) hx hb dX11_reckon_62 (by decide) (fun c8 => ?_) (fun c8 => ?_)
    · have hm := (if_pos c8).symm.trans hm
      refine lv_iconst (v := 0) hx hb dX11_reckon_69 (by decide) ?_
      exact hR _ _ _ _ _ _ hm hI dX11_reckon_70
    · have hm := (if_neg c8).symm.trans hm
      refine lv_iconst (v := 1) hx hb dX11_reckon_65 (by decide) ?_
      refine lv_goto (tgt := 70) hx hb dX11_reckon_66 (by decide) ?_
      exact hR _ _ _ _ _ _ hm hI dX11_reckon_70
  have hm := (if_neg c7).symm.trans hm
  refine sw_d (tgt := 71) hx hb [3, 4, 5, 6, 7] dX11_reckon_1 (by decide) (by decide) (ne_c (lv_neT c1 (by decide)) (ne_c (lv_neT c2 (by decide)) (ne_c (lv_neT c3 (by decide)) (ne_c (lv_neT c4 (by decide)) (ne_c (lv_neT c7 (by decide)) ne_n))))) (by decide) ?_
  refine lv_iload_n hx hb dX11_reckon_71 rfl (lv_at hl 1 rfl) ?_
  refine lv_iload_n hx hb dX11_reckon_72 rfl (lv_at hl 2 rfl) ?_
  refine lv_icmp_ne (tgt := 80) hx hb dX11_reckon_73 (by decide) (fun c9 => ?_) (fun c9 => ?_)
  · have hm := (if_neg c9).symm.trans hm
    refine lv_iconst (v := 0) hx hb dX11_reckon_80 (by decide) ?_
    exact hR _ _ _ _ _ _ hm hI dX11_reckon_81
  · have hm := (if_pos c9).symm.trans hm
    refine lv_iconst (v := 1) hx hb dX11_reckon_76 (by decide) ?_
    refine lv_goto (tgt := 81) hx hb dX11_reckon_77 (by decide) ?_
    exact hR _ _ _ _ _ _ hm hI dX11_reckon_81
def f_X4_room_X7 (N n : Nat) (σ : Sg)  : Option (Int32 × Sg) := some ((σ 52 7) - 1, σ)
set_option maxHeartbeats 4000000 in
set_option maxRecDepth 100000 in
theorem c_X4_room_X7 {l : Launch} {g : GG} {q : Nat} (N n : Nat) {σ : Sg}  {r : Int32} {σ' : Sg} (hm : f_X4_room_X7 N n σ  = some (r, σ')) : CTi l yX4_room cX4_room 1 (some .int) 0 0 g q n [.ref (ga g 52)] σ r σ' := by
  refine e_i (r := r) (by decide) (Nat.le_of_ble_eq_true rfl) ?_
  intro p e s m args below meth c A Q ls hC hl hI
  obtain ⟨hX, hK, hN, hZ, hA, hR⟩ := id hC
  have hx : p.tables.exec = Jvm.exec := hX.1
  have hb : c.code = cX4_room := hX.2.1
  have hml : c.maxLocals = 1 := hX.2.2.1
  have hown : s.vm.findClass RX4 = some m.cls := hX.2.2.2.1
  have ht : ∀ w ∈ BIG, w.before args s = true := hX.2.2.2.2
  have hl : lv_has ls 1 [(0, .ref (ga g 52))] := hl
  unfold f_X4_room_X7 at hm
  refine lv_aload_n hx hb dX4_room_0 rfl (lv_at hl 0 rfl) ?_
  refine gf_52_7 hx hb ht hK hI (v := σ 52 7) rfl mw_228 (fun _ h9 => h9) hown dX4_room_1 ?_
  refine lv_iconst (v := 1) hx hb dX4_room_4 (by decide) ?_
  refine lv_isub hx hb dX4_room_5 ?_
  exact hR _ _ _ _ _ _ hm hI dX4_room_6
def f_X1_part (N n : Nat) (σ : Sg) (p0 : Int32) (p1 : Int32) (p2 : Int32) : Option (Int32 × Sg) := gb p0 12 (gb ((((σ 40 (ix p0)) + p1) * 5) + p2) n (some (σ 42 (ix ((((σ 40 (ix p0)) + p1) * 5) + p2)), σ)))
set_option maxHeartbeats 4000000 in
set_option maxRecDepth 100000 in
theorem c_X1_part {l : Launch} {g : GG} {q : Nat} (N n : Nat) {σ : Sg} {p0 : Int32} {p1 : Int32} {p2 : Int32} {r : Int32} {σ' : Sg} (hm : f_X1_part N n σ p0 p1 p2 = some (r, σ')) : CTi l yX1_part cX1_part 4 (some .int) 0 0 g q n [.ref (ga g 39), .int p0, .int p1, .int p2] σ r σ' := by
  refine e_i (r := r) (by decide) (Nat.le_of_ble_eq_true rfl) ?_
  intro p e s m args below meth c A Q ls hC hl hI
  obtain ⟨hX, hK, hN, hZ, hA, hR⟩ := id hC
  have hx : p.tables.exec = Jvm.exec := hX.1
  have hb : c.code = cX1_part := hX.2.1
  have hml : c.maxLocals = 4 := hX.2.2.1
  have hown : s.vm.findClass RX1 = some m.cls := hX.2.2.2.1
  have ht : ∀ w ∈ BIG, w.before args s = true := hX.2.2.2.2
  have hl : lv_has ls 4 [(0, .ref (ga g 39)), (1, .int p0), (2, .int p1), (3, .int p2)] := hl
  unfold f_X1_part at hm
  refine lv_aload_n hx hb dX1_part_0 rfl (lv_at hl 0 rfl) ?_
  refine gf_39_3 hx hb ht hK hI mw_69 (fun _ h9 => h9) hown dX1_part_1 ?_
  refine lv_aload_n hx hb dX1_part_4 rfl (lv_at hl 0 rfl) ?_
  refine gf_39_0 hx hb ht hK hI mw_67 (fun _ h9 => h9) hown dX1_part_5 ?_
  refine lv_iload_n hx hb dX1_part_8 rfl (lv_at hl 1 rfl) ?_
  obtain ⟨g1, hm⟩ := gb_some hm
  refine ld_40 hx hb hK hI g1 (v := σ 40 (ix p0)) rfl dX1_part_9 ?_
  refine lv_iload_n hx hb dX1_part_10 rfl (lv_at hl 2 rfl) ?_
  refine lv_iadd hx hb dX1_part_11 ?_
  refine lv_iconst (v := 5) hx hb dX1_part_12 (by decide) ?_
  refine lv_imul hx hb dX1_part_13 ?_
  refine lv_iload_n hx hb dX1_part_14 rfl (lv_at hl 3 rfl) ?_
  refine lv_iadd hx hb dX1_part_15 ?_
  obtain ⟨g2, hm⟩ := gb_some hm
  refine ld_42 hx hb hK hI g2 (v := σ 42 (ix ((((σ 40 (ix p0)) + p1) * 5) + p2))) rfl dX1_part_16 ?_
  exact hR _ _ _ _ _ _ hm hI dX1_part_17
def f_X4_finish_X7 (N n : Nat) (σ : Sg) (p0 : Int32) : Option (Int32 × Sg) := some (0, sg (sg σ 52 3 p0) 52 7 0)
set_option maxHeartbeats 4000000 in
set_option maxRecDepth 100000 in
theorem c_X4_finish_X7 {l : Launch} {g : GG} {q : Nat} (N n : Nat) {σ : Sg} {p0 : Int32} {r : Int32} {σ' : Sg} (hm : f_X4_finish_X7 N n σ p0 = some (r, σ')) : CTv l yX4_finish cX4_finish 2 none 0 0 g q n [.ref (ga g 52), .int p0] σ σ' := by
  refine e_v (r := r) (by decide) (Nat.le_of_ble_eq_true rfl) ?_
  intro p e s m args below meth c A Q ls hC hl hI
  obtain ⟨hX, hK, hN, hZ, hA, hR⟩ := id hC
  have hx : p.tables.exec = Jvm.exec := hX.1
  have hb : c.code = cX4_finish := hX.2.1
  have hml : c.maxLocals = 2 := hX.2.2.1
  have hown : s.vm.findClass RX4 = some m.cls := hX.2.2.2.1
  have ht : ∀ w ∈ BIG, w.before args s = true := hX.2.2.2.2
  have hl : lv_has ls 2 [(0, .ref (ga g 52)), (1, .int p0)] := hl
  unfold f_X4_finish_X7 at hm
  refine lv_aload_n hx hb dX4_finish_0 rfl (lv_at hl 0 rfl) ?_
  refine lv_iload_n hx hb dX4_finish_1 rfl (lv_at hl 1 rfl) ?_
  refine pf_52_3 hx hb ht hK hI mw_224 (fun _ h9 => h9) hown dX4_finish_2 (fun H locs hI => ?_)
  refine lv_aload_n hx hb dX4_finish_5 rfl (lv_at hl 0 rfl) ?_
  refine lv_iconst (v := 0) hx hb dX4_finish_6 (by decide) ?_
  refine pf_52_7 hx hb ht hK hI mw_228 (fun _ h9 => h9) hown dX4_finish_7 (fun H locs hI => ?_)
  exact hR _ _ _ _ _ hm hI dX4_finish_10
def f_X4_canReckon_X7 (N n : Nat) (σ : Sg) (p0 : Int32) (p1 : Int32) : Option (Int32 × Sg) := if p0 = 6 then (if p1 = 0 then (bd (f_X4_finish_X7 N n σ 2) (fun r3 σ4 => some (0, σ4))) else (some (1, σ))) else (some (1, σ))
set_option maxHeartbeats 4000000 in
set_option maxRecDepth 100000 in
theorem c_X4_canReckon_X7 {l : Launch} {g : GG} {q : Nat} (N n : Nat) {σ : Sg} {p0 : Int32} {p1 : Int32} {r : Int32} {σ' : Sg} (hm : f_X4_canReckon_X7 N n σ p0 p1 = some (r, σ')) : CTi l yX4_canReckon cX4_canReckon 3 (some .boolean) 1 21 g q n [.ref (ga g 52), .int p0, .int p1] σ r σ' := by
  refine e_z (r := r) (by decide) (Nat.le_of_ble_eq_true rfl) ?_
  intro p e s m args below meth c A Q ls hC hl hI
  obtain ⟨hX, hK, hN, hZ, hA, hR⟩ := id hC
  have hx : p.tables.exec = Jvm.exec := hX.1
  have hb : c.code = cX4_canReckon := hX.2.1
  have hml : c.maxLocals = 3 := hX.2.2.1
  have hown : s.vm.findClass RX4 = some m.cls := hX.2.2.2.1
  have ht : ∀ w ∈ BIG, w.before args s = true := hX.2.2.2.2
  have hl : lv_has ls 3 [(0, .ref (ga g 52)), (1, .int p0), (2, .int p1)] := hl
  unfold f_X4_canReckon_X7 at hm
  refine lv_iload_n hx hb dX4_canReckon_0 rfl (lv_at hl 1 rfl) ?_
  refine lv_bipush (v := 6) hx hb dX4_canReckon_1 (by decide) ?_
  refine lv_icmp_ne (tgt := 10) hx hb dX4_canReckon_3 (by decide) (fun c1 => ?_) (fun c1 => ?_)
  · have hm := (if_neg c1).symm.trans hm
    refine lv_iconst (v := 1) hx hb dX4_canReckon_10 (by decide) ?_
    exact hR _ _ _ _ _ _ hm hI (by decide) dX4_canReckon_11
  · have hm := (if_pos c1).symm.trans hm
    refine lv_iload_n hx hb dX4_canReckon_6 rfl (lv_at hl 2 rfl) ?_
    refine lv_if_eq (tgt := 12) hx hb dX4_canReckon_7 (by decide) (fun c2 => ?_) (fun c2 => ?_)
    · have hm := (if_pos c2).symm.trans hm
      refine lv_aload_n hx hb dX4_canReckon_12 rfl (lv_at hl 0 rfl) ?_
      refine lv_iconst (v := 2) hx hb dX4_canReckon_13 (by decide) ?_
      obtain ⟨r3, σ4, h5, hm⟩ := bd_some hm
      refine k_v hI hA (va_runU (As := [.int 2]) (rest := []) hX (c_X4_finish_X7 N n h5 _) (va_cwU 1 ht (in_U mw_240 mw_241 mw_242 mw_243 mw_244 mw_229) rfl rfl rfl rfl (by decide +kernel) ⟨Nat.le_of_ble_eq_true rfl, Nat.le_of_ble_eq_true rfl⟩) ⟨q_blind, va_recv hK hI.1 (ci := 6) (q0 := 52) rfl rfl, q_to hI hK hN hZ hA⟩ rfl rfl hl.1 rfl (lv_room (Nat.le_of_ble_eq_true rfl)) dX4_canReckon_14 (by decide)) (fun H locs hI => ?_)
      refine lv_iconst (v := 0) hx hb dX4_canReckon_17 (by decide) ?_
      exact hR _ _ _ _ _ _ hm hI (by decide) dX4_canReckon_18
    · have hm := (if_neg c2).symm.trans hm
      refine lv_iconst (v := 1) hx hb dX4_canReckon_10 (by decide) ?_
      exact hR _ _ _ _ _ _ hm hI (by decide) dX4_canReckon_11
def f_X7_work (N n : Nat) (σ : Sg) (p0 : Int32) (p1 : Int32) (p2 : Int32) : Option (Int32 × Sg) := bd (f_X1_part N n σ p0 p1 4) (fun r1 σ2 => bd (f_X1_part N n σ2 p0 p1 2) (fun r4 σ5 => gb (p2 + r4) 480 (bd (f_X1_part N n σ5 p0 p1 3) (fun r8 σ9 => gb (p2 + r8) 480 (bd (f_X4_canReckon_X7 N n σ9 r1 (σ9 56 (ix (p2 + r8)))) (fun r12 σ13 => if r12 = 0 then (some (0, σ13)) else (bd (f_X1_part N n σ13 p0 p1 1) (fun r16 σ17 => bd (f_X11_reckon N n σ17 r1 (σ5 56 (ix (p2 + r4))) (σ9 56 (ix (p2 + r8)))) (fun r19 σ20 => gb (p2 + r16) 480 (some (0, sg σ20 56 (ix (p2 + r16)) r19)))))))))))
set_option maxHeartbeats 4000000 in
set_option maxRecDepth 100000 in
theorem c_X7_work {l : Launch} {g : GG} {q : Nat} (N n : Nat) {σ : Sg} {p0 : Int32} {p1 : Int32} {p2 : Int32} {r : Int32} {σ' : Sg} (hm : f_X7_work N n σ p0 p1 p2 = some (r, σ')) : CTv l yX7_work cX7_work 7 none 2 43 g q n [.ref (ga g 52), .int p0, .int p1, .int p2] σ σ' := by
  refine e_v (r := r) (by decide) (Nat.le_of_ble_eq_true rfl) ?_
  intro p e s m args below meth c A Q ls hC hl hI
  obtain ⟨hX, hK, hN, hZ, hA, hR⟩ := id hC
  have hx : p.tables.exec = Jvm.exec := hX.1
  have hb : c.code = cX7_work := hX.2.1
  have hml : c.maxLocals = 7 := hX.2.2.1
  have hown : s.vm.findClass RX7 = some m.cls := hX.2.2.2.1
  have ht : ∀ w ∈ BIG, w.before args s = true := hX.2.2.2.2
  have hl : lv_has ls 7 [(0, .ref (ga g 52)), (1, .int p0), (2, .int p1), (3, .int p2)] := hl
  unfold f_X7_work at hm
  refine lv_aload_n hx hb dX7_work_0 rfl (lv_at hl 0 rfl) ?_
  refine gf_52_8 hx hb ht hK hI mw_258 (fun _ h9 => h9) hown dX7_work_1 ?_
  refine lv_iload_n hx hb dX7_work_4 rfl (lv_at hl 1 rfl) ?_
  refine lv_iload_n hx hb dX7_work_5 rfl (lv_at hl 2 rfl) ?_
  refine lv_iconst (v := 4) hx hb dX7_work_6 (by decide) ?_
  obtain ⟨r1, σ2, h3, hm⟩ := bd_some hm
  refine k_i hI hA (va_runV (As := [.int p0, .int p1, .int 4]) (rest := []) hX (c_X1_part N n h3 _) (cwV 3 ht (in_V mw_259 mw_260 mw_261 mw_95 mw_96) rfl rfl rfl pd_X1_part ⟨Nat.le_of_ble_eq_true rfl, Nat.le_of_ble_eq_true rfl⟩) ⟨q_blind, va_recv hK hI.1 (ci := 1) (q0 := 39) rfl rfl, q_to hI hK hN hZ hA⟩ rfl rfl hl.1 rfl (lv_room (Nat.le_of_ble_eq_true rfl)) dX7_work_7 (by decide)) (fun H locs hI => ?_)
  refine lv_istore (lv' := [(4, .int r1), (0, .ref (ga g 52)), (1, .int p0), (2, .int p1), (3, .int p2)]) hx hb dX7_work_10 hl (by decide) rfl (fun ls hl => ?_)
  refine lv_aload_n hx hb dX7_work_12 rfl (lv_at hl 1 rfl) ?_
  refine gf_52_9 hx hb ht hK hI mw_231 (fun _ h9 => h9) hown dX7_work_13 ?_
  refine lv_iload_n hx hb dX7_work_16 rfl (lv_at hl 4 rfl) ?_
  refine lv_aload_n hx hb dX7_work_17 rfl (lv_at hl 1 rfl) ?_
  refine gf_52_8 hx hb ht hK hI mw_258 (fun _ h9 => h9) hown dX7_work_18 ?_
  refine lv_iload_n hx hb dX7_work_21 rfl (lv_at hl 2 rfl) ?_
  refine lv_iload_n hx hb dX7_work_22 rfl (lv_at hl 3 rfl) ?_
  refine lv_iconst (v := 2) hx hb dX7_work_23 (by decide) ?_
  obtain ⟨r4, σ5, h6, hm⟩ := bd_some hm
  refine k_i hI hA (va_runV (As := [.int p0, .int p1, .int 2]) (rest := [.int p2, .ref (ga g 56)]) hX (c_X1_part N n h6 _) (cwV 3 ht (in_V mw_259 mw_260 mw_261 mw_95 mw_96) rfl rfl rfl pd_X1_part ⟨Nat.le_of_ble_eq_true rfl, Nat.le_of_ble_eq_true rfl⟩) ⟨q_blind, va_recv hK hI.1 (ci := 1) (q0 := 39) rfl rfl, q_to hI hK hN hZ hA⟩ rfl rfl hl.1 rfl (lv_room (Nat.le_of_ble_eq_true rfl)) dX7_work_24 (by decide)) (fun H locs hI => ?_)
  refine lv_iadd hx hb dX7_work_27 ?_
  obtain ⟨g7, hm⟩ := gb_some hm
  refine ld_56 hx hb hK hI g7 (v := σ5 56 (ix (p2 + r4))) rfl dX7_work_28 ?_
  refine lv_istore (lv' := [(5, .int (σ5 56 (ix (p2 + r4)))), (4, .int r1), (0, .ref (ga g 52)), (1, .int p0), (2, .int p1), (3, .int p2)]) hx hb dX7_work_29 hl (by decide) rfl (fun ls hl => ?_)
  refine lv_aload_n hx hb dX7_work_31 rfl (lv_at hl 2 rfl) ?_
  refine gf_52_9 hx hb ht hK hI mw_231 (fun _ h9 => h9) hown dX7_work_32 ?_
  refine lv_iload_n hx hb dX7_work_35 rfl (lv_at hl 5 rfl) ?_
  refine lv_aload_n hx hb dX7_work_36 rfl (lv_at hl 2 rfl) ?_
  refine gf_52_8 hx hb ht hK hI mw_258 (fun _ h9 => h9) hown dX7_work_37 ?_
  refine lv_iload_n hx hb dX7_work_40 rfl (lv_at hl 3 rfl) ?_
  refine lv_iload_n hx hb dX7_work_41 rfl (lv_at hl 4 rfl) ?_
  refine lv_iconst (v := 3) hx hb dX7_work_42 (by decide) ?_
  obtain ⟨r8, σ9, h10, hm⟩ := bd_some hm
  refine k_i hI hA (va_runV (As := [.int p0, .int p1, .int 3]) (rest := [.int p2, .ref (ga g 56)]) hX (c_X1_part N n h10 _) (cwV 3 ht (in_V mw_259 mw_260 mw_261 mw_95 mw_96) rfl rfl rfl pd_X1_part ⟨Nat.le_of_ble_eq_true rfl, Nat.le_of_ble_eq_true rfl⟩) ⟨q_blind, va_recv hK hI.1 (ci := 1) (q0 := 39) rfl rfl, q_to hI hK hN hZ hA⟩ rfl rfl hl.1 rfl (lv_room (Nat.le_of_ble_eq_true rfl)) dX7_work_43 (by decide)) (fun H locs hI => ?_)
  refine lv_iadd hx hb dX7_work_46 ?_
  obtain ⟨g11, hm⟩ := gb_some hm
  refine ld_56 hx hb hK hI g11 (v := σ9 56 (ix (p2 + r8))) rfl dX7_work_47 ?_
  refine lv_istore (lv' := [(6, .int (σ9 56 (ix (p2 + r8)))), (5, .int (σ5 56 (ix (p2 + r4)))), (4, .int r1), (0, .ref (ga g 52)), (1, .int p0), (2, .int p1), (3, .int p2)]) hx hb dX7_work_48 hl (by decide) rfl (fun ls hl => ?_)
  refine lv_aload_n hx hb dX7_work_50 rfl (lv_at hl 3 rfl) ?_
  refine lv_iload hx hb dX7_work_51 (lv_at hl 2 rfl) ?_
  refine lv_iload hx hb dX7_work_53 (lv_at hl 0 rfl) ?_
  obtain ⟨r12, σ13, h14, hm⟩ := bd_some hm
  refine k_i hI hA (va_runU (As := [.int r1, .int (σ9 56 (ix (p2 + r8)))]) (rest := []) hX (c_X4_canReckon_X7 N n h14 _) (va_cwU 2 ht (in_U mw_262 mw_263 mw_264 mw_265 mw_244 mw_256) rfl rfl rfl rfl (by decide +kernel) ⟨Nat.le_of_ble_eq_true rfl, Nat.le_of_ble_eq_true rfl⟩) ⟨q_blind, va_recv hK hI.1 (ci := 6) (q0 := 52) rfl rfl, q_to hI hK hN hZ hA⟩ rfl rfl hl.1 rfl (lv_room (Nat.le_of_ble_eq_true rfl)) dX7_work_55 (by decide)) (fun H locs hI => ?_)
  refine lv_if_eq (tgt := 87) hx hb dX7_work_58 (by decide) (fun c15 => ?_) (fun c15 => ?_)
  · have hm := (if_pos c15).symm.trans hm
    exact hR _ _ _ _ _ hm hI dX7_work_87
  · have hm := (if_neg c15).symm.trans hm
    refine lv_aload_n hx hb dX7_work_61 rfl (lv_at hl 3 rfl) ?_
    refine gf_52_9 hx hb ht hK hI mw_231 (fun _ h9 => h9) hown dX7_work_62 ?_
    refine lv_iload_n hx hb dX7_work_65 rfl (lv_at hl 6 rfl) ?_
    refine lv_aload_n hx hb dX7_work_66 rfl (lv_at hl 3 rfl) ?_
    refine gf_52_8 hx hb ht hK hI mw_258 (fun _ h9 => h9) hown dX7_work_67 ?_
    refine lv_iload_n hx hb dX7_work_70 rfl (lv_at hl 4 rfl) ?_
    refine lv_iload_n hx hb dX7_work_71 rfl (lv_at hl 5 rfl) ?_
    refine lv_iconst (v := 1) hx hb dX7_work_72 (by decide) ?_
    obtain ⟨r16, σ17, h18, hm⟩ := bd_some hm
    refine k_i hI hA (va_runV (As := [.int p0, .int p1, .int 1]) (rest := [.int p2, .ref (ga g 56)]) hX (c_X1_part N n h18 _) (cwV 3 ht (in_V mw_259 mw_260 mw_261 mw_95 mw_96) rfl rfl rfl pd_X1_part ⟨Nat.le_of_ble_eq_true rfl, Nat.le_of_ble_eq_true rfl⟩) ⟨q_blind, va_recv hK hI.1 (ci := 1) (q0 := 39) rfl rfl, q_to hI hK hN hZ hA⟩ rfl rfl hl.1 rfl (lv_room (Nat.le_of_ble_eq_true rfl)) dX7_work_73 (by decide)) (fun H locs hI => ?_)
    refine lv_iadd hx hb dX7_work_76 ?_
    refine lv_iload hx hb dX7_work_77 (lv_at hl 2 rfl) ?_
    refine lv_iload hx hb dX7_work_79 (lv_at hl 1 rfl) ?_
    refine lv_iload hx hb dX7_work_81 (lv_at hl 0 rfl) ?_
    obtain ⟨r19, σ20, h21, hm⟩ := bd_some hm
    refine k_i hI hA (va_runSN (As := [.int r1, .int (σ5 56 (ix (p2 + r4))), .int (σ9 56 (ix (p2 + r8)))]) (rest := [.int (p2 + r16), .ref (ga g 56)]) hX (c_X11_reckon N n h21 _) ⟨va_cnB 3 ht (in_c (in_k mw_257)) rfl rfl rfl hZ.2.2.1 (ht _ mw_267) pd_X11_reckon ⟨Nat.le_of_ble_eq_true rfl, Nat.le_of_ble_eq_true rfl⟩, ht _ mw_266, trivial⟩ ⟨q_blind, q_to hI hK hN hZ hA⟩ rfl rfl hl.1 rfl (lv_room (Nat.le_of_ble_eq_true rfl)) dX7_work_83 (by decide)) (fun H locs hI => ?_)
    obtain ⟨g22, hm⟩ := gb_some hm
    refine sv_56 hx hb hK hI g22 dX7_work_86 (fun H locs hI => ?_)
    exact hR _ _ _ _ _ hm hI dX7_work_87
def f_X7_swap (N n : Nat) (σ : Sg) (p0 : Int32) (p1 : Int32) : Option (Int32 × Sg) := gb p0 480 (gb p1 480 (gb p0 480 (gb p1 480 (some (0, sg (sg σ 56 (ix p0) (σ 56 (ix p1))) 56 (ix p1) (σ 56 (ix p0)))))))
set_option maxHeartbeats 4000000 in
set_option maxRecDepth 100000 in
theorem c_X7_swap {l : Launch} {g : GG} {q : Nat} (N n : Nat) {σ : Sg} {p0 : Int32} {p1 : Int32} {r : Int32} {σ' : Sg} (hm : f_X7_swap N n σ p0 p1 = some (r, σ')) : CTv l yX7_swap cX7_swap 4 none 0 0 g q n [.ref (ga g 52), .int p0, .int p1] σ σ' := by
  refine e_v (r := r) (by decide) (Nat.le_of_ble_eq_true rfl) ?_
  intro p e s m args below meth c A Q ls hC hl hI
  obtain ⟨hX, hK, hN, hZ, hA, hR⟩ := id hC
  have hx : p.tables.exec = Jvm.exec := hX.1
  have hb : c.code = cX7_swap := hX.2.1
  have hml : c.maxLocals = 4 := hX.2.2.1
  have hown : s.vm.findClass RX7 = some m.cls := hX.2.2.2.1
  have ht : ∀ w ∈ BIG, w.before args s = true := hX.2.2.2.2
  have hl : lv_has ls 4 [(0, .ref (ga g 52)), (1, .int p0), (2, .int p1)] := hl
  unfold f_X7_swap at hm
  refine lv_aload_n hx hb dX7_swap_0 rfl (lv_at hl 0 rfl) ?_
  refine gf_52_9 hx hb ht hK hI mw_231 (fun _ h9 => h9) hown dX7_swap_1 ?_
  refine lv_iload_n hx hb dX7_swap_4 rfl (lv_at hl 1 rfl) ?_
  obtain ⟨g1, hm⟩ := gb_some hm
  refine ld_56 hx hb hK hI g1 (v := σ 56 (ix p0)) rfl dX7_swap_5 ?_
  refine lv_istore_n (lv' := [(3, .int (σ 56 (ix p0))), (0, .ref (ga g 52)), (1, .int p0), (2, .int p1)]) hx hb dX7_swap_6 rfl hl (by decide) rfl (fun ls hl => ?_)
  refine lv_aload_n hx hb dX7_swap_7 rfl (lv_at hl 1 rfl) ?_
  refine gf_52_9 hx hb ht hK hI mw_231 (fun _ h9 => h9) hown dX7_swap_8 ?_
  refine lv_iload_n hx hb dX7_swap_11 rfl (lv_at hl 2 rfl) ?_
  refine lv_aload_n hx hb dX7_swap_12 rfl (lv_at hl 1 rfl) ?_
  refine gf_52_9 hx hb ht hK hI mw_231 (fun _ h9 => h9) hown dX7_swap_13 ?_
  refine lv_iload_n hx hb dX7_swap_16 rfl (lv_at hl 3 rfl) ?_
  obtain ⟨g2, hm⟩ := gb_some hm
  refine ld_56 hx hb hK hI g2 (v := σ 56 (ix p1)) rfl dX7_swap_17 ?_
  obtain ⟨g3, hm⟩ := gb_some hm
  refine sv_56 hx hb hK hI g3 dX7_swap_18 (fun H locs hI => ?_)
  refine lv_aload_n hx hb dX7_swap_19 rfl (lv_at hl 1 rfl) ?_
  refine gf_52_9 hx hb ht hK hI mw_231 (fun _ h9 => h9) hown dX7_swap_20 ?_
  refine lv_iload_n hx hb dX7_swap_23 rfl (lv_at hl 3 rfl) ?_
  refine lv_iload_n hx hb dX7_swap_24 rfl (lv_at hl 0 rfl) ?_
  obtain ⟨g4, hm⟩ := gb_some hm
  refine sv_56 hx hb hK hI g4 dX7_swap_25 (fun H locs hI => ?_)
  exact hR _ _ _ _ _ hm hI dX7_swap_26
def f_X4_jump_X7 (N n : Nat) (σ : Sg) (p0 : Int32) : Option (Int32 × Sg) := bd (f_X4_room_X7 N n σ ) (fun r1 σ2 => gb r1 30 (some (0, sg σ2 55 (ix r1) p0)))
set_option maxHeartbeats 4000000 in
set_option maxRecDepth 100000 in
theorem c_X4_jump_X7 {l : Launch} {g : GG} {q : Nat} (N n : Nat) {σ : Sg} {p0 : Int32} {r : Int32} {σ' : Sg} (hm : f_X4_jump_X7 N n σ p0 = some (r, σ')) : CTv l yX4_jump cX4_jump 2 none 1 20 g q n [.ref (ga g 52), .int p0] σ σ' := by
  refine e_v (r := r) (by decide) (Nat.le_of_ble_eq_true rfl) ?_
  intro p e s m args below meth c A Q ls hC hl hI
  obtain ⟨hX, hK, hN, hZ, hA, hR⟩ := id hC
  have hx : p.tables.exec = Jvm.exec := hX.1
  have hb : c.code = cX4_jump := hX.2.1
  have hml : c.maxLocals = 2 := hX.2.2.1
  have hown : s.vm.findClass RX4 = some m.cls := hX.2.2.2.1
  have ht : ∀ w ∈ BIG, w.before args s = true := hX.2.2.2.2
  have hl : lv_has ls 2 [(0, .ref (ga g 52)), (1, .int p0)] := hl
  unfold f_X4_jump_X7 at hm
  refine lv_aload_n hx hb dX4_jump_0 rfl (lv_at hl 0 rfl) ?_
  refine gf_52_2 hx hb ht hK hI mw_196 (fun _ h9 => h9) hown dX4_jump_1 ?_
  refine lv_aload_n hx hb dX4_jump_4 rfl (lv_at hl 0 rfl) ?_
  obtain ⟨r1, σ2, h3, hm⟩ := bd_some hm
  refine k_i hI hA (va_runU (As := []) (rest := [.ref (ga g 55)]) hX (c_X4_room_X7 N n h3 _) (va_cwU 0 ht (in_U mw_271 mw_272 mw_273 mw_274 mw_244 mw_255) rfl rfl rfl rfl (by decide +kernel) ⟨Nat.le_of_ble_eq_true rfl, Nat.le_of_ble_eq_true rfl⟩) ⟨q_blind, va_recv hK hI.1 (ci := 6) (q0 := 52) rfl rfl, q_to hI hK hN hZ hA⟩ rfl rfl hl.1 rfl (lv_room (Nat.le_of_ble_eq_true rfl)) dX4_jump_5 (by decide)) (fun H locs hI => ?_)
  refine lv_iload_n hx hb dX4_jump_8 rfl (lv_at hl 1 rfl) ?_
  obtain ⟨g4, hm⟩ := gb_some hm
  refine sv_55 hx hb hK hI g4 dX4_jump_9 (fun H locs hI => ?_)
  exact hR _ _ _ _ _ hm hI dX4_jump_10
def f_X7_takeAnswer (N n : Nat) (σ : Sg) (p0 : Int32) : Option (Int32 × Sg) := some (0, sg σ 52 12 p0)
set_option maxHeartbeats 4000000 in
set_option maxRecDepth 100000 in
theorem c_X7_takeAnswer {l : Launch} {g : GG} {q : Nat} (N n : Nat) {σ : Sg} {p0 : Int32} {r : Int32} {σ' : Sg} (hm : f_X7_takeAnswer N n σ p0 = some (r, σ')) : CTv l yX7_takeAnswer cX7_takeAnswer 2 none 0 0 g q n [.ref (ga g 52), .int p0] σ σ' := by
  refine e_v (r := r) (by decide) (Nat.le_of_ble_eq_true rfl) ?_
  intro p e s m args below meth c A Q ls hC hl hI
  obtain ⟨hX, hK, hN, hZ, hA, hR⟩ := id hC
  have hx : p.tables.exec = Jvm.exec := hX.1
  have hb : c.code = cX7_takeAnswer := hX.2.1
  have hml : c.maxLocals = 2 := hX.2.2.1
  have hown : s.vm.findClass RX7 = some m.cls := hX.2.2.2.1
  have ht : ∀ w ∈ BIG, w.before args s = true := hX.2.2.2.2
  have hl : lv_has ls 2 [(0, .ref (ga g 52)), (1, .int p0)] := hl
  unfold f_X7_takeAnswer at hm
  refine lv_aload_n hx hb dX7_takeAnswer_0 rfl (lv_at hl 0 rfl) ?_
  refine lv_iload_n hx hb dX7_takeAnswer_1 rfl (lv_at hl 1 rfl) ?_
  refine pf_52_12 hx hb ht hK hI mw_277 (fun _ h9 => h9) hown dX7_takeAnswer_2 (fun H locs hI => ?_)
  exact hR _ _ _ _ _ hm hI dX7_takeAnswer_5
def f_X4_leave_X7 (N n : Nat) (σ : Sg) (p0 : Int32) : Option (Int32 × Sg) := if 1 < (σ 52 7) then (bd (f_X7_takeAnswer N n (sg σ 52 7 ((σ 52 7) - 1)) p0) (fun r2 σ3 => some (0, σ3))) else (bd (f_X4_finish_X7 N n (sg σ 52 4 p0) 1) (fun r5 σ6 => some (0, σ6)))
set_option maxHeartbeats 4000000 in
set_option maxRecDepth 100000 in
theorem c_X4_leave_X7 {l : Launch} {g : GG} {q : Nat} (N n : Nat) {σ : Sg} {p0 : Int32} {r : Int32} {σ' : Sg} (hm : f_X4_leave_X7 N n σ p0 = some (r, σ')) : CTv l yX4_leave cX4_leave 2 none 1 21 g q n [.ref (ga g 52), .int p0] σ σ' := by
  refine e_v (r := r) (by decide) (Nat.le_of_ble_eq_true rfl) ?_
  intro p e s m args below meth c A Q ls hC hl hI
  obtain ⟨hX, hK, hN, hZ, hA, hR⟩ := id hC
  have hx : p.tables.exec = Jvm.exec := hX.1
  have hb : c.code = cX4_leave := hX.2.1
  have hml : c.maxLocals = 2 := hX.2.2.1
  have hown : s.vm.findClass RX4 = some m.cls := hX.2.2.2.1
  have ht : ∀ w ∈ BIG, w.before args s = true := hX.2.2.2.2
  have hl : lv_has ls 2 [(0, .ref (ga g 52)), (1, .int p0)] := hl
  unfold f_X4_leave_X7 at hm
  refine lv_aload_n hx hb dX4_leave_0 rfl (lv_at hl 0 rfl) ?_
  refine gf_52_7 hx hb ht hK hI (v := σ 52 7) rfl mw_228 (fun _ h9 => h9) hown dX4_leave_1 ?_
  refine lv_iconst (v := 1) hx hb dX4_leave_4 (by decide) ?_
  refine lv_icmp_gt (tgt := 19) hx hb dX4_leave_5 (by decide) (fun c1 => ?_) (fun c1 => ?_)
  · have hm := (if_pos c1).symm.trans hm
    refine lv_aload_n hx hb dX4_leave_19 rfl (lv_at hl 0 rfl) ?_
    refine lv_dup hx hb dX4_leave_20 rfl ?_
    refine gf_52_7 hx hb ht hK hI (v := σ 52 7) rfl mw_228 (fun _ h9 => h9) hown dX4_leave_21 ?_
    refine lv_iconst (v := 1) hx hb dX4_leave_24 (by decide) ?_
    refine lv_isub hx hb dX4_leave_25 ?_
    refine pf_52_7 hx hb ht hK hI mw_228 (fun _ h9 => h9) hown dX4_leave_26 (fun H locs hI => ?_)
    refine lv_aload_n hx hb dX4_leave_29 rfl (lv_at hl 0 rfl) ?_
    refine lv_iload_n hx hb dX4_leave_30 rfl (lv_at hl 1 rfl) ?_
    obtain ⟨r2, σ3, h4, hm⟩ := bd_some hm
    refine k_v hI hA (va_runU (As := [.int p0]) (rest := []) hX (c_X7_takeAnswer N n h4 _) (va_cwA 1 ht (in_U mw_286 mw_287 mw_288 mw_289 mw_250 mw_276) rfl rfl rfl hZ.2.2.2.2.2.2.2.2.2.2.2.2 (by decide +kernel) ⟨Nat.le_of_ble_eq_true rfl, Nat.le_of_ble_eq_true rfl⟩) ⟨q_blind, va_recv hK hI.1 (ci := 6) (q0 := 52) rfl rfl, q_to hI hK hN hZ hA⟩ rfl rfl hl.1 rfl (lv_room (Nat.le_of_ble_eq_true rfl)) dX4_leave_31 (by decide)) (fun H locs hI => ?_)
    exact hR _ _ _ _ _ hm hI dX4_leave_34
  · have hm := (if_neg c1).symm.trans hm
    refine lv_aload_n hx hb dX4_leave_8 rfl (lv_at hl 0 rfl) ?_
    refine lv_iload_n hx hb dX4_leave_9 rfl (lv_at hl 1 rfl) ?_
    refine pf_52_4 hx hb ht hK hI mw_225 (fun _ h9 => h9) hown dX4_leave_10 (fun H locs hI => ?_)
    refine lv_aload_n hx hb dX4_leave_13 rfl (lv_at hl 0 rfl) ?_
    refine lv_iconst (v := 1) hx hb dX4_leave_14 (by decide) ?_
    obtain ⟨r5, σ6, h7, hm⟩ := bd_some hm
    refine k_v hI hA (va_runU (As := [.int 1]) (rest := []) hX (c_X4_finish_X7 N n h7 _) (va_cwU 1 ht (in_U mw_240 mw_241 mw_242 mw_243 mw_244 mw_229) rfl rfl rfl rfl (by decide +kernel) ⟨Nat.le_of_ble_eq_true rfl, Nat.le_of_ble_eq_true rfl⟩) ⟨q_blind, va_recv hK hI.1 (ci := 6) (q0 := 52) rfl rfl, q_to hI hK hN hZ hA⟩ rfl rfl hl.1 rfl (lv_room (Nat.le_of_ble_eq_true rfl)) dX4_leave_15 (by decide)) (fun H locs hI => ?_)
    exact hR _ _ _ _ _ hm hI dX4_leave_18
def f_X4_hasCell_X7 (N n : Nat) (σ : Sg) (p0 : Int32) : Option (Int32 × Sg) := if p0 < 0 then (bd (f_X4_finish_X7 N n σ 3) (fun r2 σ3 => some (0, σ3))) else (if 64 ≤ p0 then (bd (f_X4_finish_X7 N n σ 3) (fun r6 σ7 => some (0, σ7))) else (some (1, σ)))
set_option maxHeartbeats 4000000 in
set_option maxRecDepth 100000 in
theorem c_X4_hasCell_X7 {l : Launch} {g : GG} {q : Nat} (N n : Nat) {σ : Sg} {p0 : Int32} {r : Int32} {σ' : Sg} (hm : f_X4_hasCell_X7 N n σ p0 = some (r, σ')) : CTi l yX4_hasCell cX4_hasCell 2 (some .boolean) 1 21 g q n [.ref (ga g 52), .int p0] σ r σ' := by
  refine e_z (r := r) (by decide) (Nat.le_of_ble_eq_true rfl) ?_
  intro p e s m args below meth c A Q ls hC hl hI
  obtain ⟨hX, hK, hN, hZ, hA, hR⟩ := id hC
  have hx : p.tables.exec = Jvm.exec := hX.1
  have hb : c.code = cX4_hasCell := hX.2.1
  have hml : c.maxLocals = 2 := hX.2.2.1
  have hown : s.vm.findClass RX4 = some m.cls := hX.2.2.2.1
  have ht : ∀ w ∈ BIG, w.before args s = true := hX.2.2.2.2
  have hl : lv_has ls 2 [(0, .ref (ga g 52)), (1, .int p0)] := hl
  unfold f_X4_hasCell_X7 at hm
  refine lv_iload_n hx hb dX4_hasCell_0 rfl (lv_at hl 1 rfl) ?_
  refine lv_if_lt (tgt := 12) hx hb dX4_hasCell_1 (by decide) (fun c1 => ?_) (fun c1 => ?_)
  · have hm := (if_pos c1).symm.trans hm
    refine lv_aload_n hx hb dX4_hasCell_12 rfl (lv_at hl 0 rfl) ?_
    refine lv_iconst (v := 3) hx hb dX4_hasCell_13 (by decide) ?_
    obtain ⟨r2, σ3, h4, hm⟩ := bd_some hm
    refine k_v hI hA (va_runU (As := [.int 3]) (rest := []) hX (c_X4_finish_X7 N n h4 _) (va_cwU 1 ht (in_U mw_240 mw_241 mw_242 mw_243 mw_244 mw_229) rfl rfl rfl rfl (by decide +kernel) ⟨Nat.le_of_ble_eq_true rfl, Nat.le_of_ble_eq_true rfl⟩) ⟨q_blind, va_recv hK hI.1 (ci := 6) (q0 := 52) rfl rfl, q_to hI hK hN hZ hA⟩ rfl rfl hl.1 rfl (lv_room (Nat.le_of_ble_eq_true rfl)) dX4_hasCell_14 (by decide)) (fun H locs hI => ?_)
    refine lv_iconst (v := 0) hx hb dX4_hasCell_17 (by decide) ?_
    exact hR _ _ _ _ _ _ hm hI (by decide) dX4_hasCell_18
  · have hm := (if_neg c1).symm.trans hm
    refine lv_iload_n hx hb dX4_hasCell_4 rfl (lv_at hl 1 rfl) ?_
    refine lv_bipush (v := 64) hx hb dX4_hasCell_5 (by decide) ?_
    refine lv_icmp_ge (tgt := 12) hx hb dX4_hasCell_7 (by decide) (fun c5 => ?_) (fun c5 => ?_)
    · have hm := (if_pos c5).symm.trans hm
      refine lv_aload_n hx hb dX4_hasCell_12 rfl (lv_at hl 0 rfl) ?_
      refine lv_iconst (v := 3) hx hb dX4_hasCell_13 (by decide) ?_
      obtain ⟨r6, σ7, h8, hm⟩ := bd_some hm
      refine k_v hI hA (va_runU (As := [.int 3]) (rest := []) hX (c_X4_finish_X7 N n h8 _) (va_cwU 1 ht (in_U mw_240 mw_241 mw_242 mw_243 mw_244 mw_229) rfl rfl rfl rfl (by decide +kernel) ⟨Nat.le_of_ble_eq_true rfl, Nat.le_of_ble_eq_true rfl⟩) ⟨q_blind, va_recv hK hI.1 (ci := 6) (q0 := 52) rfl rfl, q_to hI hK hN hZ hA⟩ rfl rfl hl.1 rfl (lv_room (Nat.le_of_ble_eq_true rfl)) dX4_hasCell_14 (by decide)) (fun H locs hI => ?_)
      refine lv_iconst (v := 0) hx hb dX4_hasCell_17 (by decide) ?_
      exact hR _ _ _ _ _ _ hm hI (by decide) dX4_hasCell_18
    · have hm := (if_neg c5).symm.trans hm
      refine lv_iconst (v := 1) hx hb dX4_hasCell_10 (by decide) ?_
      exact hR _ _ _ _ _ _ hm hI (by decide) dX4_hasCell_11
def f_X7_fetch (N n : Nat) (σ : Sg) (p0 : Int32) (p1 : Int32) : Option (Int32 × Sg) := bd (f_X4_hasCell_X7 N n σ p1) (fun r1 σ2 => if r1 = 0 then (some (0, σ2)) else (gb p1 64 (gb p0 480 (some (0, sg σ2 56 (ix p0) (σ2 53 (ix p1)))))))
set_option maxHeartbeats 4000000 in
set_option maxRecDepth 100000 in
theorem c_X7_fetch {l : Launch} {g : GG} {q : Nat} (N n : Nat) {σ : Sg} {p0 : Int32} {p1 : Int32} {r : Int32} {σ' : Sg} (hm : f_X7_fetch N n σ p0 p1 = some (r, σ')) : CTv l yX7_fetch cX7_fetch 3 none 2 42 g q n [.ref (ga g 52), .int p0, .int p1] σ σ' := by
  refine e_v (r := r) (by decide) (Nat.le_of_ble_eq_true rfl) ?_
  intro p e s m args below meth c A Q ls hC hl hI
  obtain ⟨hX, hK, hN, hZ, hA, hR⟩ := id hC
  have hx : p.tables.exec = Jvm.exec := hX.1
  have hb : c.code = cX7_fetch := hX.2.1
  have hml : c.maxLocals = 3 := hX.2.2.1
  have hown : s.vm.findClass RX7 = some m.cls := hX.2.2.2.1
  have ht : ∀ w ∈ BIG, w.before args s = true := hX.2.2.2.2
  have hl : lv_has ls 3 [(0, .ref (ga g 52)), (1, .int p0), (2, .int p1)] := hl
  unfold f_X7_fetch at hm
  refine lv_aload_n hx hb dX7_fetch_0 rfl (lv_at hl 0 rfl) ?_
  refine lv_iload_n hx hb dX7_fetch_1 rfl (lv_at hl 2 rfl) ?_
  obtain ⟨r1, σ2, h3, hm⟩ := bd_some hm
  refine k_i hI hA (va_runU (As := [.int p1]) (rest := []) hX (c_X4_hasCell_X7 N n h3 _) (va_cwU 1 ht (in_U mw_297 mw_298 mw_299 mw_300 mw_244 mw_293) rfl rfl rfl rfl (by decide +kernel) ⟨Nat.le_of_ble_eq_true rfl, Nat.le_of_ble_eq_true rfl⟩) ⟨q_blind, va_recv hK hI.1 (ci := 6) (q0 := 52) rfl rfl, q_to hI hK hN hZ hA⟩ rfl rfl hl.1 rfl (lv_room (Nat.le_of_ble_eq_true rfl)) dX7_fetch_2 (by decide)) (fun H locs hI => ?_)
  refine lv_if_eq (tgt := 20) hx hb dX7_fetch_5 (by decide) (fun c4 => ?_) (fun c4 => ?_)
  · have hm := (if_pos c4).symm.trans hm
    exact hR _ _ _ _ _ hm hI dX7_fetch_20
  · have hm := (if_neg c4).symm.trans hm
    refine lv_aload_n hx hb dX7_fetch_8 rfl (lv_at hl 0 rfl) ?_
    refine gf_52_9 hx hb ht hK hI mw_231 (fun _ h9 => h9) hown dX7_fetch_9 ?_
    refine lv_iload_n hx hb dX7_fetch_12 rfl (lv_at hl 1 rfl) ?_
    refine lv_aload_n hx hb dX7_fetch_13 rfl (lv_at hl 0 rfl) ?_
    refine gf_52_0 hx hb ht hK hI mw_295 (u_same (ht _ mw_296)) hown dX7_fetch_14 ?_
    refine lv_iload_n hx hb dX7_fetch_17 rfl (lv_at hl 2 rfl) ?_
    obtain ⟨g5, hm⟩ := gb_some hm
    refine ld_53 hx hb hK hI g5 (v := σ2 53 (ix p1)) rfl dX7_fetch_18 ?_
    obtain ⟨g6, hm⟩ := gb_some hm
    refine sv_56 hx hb hK hI g6 dX7_fetch_19 (fun H locs hI => ?_)
    exact hR _ _ _ _ _ hm hI dX7_fetch_20
def f_X7_store (N n : Nat) (σ : Sg) (p0 : Int32) (p1 : Int32) : Option (Int32 × Sg) := bd (f_X4_hasCell_X7 N n σ p0) (fun r1 σ2 => if r1 = 0 then (some (0, σ2)) else (gb p0 64 (some (0, sg σ2 53 (ix p0) p1))))
set_option maxHeartbeats 4000000 in
set_option maxRecDepth 100000 in
theorem c_X7_store {l : Launch} {g : GG} {q : Nat} (N n : Nat) {σ : Sg} {p0 : Int32} {p1 : Int32} {r : Int32} {σ' : Sg} (hm : f_X7_store N n σ p0 p1 = some (r, σ')) : CTv l yX7_store cX7_store 3 none 2 42 g q n [.ref (ga g 52), .int p0, .int p1] σ σ' := by
  refine e_v (r := r) (by decide) (Nat.le_of_ble_eq_true rfl) ?_
  intro p e s m args below meth c A Q ls hC hl hI
  obtain ⟨hX, hK, hN, hZ, hA, hR⟩ := id hC
  have hx : p.tables.exec = Jvm.exec := hX.1
  have hb : c.code = cX7_store := hX.2.1
  have hml : c.maxLocals = 3 := hX.2.2.1
  have hown : s.vm.findClass RX7 = some m.cls := hX.2.2.2.1
  have ht : ∀ w ∈ BIG, w.before args s = true := hX.2.2.2.2
  have hl : lv_has ls 3 [(0, .ref (ga g 52)), (1, .int p0), (2, .int p1)] := hl
  unfold f_X7_store at hm
  refine lv_aload_n hx hb dX7_store_0 rfl (lv_at hl 0 rfl) ?_
  refine lv_iload_n hx hb dX7_store_1 rfl (lv_at hl 1 rfl) ?_
  obtain ⟨r1, σ2, h3, hm⟩ := bd_some hm
  refine k_i hI hA (va_runU (As := [.int p0]) (rest := []) hX (c_X4_hasCell_X7 N n h3 _) (va_cwU 1 ht (in_U mw_297 mw_298 mw_299 mw_300 mw_244 mw_293) rfl rfl rfl rfl (by decide +kernel) ⟨Nat.le_of_ble_eq_true rfl, Nat.le_of_ble_eq_true rfl⟩) ⟨q_blind, va_recv hK hI.1 (ci := 6) (q0 := 52) rfl rfl, q_to hI hK hN hZ hA⟩ rfl rfl hl.1 rfl (lv_room (Nat.le_of_ble_eq_true rfl)) dX7_store_2 (by decide)) (fun H locs hI => ?_)
  refine lv_if_eq (tgt := 15) hx hb dX7_store_5 (by decide) (fun c4 => ?_) (fun c4 => ?_)
  · have hm := (if_pos c4).symm.trans hm
    exact hR _ _ _ _ _ hm hI dX7_store_15
  · have hm := (if_neg c4).symm.trans hm
    refine lv_aload_n hx hb dX7_store_8 rfl (lv_at hl 0 rfl) ?_
    refine gf_52_0 hx hb ht hK hI mw_295 (u_same (ht _ mw_296)) hown dX7_store_9 ?_
    refine lv_iload_n hx hb dX7_store_12 rfl (lv_at hl 1 rfl) ?_
    refine lv_iload_n hx hb dX7_store_13 rfl (lv_at hl 2 rfl) ?_
    obtain ⟨g5, hm⟩ := gb_some hm
    refine sv_53 hx hb hK hI g5 dX7_store_14 (fun H locs hI => ?_)
    exact hR _ _ _ _ _ hm hI dX7_store_15
def lb_X7_openRoom_8 (N n : Nat) (u2 : Int32) (u3 : Int32) (K31 : (Sg → Int32 → Option (Int32 × Sg))) (rec : (Sg → Int32 → Option (Int32 × Sg))) (σ : Sg) (v4 : Int32) : Option (Int32 × Sg) := if 16 ≤ v4 then (K31 σ v4) else (gb (u3 + v4) 480 (rec (sg σ 56 (ix (u3 + v4)) 0) (v4 + 1)))
def lf_X7_openRoom_8 (N n : Nat) (u2 : Int32) (u3 : Int32) (K31 : (Sg → Int32 → Option (Int32 × Sg))) : Nat → (Sg → Int32 → Option (Int32 × Sg))
  | 0 => fun _ _ => none
  | k + 1 => lb_X7_openRoom_8 N n u2 u3 K31 (lf_X7_openRoom_8 N n u2 u3 K31 k)
def lb_X7_openRoom_40 (N n : Nat) (u4 : Int32) (K64 : (Sg → Int32 → Option (Int32 × Sg))) (rec : (Sg → Int32 → Option (Int32 × Sg))) (σ : Sg) (v5 : Int32) : Option (Int32 × Sg) := if 22 ≤ v5 then (K64 σ v5) else (gb (u4 + v5) 660 (rec (sg σ 57 (ix (u4 + v5)) 0) (v5 + 1)))
def lf_X7_openRoom_40 (N n : Nat) (u4 : Int32) (K64 : (Sg → Int32 → Option (Int32 × Sg))) : Nat → (Sg → Int32 → Option (Int32 × Sg))
  | 0 => fun _ _ => none
  | k + 1 => lb_X7_openRoom_40 N n u4 K64 (lf_X7_openRoom_40 N n u4 K64 k)
def f_X7_openRoom (N n : Nat) (σ : Sg) (p0 : Int32) (p1 : Int32) : Option (Int32 × Sg) := lf_X7_openRoom_8 N n p1 (p1 * 16) (fun σ3 w4 => lf_X7_openRoom_40 N n (p1 * 22) (fun σ7 w8 => some (0, σ7)) N σ3 0) N σ 0
set_option maxHeartbeats 4000000 in
set_option maxRecDepth 100000 in
theorem lp_X7_openRoom_8 {p : Program} {l : Launch} {e : Env} {s : State} {m : MethodId} {args : Array Value} {below : List Frame} {meth : Method} {c : Code} {Q : State → Prop} {A : Nat → Prop} {g : GG} {q N n : Nat} {out : Int32 × Sg} {u2 : Int32} {u3 : Int32} {K31 : (Sg → Int32 → Option (Int32 × Sg))}
    (hC : CXv p l e (qR 0 0) s m args below meth c cX7_openRoom 6 RX7 g q n A Q (some out)) :
    ∀ (k : Nat) (σ : Sg) (v4 : Int32) (H : Heap) (locs : List Loc) (ls : Array Slot), lf_X7_openRoom_8 N n u2 u3 K31 k σ v4 = some out → wI g q n σ A s.heap H locs → lv_has ls 6 [(0, .ref (ga g 52)), (2, .int u2), (3, .int u3), (4, .int v4)] → (∀ (σ : Sg) (v4 : Int32) (H : Heap) (locs : List Loc) (ls : Array Slot), K31 σ v4 = some out → wI g q n σ A s.heap H locs → lv_has ls 6 [(0, .ref (ga g 52)), (2, .int u2)] → W p l e (qR 0 0) s m args below meth c H locs 0 0 Q (F0 m 31 ls [])) → W p l e (qR 0 0) s m args below meth c H locs 0 0 Q (F0 m 8 ls []) := by
  obtain ⟨hX, hK, hN, hZ, hA, hR⟩ := id hC
  have hx : p.tables.exec = Jvm.exec := hX.1
  have hb : c.code = cX7_openRoom := hX.2.1
  have hml : c.maxLocals = 6 := hX.2.2.1
  have hown : s.vm.findClass RX7 = some m.cls := hX.2.2.2.1
  have ht : ∀ w ∈ BIG, w.before args s = true := hX.2.2.2.2
  intro k
  induction k with
  | zero =>
    intro σ v4 H locs ls hm
    have hm : none = some out := hm
    exact nomatch hm
  | succ k ih =>
    intro σ v4 H locs ls hm hI hl hx31
    have hm : lb_X7_openRoom_8 N n u2 u3 K31 (lf_X7_openRoom_8 N n u2 u3 K31 k) σ v4 = some out := hm
    unfold lb_X7_openRoom_8 at hm
    refine lv_iload hx hb dX7_openRoom_8 (lv_at hl 3 rfl) ?_
    refine lv_bipush (v := 16) hx hb dX7_openRoom_10 (by decide) ?_
    refine lv_icmp_ge (tgt := 31) hx hb dX7_openRoom_12 (by decide) (fun c1 => ?_) (fun c1 => ?_)
    · have hm := (if_pos c1).symm.trans hm
      exact hx31 σ v4 _ _ _ hm hI (lv_sub hl [0, 1] rfl)
    · have hm := (if_neg c1).symm.trans hm
      refine lv_aload_n hx hb dX7_openRoom_15 rfl (lv_at hl 0 rfl) ?_
      refine gf_52_9 hx hb ht hK hI mw_231 (fun _ h9 => h9) hown dX7_openRoom_16 ?_
      refine lv_iload_n hx hb dX7_openRoom_19 rfl (lv_at hl 2 rfl) ?_
      refine lv_iload hx hb dX7_openRoom_20 (lv_at hl 3 rfl) ?_
      refine lv_iadd hx hb dX7_openRoom_22 ?_
      refine lv_iconst (v := 0) hx hb dX7_openRoom_23 (by decide) ?_
      obtain ⟨g2, hm⟩ := gb_some hm
      refine sv_56 hx hb hK hI g2 dX7_openRoom_24 (fun H locs hI => ?_)
      refine lv_iinc (v := v4 + 1) (lv' := [(4, .int (v4 + 1)), (0, .ref (ga g 52)), (2, .int u2), (3, .int u3)]) hx hb dX7_openRoom_25 hl (k := 3) rfl (congrArg (fun z => v4 + z) (show Int32.ofInt 1 = 1 by decide)) (by decide) rfl (fun ls hl => ?_)
      refine lv_goto (tgt := 8) hx hb dX7_openRoom_28 (by decide) ?_
      exact ih (sg σ 56 (ix (u3 + v4)) 0) (v4 + 1) _ _ _ hm hI (lv_sub hl [1, 2, 3, 0] rfl) hx31
set_option maxHeartbeats 4000000 in
set_option maxRecDepth 100000 in
theorem lp_X7_openRoom_40 {p : Program} {l : Launch} {e : Env} {s : State} {m : MethodId} {args : Array Value} {below : List Frame} {meth : Method} {c : Code} {Q : State → Prop} {A : Nat → Prop} {g : GG} {q N n : Nat} {out : Int32 × Sg} {u4 : Int32} {K64 : (Sg → Int32 → Option (Int32 × Sg))}
    (hC : CXv p l e (qR 0 0) s m args below meth c cX7_openRoom 6 RX7 g q n A Q (some out)) :
    ∀ (k : Nat) (σ : Sg) (v5 : Int32) (H : Heap) (locs : List Loc) (ls : Array Slot), lf_X7_openRoom_40 N n u4 K64 k σ v5 = some out → wI g q n σ A s.heap H locs → lv_has ls 6 [(0, .ref (ga g 52)), (4, .int u4), (5, .int v5)] → (∀ (σ : Sg) (v5 : Int32) (H : Heap) (locs : List Loc) (ls : Array Slot), K64 σ v5 = some out → wI g q n σ A s.heap H locs → lv_has ls 6 [] → W p l e (qR 0 0) s m args below meth c H locs 0 0 Q (F0 m 64 ls [])) → W p l e (qR 0 0) s m args below meth c H locs 0 0 Q (F0 m 40 ls []) := by
  obtain ⟨hX, hK, hN, hZ, hA, hR⟩ := id hC
  have hx : p.tables.exec = Jvm.exec := hX.1
  have hb : c.code = cX7_openRoom := hX.2.1
  have hml : c.maxLocals = 6 := hX.2.2.1
  have hown : s.vm.findClass RX7 = some m.cls := hX.2.2.2.1
  have ht : ∀ w ∈ BIG, w.before args s = true := hX.2.2.2.2
  intro k
  induction k with
  | zero =>
    intro σ v5 H locs ls hm
    have hm : none = some out := hm
    exact nomatch hm
  | succ k ih =>
    intro σ v5 H locs ls hm hI hl hx64
    have hm : lb_X7_openRoom_40 N n u4 K64 (lf_X7_openRoom_40 N n u4 K64 k) σ v5 = some out := hm
    unfold lb_X7_openRoom_40 at hm
    refine lv_iload hx hb dX7_openRoom_40 (lv_at hl 2 rfl) ?_
    refine lv_bipush (v := 22) hx hb dX7_openRoom_42 (by decide) ?_
    refine lv_icmp_ge (tgt := 64) hx hb dX7_openRoom_44 (by decide) (fun c5 => ?_) (fun c5 => ?_)
    · have hm := (if_pos c5).symm.trans hm
      exact hx64 σ v5 _ _ _ hm hI (lv_sub hl [] rfl)
    · have hm := (if_neg c5).symm.trans hm
      refine lv_aload_n hx hb dX7_openRoom_47 rfl (lv_at hl 0 rfl) ?_
      refine gf_52_10 hx hb ht hK hI mw_232 (fun _ h9 => h9) hown dX7_openRoom_48 ?_
      refine lv_iload hx hb dX7_openRoom_51 (lv_at hl 1 rfl) ?_
      refine lv_iload hx hb dX7_openRoom_53 (lv_at hl 2 rfl) ?_
      refine lv_iadd hx hb dX7_openRoom_55 ?_
      refine lv_iconst (v := 0) hx hb dX7_openRoom_56 (by decide) ?_
      obtain ⟨g6, hm⟩ := gb_some hm
      refine sv_57 hx hb hK hI g6 dX7_openRoom_57 (fun H locs hI => ?_)
      refine lv_iinc (v := v5 + 1) (lv' := [(5, .int (v5 + 1)), (0, .ref (ga g 52)), (4, .int u4)]) hx hb dX7_openRoom_58 hl (k := 2) rfl (congrArg (fun z => v5 + z) (show Int32.ofInt 1 = 1 by decide)) (by decide) rfl (fun ls hl => ?_)
      refine lv_goto (tgt := 40) hx hb dX7_openRoom_61 (by decide) ?_
      exact ih (sg σ 57 (ix (u4 + v5)) 0) (v5 + 1) _ _ _ hm hI (lv_sub hl [1, 2, 0] rfl) hx64
set_option maxHeartbeats 4000000 in
set_option maxRecDepth 100000 in
theorem c_X7_openRoom {l : Launch} {g : GG} {q : Nat} (N n : Nat) {σ : Sg} {p0 : Int32} {p1 : Int32} {r : Int32} {σ' : Sg} (hm : f_X7_openRoom N n σ p0 p1 = some (r, σ')) : CTv l yX7_openRoom cX7_openRoom 6 none 0 0 g q n [.ref (ga g 52), .int p0, .int p1] σ σ' := by
  refine e_v (r := r) (by decide) (Nat.le_of_ble_eq_true rfl) ?_
  intro p e s m args below meth c A Q ls hC hl hI
  obtain ⟨hX, hK, hN, hZ, hA, hR⟩ := id hC
  have hx : p.tables.exec = Jvm.exec := hX.1
  have hb : c.code = cX7_openRoom := hX.2.1
  have hml : c.maxLocals = 6 := hX.2.2.1
  have hown : s.vm.findClass RX7 = some m.cls := hX.2.2.2.1
  have ht : ∀ w ∈ BIG, w.before args s = true := hX.2.2.2.2
  have hl : lv_has ls 6 [(0, .ref (ga g 52)), (1, .int p0), (2, .int p1)] := hl
  unfold f_X7_openRoom at hm
  refine lv_iload_n hx hb dX7_openRoom_0 rfl (lv_at hl 2 rfl) ?_
  refine lv_bipush (v := 16) hx hb dX7_openRoom_1 (by decide) ?_
  refine lv_imul hx hb dX7_openRoom_3 ?_
  refine lv_istore_n (lv' := [(3, .int (p1 * 16)), (0, .ref (ga g 52)), (1, .int p0), (2, .int p1)]) hx hb dX7_openRoom_4 rfl hl (by decide) rfl (fun ls hl => ?_)
  refine lv_iconst (v := 0) hx hb dX7_openRoom_5 (by decide) ?_
  refine lv_istore (lv' := [(4, .int 0), (3, .int (p1 * 16)), (0, .ref (ga g 52)), (1, .int p0), (2, .int p1)]) hx hb dX7_openRoom_6 hl (by decide) rfl (fun ls hl => ?_)
  refine lp_X7_openRoom_8 hC N _ _ _ _ _ hm hI (lv_sub hl [2, 4, 1, 0] rfl) ?_
  intro σ3 w4 H locs ls hm hI hl
  refine lv_iload_n hx hb dX7_openRoom_31 rfl (lv_at hl 1 rfl) ?_
  refine lv_bipush (v := 22) hx hb dX7_openRoom_32 (by decide) ?_
  refine lv_imul hx hb dX7_openRoom_34 ?_
  refine lv_istore (lv' := [(4, .int (p1 * 22)), (0, .ref (ga g 52)), (2, .int p1)]) hx hb dX7_openRoom_35 hl (by decide) rfl (fun ls hl => ?_)
  refine lv_iconst (v := 0) hx hb dX7_openRoom_37 (by decide) ?_
  refine lv_istore (lv' := [(5, .int 0), (4, .int (p1 * 22)), (0, .ref (ga g 52)), (2, .int p1)]) hx hb dX7_openRoom_38 hl (by decide) rfl (fun ls hl => ?_)
  refine lp_X7_openRoom_40 hC N _ _ _ _ _ hm hI (lv_sub hl [2, 1, 0] rfl) ?_
  intro σ7 w8 H locs ls hm hI hl
  exact hR _ _ _ _ _ hm hI dX7_openRoom_64
def f_X4_enter_X7 (N n : Nat) (σ : Sg) (p0 : Int32) : Option (Int32 × Sg) := if (σ 52 7) < 30 then (bd (f_X7_openRoom N n σ p0 (σ 52 7)) (fun r2 σ3 => gb (σ3 52 7) 30 (gb (σ3 52 7) 30 (some (0, sg (sg (sg (sg σ3 54 (ix (σ3 52 7)) p0) 55 (ix (σ3 52 7)) 0) 52 7 ((σ3 52 7) + 1)) 52 6 ((σ3 52 6) + 1)))))) else (bd (f_X4_finish_X7 N n σ 4) (fun r7 σ8 => some (0, σ8)))
set_option maxHeartbeats 4000000 in
set_option maxRecDepth 100000 in
theorem c_X4_enter_X7 {l : Launch} {g : GG} {q : Nat} (N n : Nat) {σ : Sg} {p0 : Int32} {r : Int32} {σ' : Sg} (hm : f_X4_enter_X7 N n σ p0 = some (r, σ')) : CTv l yX4_enter cX4_enter 2 none 1 25 g q n [.ref (ga g 52), .int p0] σ σ' := by
  refine e_v (r := r) (by decide) (Nat.le_of_ble_eq_true rfl) ?_
  intro p e s m args below meth c A Q ls hC hl hI
  obtain ⟨hX, hK, hN, hZ, hA, hR⟩ := id hC
  have hx : p.tables.exec = Jvm.exec := hX.1
  have hb : c.code = cX4_enter := hX.2.1
  have hml : c.maxLocals = 2 := hX.2.2.1
  have hown : s.vm.findClass RX4 = some m.cls := hX.2.2.2.1
  have ht : ∀ w ∈ BIG, w.before args s = true := hX.2.2.2.2
  have hl : lv_has ls 2 [(0, .ref (ga g 52)), (1, .int p0)] := hl
  unfold f_X4_enter_X7 at hm
  refine lv_aload_n hx hb dX4_enter_0 rfl (lv_at hl 0 rfl) ?_
  refine gf_52_7 hx hb ht hK hI (v := σ 52 7) rfl mw_228 (fun _ h9 => h9) hown dX4_enter_1 ?_
  refine lv_bipush (v := 30) hx hb dX4_enter_4 (by decide) ?_
  refine lv_icmp_lt (tgt := 15) hx hb dX4_enter_6 (by decide) (fun c1 => ?_) (fun c1 => ?_)
  · have hm := (if_pos c1).symm.trans hm
    refine lv_aload_n hx hb dX4_enter_15 rfl (lv_at hl 0 rfl) ?_
    refine lv_iload_n hx hb dX4_enter_16 rfl (lv_at hl 1 rfl) ?_
    refine lv_aload_n hx hb dX4_enter_17 rfl (lv_at hl 0 rfl) ?_
    refine gf_52_7 hx hb ht hK hI (v := σ 52 7) rfl mw_228 (fun _ h9 => h9) hown dX4_enter_18 ?_
    obtain ⟨r2, σ3, h4, hm⟩ := bd_some hm
    refine k_v hI hA (va_runU (As := [.int p0, .int (σ 52 7)]) (rest := []) hX (c_X7_openRoom N n h4 _) (va_cwA 2 ht (in_U mw_246 mw_247 mw_248 mw_249 mw_250 mw_230) rfl rfl rfl hZ.2.2.2.2.2.2.2.2.2.2.2.1 (by decide +kernel) ⟨Nat.le_of_ble_eq_true rfl, Nat.le_of_ble_eq_true rfl⟩) ⟨q_blind, va_recv hK hI.1 (ci := 6) (q0 := 52) rfl rfl, q_to hI hK hN hZ hA⟩ rfl rfl hl.1 rfl (lv_room (Nat.le_of_ble_eq_true rfl)) dX4_enter_21 (by decide)) (fun H locs hI => ?_)
    refine lv_aload_n hx hb dX4_enter_24 rfl (lv_at hl 0 rfl) ?_
    refine gf_52_1 hx hb ht hK hI mw_195 (fun _ h9 => h9) hown dX4_enter_25 ?_
    refine lv_aload_n hx hb dX4_enter_28 rfl (lv_at hl 0 rfl) ?_
    refine gf_52_7 hx hb ht hK hI (v := σ3 52 7) rfl mw_228 (fun _ h9 => h9) hown dX4_enter_29 ?_
    refine lv_iload_n hx hb dX4_enter_32 rfl (lv_at hl 1 rfl) ?_
    obtain ⟨g5, hm⟩ := gb_some hm
    refine sv_54 hx hb hK hI g5 dX4_enter_33 (fun H locs hI => ?_)
    refine lv_aload_n hx hb dX4_enter_34 rfl (lv_at hl 0 rfl) ?_
    refine gf_52_2 hx hb ht hK hI mw_196 (fun _ h9 => h9) hown dX4_enter_35 ?_
    refine lv_aload_n hx hb dX4_enter_38 rfl (lv_at hl 0 rfl) ?_
    refine gf_52_7 hx hb ht hK hI (v := σ3 52 7) rfl mw_228 (fun _ h9 => h9) hown dX4_enter_39 ?_
    refine lv_iconst (v := 0) hx hb dX4_enter_42 (by decide) ?_
    obtain ⟨g6, hm⟩ := gb_some hm
    refine sv_55 hx hb hK hI g6 dX4_enter_43 (fun H locs hI => ?_)
    refine lv_aload_n hx hb dX4_enter_44 rfl (lv_at hl 0 rfl) ?_
    refine lv_dup hx hb dX4_enter_45 rfl ?_
    refine gf_52_7 hx hb ht hK hI (v := σ3 52 7) rfl mw_228 (fun _ h9 => h9) hown dX4_enter_46 ?_
    refine lv_iconst (v := 1) hx hb dX4_enter_49 (by decide) ?_
    refine lv_iadd hx hb dX4_enter_50 ?_
    refine pf_52_7 hx hb ht hK hI mw_228 (fun _ h9 => h9) hown dX4_enter_51 (fun H locs hI => ?_)
    refine lv_aload_n hx hb dX4_enter_54 rfl (lv_at hl 0 rfl) ?_
    refine lv_dup hx hb dX4_enter_55 rfl ?_
    refine gf_52_6 hx hb ht hK hI (v := σ3 52 6) rfl mw_227 (fun _ h9 => h9) hown dX4_enter_56 ?_
    refine lv_iconst (v := 1) hx hb dX4_enter_59 (by decide) ?_
    refine lv_iadd hx hb dX4_enter_60 ?_
    refine pf_52_6 hx hb ht hK hI mw_227 (fun _ h9 => h9) hown dX4_enter_61 (fun H locs hI => ?_)
    exact hR _ _ _ _ _ hm hI dX4_enter_64
  · have hm := (if_neg c1).symm.trans hm
    refine lv_aload_n hx hb dX4_enter_9 rfl (lv_at hl 0 rfl) ?_
    refine lv_iconst (v := 4) hx hb dX4_enter_10 (by decide) ?_
    obtain ⟨r7, σ8, h9, hm⟩ := bd_some hm
    refine k_v hI hA (va_runU (As := [.int 4]) (rest := []) hX (c_X4_finish_X7 N n h9 _) (va_cwU 1 ht (in_U mw_240 mw_241 mw_242 mw_243 mw_244 mw_229) rfl rfl rfl rfl (by decide +kernel) ⟨Nat.le_of_ble_eq_true rfl, Nat.le_of_ble_eq_true rfl⟩) ⟨q_blind, va_recv hK hI.1 (ci := 6) (q0 := 52) rfl rfl, q_to hI hK hN hZ hA⟩ rfl rfl hl.1 rfl (lv_room (Nat.le_of_ble_eq_true rfl)) dX4_enter_11 (by decide)) (fun H locs hI => ?_)
    exact hR _ _ _ _ _ hm hI dX4_enter_14
def f_X7_step (N n : Nat) (σ : Sg) (p0 : Int32) (p1 : Int32) : Option (Int32 × Sg) := bd (f_X1_part N n σ p0 p1 1) (fun r1 σ2 => bd (f_X1_part N n σ2 p0 p1 2) (fun r4 σ5 => bd (f_X4_room_X7 N n σ5 ) (fun r7 σ8 => bd (f_X1_part N n σ8 p0 p1 0) (fun r10 σ11 => if r10 = 0 then (gb ((r7 * 16) + r1) 480 (some (0, sg σ11 56 (ix ((r7 * 16) + r1)) r4))) else (if r10 = 1 then (gb ((r7 * 16) + r4) 480 (gb ((r7 * 16) + r1) 480 (some (0, sg σ11 56 (ix ((r7 * 16) + r1)) (σ11 56 (ix ((r7 * 16) + r4))))))) else (if r10 = 2 then (bd (f_X7_work N n σ11 p0 p1 (r7 * 16)) (fun r19 σ20 => some (0, σ20))) else (if r10 = 3 then (bd (f_X7_swap N n σ11 ((r7 * 16) + r1) ((r7 * 16) + r4)) (fun r23 σ24 => some (0, σ24))) else (if r10 = 4 then (bd (f_X4_jump_X7 N n σ11 r1) (fun r27 σ28 => some (0, σ28))) else (if r10 = 5 then (gb ((r7 * 16) + r1) 480 (if (σ11 56 (ix ((r7 * 16) + r1))) = 0 then (bd (f_X4_jump_X7 N n σ11 r4) (fun r33 σ34 => some (0, σ34))) else (some (0, σ11)))) else (if r10 = 6 then (gb ((r7 * 16) + r1) 480 (bd (f_X4_leave_X7 N n σ11 (σ11 56 (ix ((r7 * 16) + r1)))) (fun r38 σ39 => some (0, σ39)))) else (if r10 = 7 then (gb ((r7 * 16) + r4) 480 (bd (f_X7_fetch N n σ11 ((r7 * 16) + r1) (σ11 56 (ix ((r7 * 16) + r4)))) (fun r43 σ44 => some (0, σ44)))) else (if r10 = 8 then (gb ((r7 * 16) + r1) 480 (gb ((r7 * 16) + r4) 480 (bd (f_X7_store N n σ11 (σ11 56 (ix ((r7 * 16) + r1))) (σ11 56 (ix ((r7 * 16) + r4)))) (fun r49 σ50 => some (0, σ50))))) else (if r10 = 9 then (bd (f_X4_room_X7 N n σ11 ) (fun r53 σ54 => gb ((r53 * 22) + r4) 660 (gb ((r7 * 16) + r1) 480 (some (0, sg σ54 56 (ix ((r7 * 16) + r1)) (σ54 57 (ix ((r53 * 22) + r4)))))))) else (if r10 = 10 then (bd (f_X4_room_X7 N n σ11 ) (fun r59 σ60 => gb ((r7 * 16) + r4) 480 (gb ((r59 * 22) + r1) 660 (some (0, sg σ60 57 (ix ((r59 * 22) + r1)) (σ60 56 (ix ((r7 * 16) + r4)))))))) else (if r10 = 11 then (gb r4 6 (gb ((r7 * 16) + r1) 480 (some (0, sg σ11 56 (ix ((r7 * 16) + r1)) (σ11 58 (ix r4)))))) else (if r10 = 12 then (gb ((r7 * 16) + r4) 480 (gb r1 6 (some (0, sg σ11 58 (ix r1) (σ11 56 (ix ((r7 * 16) + r4))))))) else (if r10 = 13 then (bd (f_X4_enter_X7 N n σ11 r1) (fun r71 σ72 => some (0, σ72))) else (gb ((r7 * 16) + r1) 480 (some (0, sg σ11 56 (ix ((r7 * 16) + r1)) (σ11 52 12)))))))))))))))))))))
set_option maxHeartbeats 4000000 in
set_option maxRecDepth 100000 in
theorem c_X7_step {l : Launch} {g : GG} {q : Nat} (N n : Nat) {σ : Sg} {p0 : Int32} {p1 : Int32} {r : Int32} {σ' : Sg} (hm : f_X7_step N n σ p0 p1 = some (r, σ')) : CTv l yX7_step cX7_step 6 none 3 69 g q n [.ref (ga g 52), .int p0, .int p1] σ σ' := by
  refine e_v (r := r) (by decide) (Nat.le_of_ble_eq_true rfl) ?_
  intro p e s m args below meth c A Q ls hC hl hI
  obtain ⟨hX, hK, hN, hZ, hA, hR⟩ := id hC
  have hx : p.tables.exec = Jvm.exec := hX.1
  have hb : c.code = cX7_step := hX.2.1
  have hml : c.maxLocals = 6 := hX.2.2.1
  have hown : s.vm.findClass RX7 = some m.cls := hX.2.2.2.1
  have ht : ∀ w ∈ BIG, w.before args s = true := hX.2.2.2.2
  have hl : lv_has ls 6 [(0, .ref (ga g 52)), (1, .int p0), (2, .int p1)] := hl
  unfold f_X7_step at hm
  refine lv_aload_n hx hb dX7_step_0 rfl (lv_at hl 0 rfl) ?_
  refine gf_52_8 hx hb ht hK hI mw_258 (fun _ h9 => h9) hown dX7_step_1 ?_
  refine lv_iload_n hx hb dX7_step_4 rfl (lv_at hl 1 rfl) ?_
  refine lv_iload_n hx hb dX7_step_5 rfl (lv_at hl 2 rfl) ?_
  refine lv_iconst (v := 1) hx hb dX7_step_6 (by decide) ?_
  obtain ⟨r1, σ2, h3, hm⟩ := bd_some hm
  refine k_i hI hA (va_runV (As := [.int p0, .int p1, .int 1]) (rest := []) hX (c_X1_part N n h3 _) (cwV 3 ht (in_V mw_259 mw_260 mw_261 mw_95 mw_96) rfl rfl rfl pd_X1_part ⟨Nat.le_of_ble_eq_true rfl, Nat.le_of_ble_eq_true rfl⟩) ⟨q_blind, va_recv hK hI.1 (ci := 1) (q0 := 39) rfl rfl, q_to hI hK hN hZ hA⟩ rfl rfl hl.1 rfl (lv_room (Nat.le_of_ble_eq_true rfl)) dX7_step_7 (by decide)) (fun H locs hI => ?_)
  refine lv_istore_n (lv' := [(3, .int r1), (0, .ref (ga g 52)), (1, .int p0), (2, .int p1)]) hx hb dX7_step_10 rfl hl (by decide) rfl (fun ls hl => ?_)
  refine lv_aload_n hx hb dX7_step_11 rfl (lv_at hl 1 rfl) ?_
  refine gf_52_8 hx hb ht hK hI mw_258 (fun _ h9 => h9) hown dX7_step_12 ?_
  refine lv_iload_n hx hb dX7_step_15 rfl (lv_at hl 2 rfl) ?_
  refine lv_iload_n hx hb dX7_step_16 rfl (lv_at hl 3 rfl) ?_
  refine lv_iconst (v := 2) hx hb dX7_step_17 (by decide) ?_
  obtain ⟨r4, σ5, h6, hm⟩ := bd_some hm
  refine k_i hI hA (va_runV (As := [.int p0, .int p1, .int 2]) (rest := []) hX (c_X1_part N n h6 _) (cwV 3 ht (in_V mw_259 mw_260 mw_261 mw_95 mw_96) rfl rfl rfl pd_X1_part ⟨Nat.le_of_ble_eq_true rfl, Nat.le_of_ble_eq_true rfl⟩) ⟨q_blind, va_recv hK hI.1 (ci := 1) (q0 := 39) rfl rfl, q_to hI hK hN hZ hA⟩ rfl rfl hl.1 rfl (lv_room (Nat.le_of_ble_eq_true rfl)) dX7_step_18 (by decide)) (fun H locs hI => ?_)
  refine lv_istore (lv' := [(4, .int r4), (3, .int r1), (0, .ref (ga g 52)), (1, .int p0), (2, .int p1)]) hx hb dX7_step_21 hl (by decide) rfl (fun ls hl => ?_)
  refine lv_aload_n hx hb dX7_step_23 rfl (lv_at hl 2 rfl) ?_
  obtain ⟨r7, σ8, h9, hm⟩ := bd_some hm
  refine k_i hI hA (va_runU (As := []) (rest := []) hX (c_X4_room_X7 N n h9 _) (va_cwU 0 ht (in_U mw_303 mw_304 mw_305 mw_274 mw_244 mw_255) rfl rfl rfl rfl (by decide +kernel) ⟨Nat.le_of_ble_eq_true rfl, Nat.le_of_ble_eq_true rfl⟩) ⟨q_blind, va_recv hK hI.1 (ci := 6) (q0 := 52) rfl rfl, q_to hI hK hN hZ hA⟩ rfl rfl hl.1 rfl (lv_room (Nat.le_of_ble_eq_true rfl)) dX7_step_24 (by decide)) (fun H locs hI => ?_)
  refine lv_bipush (v := 16) hx hb dX7_step_27 (by decide) ?_
  refine lv_imul hx hb dX7_step_29 ?_
  refine lv_istore (lv' := [(5, .int (r7 * 16)), (4, .int r4), (3, .int r1), (0, .ref (ga g 52)), (1, .int p0), (2, .int p1)]) hx hb dX7_step_30 hl (by decide) rfl (fun ls hl => ?_)
  refine lv_aload_n hx hb dX7_step_32 rfl (lv_at hl 3 rfl) ?_
  refine gf_52_8 hx hb ht hK hI mw_258 (fun _ h9 => h9) hown dX7_step_33 ?_
  refine lv_iload_n hx hb dX7_step_36 rfl (lv_at hl 4 rfl) ?_
  refine lv_iload_n hx hb dX7_step_37 rfl (lv_at hl 5 rfl) ?_
  refine lv_iconst (v := 0) hx hb dX7_step_38 (by decide) ?_
  obtain ⟨r10, σ11, h12, hm⟩ := bd_some hm
  refine k_i hI hA (va_runV (As := [.int p0, .int p1, .int 0]) (rest := []) hX (c_X1_part N n h12 _) (cwV 3 ht (in_V mw_259 mw_260 mw_261 mw_95 mw_96) rfl rfl rfl pd_X1_part ⟨Nat.le_of_ble_eq_true rfl, Nat.le_of_ble_eq_true rfl⟩) ⟨q_blind, va_recv hK hI.1 (ci := 1) (q0 := 39) rfl rfl, q_to hI hK hN hZ hA⟩ rfl rfl hl.1 rfl (lv_room (Nat.le_of_ble_eq_true rfl)) dX7_step_39 (by decide)) (fun H locs hI => ?_)
  by_cases c13 : r10 = 0
  · have hm := (if_pos c13).symm.trans hm
    refine lv_tableIn (off := 70) (tgt := 112) hx hb dX7_step_42 (by (rw [c13]; decide)) (by (rw [c13]; decide)) (by (rw [c13]; rfl)) (by decide) ?_
    refine lv_aload_n hx hb dX7_step_112 rfl (lv_at hl 3 rfl) ?_
    refine gf_52_9 hx hb ht hK hI mw_231 (fun _ h9 => h9) hown dX7_step_113 ?_
    refine lv_iload hx hb dX7_step_116 (lv_at hl 0 rfl) ?_
    refine lv_iload_n hx hb dX7_step_118 rfl (lv_at hl 2 rfl) ?_
    refine lv_iadd hx hb dX7_step_119 ?_
    refine lv_iload hx hb dX7_step_120 (lv_at hl 1 rfl) ?_
    obtain ⟨g14, hm⟩ := gb_some hm
    refine sv_56 hx hb hK hI g14 dX7_step_122 (fun H locs hI => ?_)
    refine lv_goto (tgt := 380) hx hb dX7_step_123 (by decide) ?_
    exact hR _ _ _ _ _ hm hI dX7_step_380
  have hm := (if_neg c13).symm.trans hm
  by_cases c15 : r10 = 1
  · have hm := (if_pos c15).symm.trans hm
    refine lv_tableIn (off := 84) (tgt := 126) hx hb dX7_step_42 (by (rw [c15]; decide)) (by (rw [c15]; decide)) (by (rw [c15]; rfl)) (by decide) ?_
    refine lv_aload_n hx hb dX7_step_126 rfl (lv_at hl 3 rfl) ?_
    refine gf_52_9 hx hb ht hK hI mw_231 (fun _ h9 => h9) hown dX7_step_127 ?_
    refine lv_iload hx hb dX7_step_130 (lv_at hl 0 rfl) ?_
    refine lv_iload_n hx hb dX7_step_132 rfl (lv_at hl 2 rfl) ?_
    refine lv_iadd hx hb dX7_step_133 ?_
    refine lv_aload_n hx hb dX7_step_134 rfl (lv_at hl 3 rfl) ?_
    refine gf_52_9 hx hb ht hK hI mw_231 (fun _ h9 => h9) hown dX7_step_135 ?_
    refine lv_iload hx hb dX7_step_138 (lv_at hl 0 rfl) ?_
    refine lv_iload hx hb dX7_step_140 (lv_at hl 1 rfl) ?_
    refine lv_iadd hx hb dX7_step_142 ?_
    obtain ⟨g16, hm⟩ := gb_some hm
    refine ld_56 hx hb hK hI g16 (v := σ11 56 (ix ((r7 * 16) + r4))) rfl dX7_step_143 ?_
    obtain ⟨g17, hm⟩ := gb_some hm
    refine sv_56 hx hb hK hI g17 dX7_step_144 (fun H locs hI => ?_)
    refine lv_goto (tgt := 380) hx hb dX7_step_145 (by decide) ?_
    exact hR _ _ _ _ _ hm hI dX7_step_380
  have hm := (if_neg c15).symm.trans hm
  by_cases c18 : r10 = 2
  · have hm := (if_pos c18).symm.trans hm
    refine lv_tableIn (off := 106) (tgt := 148) hx hb dX7_step_42 (by (rw [c18]; decide)) (by (rw [c18]; decide)) (by (rw [c18]; rfl)) (by decide) ?_
    refine lv_aload_n hx hb dX7_step_148 rfl (lv_at hl 3 rfl) ?_
    refine lv_iload_n hx hb dX7_step_149 rfl (lv_at hl 4 rfl) ?_
    refine lv_iload_n hx hb dX7_step_150 rfl (lv_at hl 5 rfl) ?_
    refine lv_iload hx hb dX7_step_151 (lv_at hl 0 rfl) ?_
    obtain ⟨r19, σ20, h21, hm⟩ := bd_some hm
    refine k_v hI hA (va_runV (As := [.int p0, .int p1, .int (r7 * 16)]) (rest := []) hX (c_X7_work N n h21 _) (cwV 3 ht (in_V mw_306 mw_307 mw_308 mw_250 mw_268) rfl rfl rfl pd_X7_work ⟨Nat.le_of_ble_eq_true rfl, Nat.le_of_ble_eq_true rfl⟩) ⟨q_blind, va_recv hK hI.1 (ci := 6) (q0 := 52) rfl rfl, q_to hI hK hN hZ hA⟩ rfl rfl hl.1 rfl (lv_room (Nat.le_of_ble_eq_true rfl)) dX7_step_153 (by decide)) (fun H locs hI => ?_)
    refine lv_goto (tgt := 380) hx hb dX7_step_156 (by decide) ?_
    exact hR _ _ _ _ _ hm hI dX7_step_380
  have hm := (if_neg c18).symm.trans hm
  by_cases c22 : r10 = 3
  · have hm := (if_pos c22).symm.trans hm
    refine lv_tableIn (off := 117) (tgt := 159) hx hb dX7_step_42 (by (rw [c22]; decide)) (by (rw [c22]; decide)) (by (rw [c22]; rfl)) (by decide) ?_
    refine lv_aload_n hx hb dX7_step_159 rfl (lv_at hl 3 rfl) ?_
    refine lv_iload hx hb dX7_step_160 (lv_at hl 0 rfl) ?_
    refine lv_iload_n hx hb dX7_step_162 rfl (lv_at hl 2 rfl) ?_
    refine lv_iadd hx hb dX7_step_163 ?_
    refine lv_iload hx hb dX7_step_164 (lv_at hl 0 rfl) ?_
    refine lv_iload hx hb dX7_step_166 (lv_at hl 1 rfl) ?_
    refine lv_iadd hx hb dX7_step_168 ?_
    obtain ⟨r23, σ24, h25, hm⟩ := bd_some hm
    refine k_v hI hA (va_runV (As := [.int ((r7 * 16) + r1), .int ((r7 * 16) + r4)]) (rest := []) hX (c_X7_swap N n h25 _) (cwV 2 ht (in_V mw_309 mw_310 mw_311 mw_250 mw_269) rfl rfl rfl pd_X7_swap ⟨Nat.le_of_ble_eq_true rfl, Nat.le_of_ble_eq_true rfl⟩) ⟨q_blind, va_recv hK hI.1 (ci := 6) (q0 := 52) rfl rfl, q_to hI hK hN hZ hA⟩ rfl rfl hl.1 rfl (lv_room (Nat.le_of_ble_eq_true rfl)) dX7_step_169 (by decide)) (fun H locs hI => ?_)
    refine lv_goto (tgt := 380) hx hb dX7_step_172 (by decide) ?_
    exact hR _ _ _ _ _ hm hI dX7_step_380
  have hm := (if_neg c22).symm.trans hm
  by_cases c26 : r10 = 4
  · have hm := (if_pos c26).symm.trans hm
    refine lv_tableIn (off := 133) (tgt := 175) hx hb dX7_step_42 (by (rw [c26]; decide)) (by (rw [c26]; decide)) (by (rw [c26]; rfl)) (by decide) ?_
    refine lv_aload_n hx hb dX7_step_175 rfl (lv_at hl 3 rfl) ?_
    refine lv_iload_n hx hb dX7_step_176 rfl (lv_at hl 2 rfl) ?_
    obtain ⟨r27, σ28, h29, hm⟩ := bd_some hm
    refine k_v hI hA (va_runU (As := [.int r1]) (rest := []) hX (c_X4_jump_X7 N n h29 _) (va_cwU 1 ht (in_U mw_312 mw_313 mw_314 mw_315 mw_244 mw_270) rfl rfl rfl rfl (by decide +kernel) ⟨Nat.le_of_ble_eq_true rfl, Nat.le_of_ble_eq_true rfl⟩) ⟨q_blind, va_recv hK hI.1 (ci := 6) (q0 := 52) rfl rfl, q_to hI hK hN hZ hA⟩ rfl rfl hl.1 rfl (lv_room (Nat.le_of_ble_eq_true rfl)) dX7_step_177 (by decide)) (fun H locs hI => ?_)
    refine lv_goto (tgt := 380) hx hb dX7_step_180 (by decide) ?_
    exact hR _ _ _ _ _ hm hI dX7_step_380
  have hm := (if_neg c26).symm.trans hm
  by_cases c30 : r10 = 5
  · have hm := (if_pos c30).symm.trans hm
    refine lv_tableIn (off := 141) (tgt := 183) hx hb dX7_step_42 (by (rw [c30]; decide)) (by (rw [c30]; decide)) (by (rw [c30]; rfl)) (by decide) ?_
    refine lv_aload_n hx hb dX7_step_183 rfl (lv_at hl 3 rfl) ?_
    refine gf_52_9 hx hb ht hK hI mw_231 (fun _ h9 => h9) hown dX7_step_184 ?_
    refine lv_iload hx hb dX7_step_187 (lv_at hl 0 rfl) ?_
    refine lv_iload_n hx hb dX7_step_189 rfl (lv_at hl 2 rfl) ?_
    refine lv_iadd hx hb dX7_step_190 ?_
    obtain ⟨g31, hm⟩ := gb_some hm
    refine ld_56 hx hb hK hI g31 (v := σ11 56 (ix ((r7 * 16) + r1))) rfl dX7_step_191 ?_
    refine lv_if_ne (tgt := 380) hx hb dX7_step_192 (by decide) (fun c32 => ?_) (fun c32 => ?_)
    · have hm := (if_neg c32).symm.trans hm
      exact hR _ _ _ _ _ hm hI dX7_step_380
    · have hm := (if_pos c32).symm.trans hm
      refine lv_aload_n hx hb dX7_step_195 rfl (lv_at hl 3 rfl) ?_
      refine lv_iload hx hb dX7_step_196 (lv_at hl 1 rfl) ?_
      obtain ⟨r33, σ34, h35, hm⟩ := bd_some hm
      refine k_v hI hA (va_runU (As := [.int r4]) (rest := []) hX (c_X4_jump_X7 N n h35 _) (va_cwU 1 ht (in_U mw_312 mw_313 mw_314 mw_315 mw_244 mw_270) rfl rfl rfl rfl (by decide +kernel) ⟨Nat.le_of_ble_eq_true rfl, Nat.le_of_ble_eq_true rfl⟩) ⟨q_blind, va_recv hK hI.1 (ci := 6) (q0 := 52) rfl rfl, q_to hI hK hN hZ hA⟩ rfl rfl hl.1 rfl (lv_room (Nat.le_of_ble_eq_true rfl)) dX7_step_198 (by decide)) (fun H locs hI => ?_)
      refine lv_goto (tgt := 380) hx hb dX7_step_201 (by decide) ?_
      exact hR _ _ _ _ _ hm hI dX7_step_380
  have hm := (if_neg c30).symm.trans hm
  by_cases c36 : r10 = 6
  · have hm := (if_pos c36).symm.trans hm
    refine lv_tableIn (off := 162) (tgt := 204) hx hb dX7_step_42 (by (rw [c36]; decide)) (by (rw [c36]; decide)) (by (rw [c36]; rfl)) (by decide) ?_
    refine lv_aload_n hx hb dX7_step_204 rfl (lv_at hl 3 rfl) ?_
    refine lv_aload_n hx hb dX7_step_205 rfl (lv_at hl 3 rfl) ?_
    refine gf_52_9 hx hb ht hK hI mw_231 (fun _ h9 => h9) hown dX7_step_206 ?_
    refine lv_iload hx hb dX7_step_209 (lv_at hl 0 rfl) ?_
    refine lv_iload_n hx hb dX7_step_211 rfl (lv_at hl 2 rfl) ?_
    refine lv_iadd hx hb dX7_step_212 ?_
    obtain ⟨g37, hm⟩ := gb_some hm
    refine ld_56 hx hb hK hI g37 (v := σ11 56 (ix ((r7 * 16) + r1))) rfl dX7_step_213 ?_
    obtain ⟨r38, σ39, h40, hm⟩ := bd_some hm
    refine k_v hI hA (va_runU (As := [.int (σ11 56 (ix ((r7 * 16) + r1)))]) (rest := []) hX (c_X4_leave_X7 N n h40 _) (va_cwU 1 ht (in_U mw_316 mw_317 mw_318 mw_319 mw_244 mw_292) rfl rfl rfl rfl (by decide +kernel) ⟨Nat.le_of_ble_eq_true rfl, Nat.le_of_ble_eq_true rfl⟩) ⟨q_blind, va_recv hK hI.1 (ci := 6) (q0 := 52) rfl rfl, q_to hI hK hN hZ hA⟩ rfl rfl hl.1 rfl (lv_room (Nat.le_of_ble_eq_true rfl)) dX7_step_214 (by decide)) (fun H locs hI => ?_)
    refine lv_goto (tgt := 380) hx hb dX7_step_217 (by decide) ?_
    exact hR _ _ _ _ _ hm hI dX7_step_380
  have hm := (if_neg c36).symm.trans hm
  by_cases c41 : r10 = 7
  · have hm := (if_pos c41).symm.trans hm
    refine lv_tableIn (off := 178) (tgt := 220) hx hb dX7_step_42 (by (rw [c41]; decide)) (by (rw [c41]; decide)) (by (rw [c41]; rfl)) (by decide) ?_
    refine lv_aload_n hx hb dX7_step_220 rfl (lv_at hl 3 rfl) ?_
    refine lv_iload hx hb dX7_step_221 (lv_at hl 0 rfl) ?_
    refine lv_iload_n hx hb dX7_step_223 rfl (lv_at hl 2 rfl) ?_
    refine lv_iadd hx hb dX7_step_224 ?_
    refine lv_aload_n hx hb dX7_step_225 rfl (lv_at hl 3 rfl) ?_
    refine gf_52_9 hx hb ht hK hI mw_231 (fun _ h9 => h9) hown dX7_step_226 ?_
    refine lv_iload hx hb dX7_step_229 (lv_at hl 0 rfl) ?_
    refine lv_iload hx hb dX7_step_231 (lv_at hl 1 rfl) ?_
    refine lv_iadd hx hb dX7_step_233 ?_
    obtain ⟨g42, hm⟩ := gb_some hm
    refine ld_56 hx hb hK hI g42 (v := σ11 56 (ix ((r7 * 16) + r4))) rfl dX7_step_234 ?_
    obtain ⟨r43, σ44, h45, hm⟩ := bd_some hm
    refine k_v hI hA (va_runV (As := [.int ((r7 * 16) + r1), .int (σ11 56 (ix ((r7 * 16) + r4)))]) (rest := []) hX (c_X7_fetch N n h45 _) (cwV 2 ht (in_V mw_320 mw_321 mw_322 mw_250 mw_294) rfl rfl rfl pd_X7_fetch ⟨Nat.le_of_ble_eq_true rfl, Nat.le_of_ble_eq_true rfl⟩) ⟨q_blind, va_recv hK hI.1 (ci := 6) (q0 := 52) rfl rfl, q_to hI hK hN hZ hA⟩ rfl rfl hl.1 rfl (lv_room (Nat.le_of_ble_eq_true rfl)) dX7_step_235 (by decide)) (fun H locs hI => ?_)
    refine lv_goto (tgt := 380) hx hb dX7_step_238 (by decide) ?_
    exact hR _ _ _ _ _ hm hI dX7_step_380
  have hm := (if_neg c41).symm.trans hm
  by_cases c46 : r10 = 8
  · have hm := (if_pos c46).symm.trans hm
    refine lv_tableIn (off := 199) (tgt := 241) hx hb dX7_step_42 (by (rw [c46]; decide)) (by (rw [c46]; decide)) (by (rw [c46]; rfl)) (by decide) ?_
    refine lv_aload_n hx hb dX7_step_241 rfl (lv_at hl 3 rfl) ?_
    refine lv_aload_n hx hb dX7_step_242 rfl (lv_at hl 3 rfl) ?_
    refine gf_52_9 hx hb ht hK hI mw_231 (fun _ h9 => h9) hown dX7_step_243 ?_
    refine lv_iload hx hb dX7_step_246 (lv_at hl 0 rfl) ?_
    refine lv_iload_n hx hb dX7_step_248 rfl (lv_at hl 2 rfl) ?_
    refine lv_iadd hx hb dX7_step_249 ?_
    obtain ⟨g47, hm⟩ := gb_some hm
    refine ld_56 hx hb hK hI g47 (v := σ11 56 (ix ((r7 * 16) + r1))) rfl dX7_step_250 ?_
    refine lv_aload_n hx hb dX7_step_251 rfl (lv_at hl 3 rfl) ?_
    refine gf_52_9 hx hb ht hK hI mw_231 (fun _ h9 => h9) hown dX7_step_252 ?_
    refine lv_iload hx hb dX7_step_255 (lv_at hl 0 rfl) ?_
    refine lv_iload hx hb dX7_step_257 (lv_at hl 1 rfl) ?_
    refine lv_iadd hx hb dX7_step_259 ?_
    obtain ⟨g48, hm⟩ := gb_some hm
    refine ld_56 hx hb hK hI g48 (v := σ11 56 (ix ((r7 * 16) + r4))) rfl dX7_step_260 ?_
    obtain ⟨r49, σ50, h51, hm⟩ := bd_some hm
    refine k_v hI hA (va_runV (As := [.int (σ11 56 (ix ((r7 * 16) + r1))), .int (σ11 56 (ix ((r7 * 16) + r4)))]) (rest := []) hX (c_X7_store N n h51 _) (cwV 2 ht (in_V mw_323 mw_324 mw_325 mw_250 mw_301) rfl rfl rfl pd_X7_store ⟨Nat.le_of_ble_eq_true rfl, Nat.le_of_ble_eq_true rfl⟩) ⟨q_blind, va_recv hK hI.1 (ci := 6) (q0 := 52) rfl rfl, q_to hI hK hN hZ hA⟩ rfl rfl hl.1 rfl (lv_room (Nat.le_of_ble_eq_true rfl)) dX7_step_261 (by decide)) (fun H locs hI => ?_)
    refine lv_goto (tgt := 380) hx hb dX7_step_264 (by decide) ?_
    exact hR _ _ _ _ _ hm hI dX7_step_380
  have hm := (if_neg c46).symm.trans hm
  by_cases c52 : r10 = 9
  · have hm := (if_pos c52).symm.trans hm
    refine lv_tableIn (off := 225) (tgt := 267) hx hb dX7_step_42 (by (rw [c52]; decide)) (by (rw [c52]; decide)) (by (rw [c52]; rfl)) (by decide) ?_
    refine lv_aload_n hx hb dX7_step_267 rfl (lv_at hl 3 rfl) ?_
    refine gf_52_9 hx hb ht hK hI mw_231 (fun _ h9 => h9) hown dX7_step_268 ?_
    refine lv_iload hx hb dX7_step_271 (lv_at hl 0 rfl) ?_
    refine lv_iload_n hx hb dX7_step_273 rfl (lv_at hl 2 rfl) ?_
    refine lv_iadd hx hb dX7_step_274 ?_
    refine lv_aload_n hx hb dX7_step_275 rfl (lv_at hl 3 rfl) ?_
    refine gf_52_10 hx hb ht hK hI mw_232 (fun _ h9 => h9) hown dX7_step_276 ?_
    refine lv_aload_n hx hb dX7_step_279 rfl (lv_at hl 3 rfl) ?_
    obtain ⟨r53, σ54, h55, hm⟩ := bd_some hm
    refine k_i hI hA (va_runU (As := []) (rest := [.ref (ga g 57), .int ((r7 * 16) + r1), .ref (ga g 56)]) hX (c_X4_room_X7 N n h55 _) (va_cwU 0 ht (in_U mw_303 mw_304 mw_305 mw_274 mw_244 mw_255) rfl rfl rfl rfl (by decide +kernel) ⟨Nat.le_of_ble_eq_true rfl, Nat.le_of_ble_eq_true rfl⟩) ⟨q_blind, va_recv hK hI.1 (ci := 6) (q0 := 52) rfl rfl, q_to hI hK hN hZ hA⟩ rfl rfl hl.1 rfl (lv_room (Nat.le_of_ble_eq_true rfl)) dX7_step_280 (by decide)) (fun H locs hI => ?_)
    refine lv_bipush (v := 22) hx hb dX7_step_283 (by decide) ?_
    refine lv_imul hx hb dX7_step_285 ?_
    refine lv_iload hx hb dX7_step_286 (lv_at hl 1 rfl) ?_
    refine lv_iadd hx hb dX7_step_288 ?_
    obtain ⟨g56, hm⟩ := gb_some hm
    refine ld_57 hx hb hK hI g56 (v := σ54 57 (ix ((r53 * 22) + r4))) rfl dX7_step_289 ?_
    obtain ⟨g57, hm⟩ := gb_some hm
    refine sv_56 hx hb hK hI g57 dX7_step_290 (fun H locs hI => ?_)
    refine lv_goto (tgt := 380) hx hb dX7_step_291 (by decide) ?_
    exact hR _ _ _ _ _ hm hI dX7_step_380
  have hm := (if_neg c52).symm.trans hm
  by_cases c58 : r10 = 10
  · have hm := (if_pos c58).symm.trans hm
    refine lv_tableIn (off := 252) (tgt := 294) hx hb dX7_step_42 (by (rw [c58]; decide)) (by (rw [c58]; decide)) (by (rw [c58]; rfl)) (by decide) ?_
    refine lv_aload_n hx hb dX7_step_294 rfl (lv_at hl 3 rfl) ?_
    refine gf_52_10 hx hb ht hK hI mw_232 (fun _ h9 => h9) hown dX7_step_295 ?_
    refine lv_aload_n hx hb dX7_step_298 rfl (lv_at hl 3 rfl) ?_
    obtain ⟨r59, σ60, h61, hm⟩ := bd_some hm
    refine k_i hI hA (va_runU (As := []) (rest := [.ref (ga g 57)]) hX (c_X4_room_X7 N n h61 _) (va_cwU 0 ht (in_U mw_303 mw_304 mw_305 mw_274 mw_244 mw_255) rfl rfl rfl rfl (by decide +kernel) ⟨Nat.le_of_ble_eq_true rfl, Nat.le_of_ble_eq_true rfl⟩) ⟨q_blind, va_recv hK hI.1 (ci := 6) (q0 := 52) rfl rfl, q_to hI hK hN hZ hA⟩ rfl rfl hl.1 rfl (lv_room (Nat.le_of_ble_eq_true rfl)) dX7_step_299 (by decide)) (fun H locs hI => ?_)
    refine lv_bipush (v := 22) hx hb dX7_step_302 (by decide) ?_
    refine lv_imul hx hb dX7_step_304 ?_
    refine lv_iload_n hx hb dX7_step_305 rfl (lv_at hl 2 rfl) ?_
    refine lv_iadd hx hb dX7_step_306 ?_
    refine lv_aload_n hx hb dX7_step_307 rfl (lv_at hl 3 rfl) ?_
    refine gf_52_9 hx hb ht hK hI mw_231 (fun _ h9 => h9) hown dX7_step_308 ?_
    refine lv_iload hx hb dX7_step_311 (lv_at hl 0 rfl) ?_
    refine lv_iload hx hb dX7_step_313 (lv_at hl 1 rfl) ?_
    refine lv_iadd hx hb dX7_step_315 ?_
    obtain ⟨g62, hm⟩ := gb_some hm
    refine ld_56 hx hb hK hI g62 (v := σ60 56 (ix ((r7 * 16) + r4))) rfl dX7_step_316 ?_
    obtain ⟨g63, hm⟩ := gb_some hm
    refine sv_57 hx hb hK hI g63 dX7_step_317 (fun H locs hI => ?_)
    refine lv_goto (tgt := 380) hx hb dX7_step_318 (by decide) ?_
    exact hR _ _ _ _ _ hm hI dX7_step_380
  have hm := (if_neg c58).symm.trans hm
  by_cases c64 : r10 = 11
  · have hm := (if_pos c64).symm.trans hm
    refine lv_tableIn (off := 279) (tgt := 321) hx hb dX7_step_42 (by (rw [c64]; decide)) (by (rw [c64]; decide)) (by (rw [c64]; rfl)) (by decide) ?_
    refine lv_aload_n hx hb dX7_step_321 rfl (lv_at hl 3 rfl) ?_
    refine gf_52_9 hx hb ht hK hI mw_231 (fun _ h9 => h9) hown dX7_step_322 ?_
    refine lv_iload hx hb dX7_step_325 (lv_at hl 0 rfl) ?_
    refine lv_iload_n hx hb dX7_step_327 rfl (lv_at hl 2 rfl) ?_
    refine lv_iadd hx hb dX7_step_328 ?_
    refine lv_aload_n hx hb dX7_step_329 rfl (lv_at hl 3 rfl) ?_
    refine gf_52_11 hx hb ht hK hI mw_302 (fun _ h9 => h9) hown dX7_step_330 ?_
    refine lv_iload hx hb dX7_step_333 (lv_at hl 1 rfl) ?_
    obtain ⟨g65, hm⟩ := gb_some hm
    refine ld_58 hx hb hK hI g65 (v := σ11 58 (ix r4)) rfl dX7_step_335 ?_
    obtain ⟨g66, hm⟩ := gb_some hm
    refine sv_56 hx hb hK hI g66 dX7_step_336 (fun H locs hI => ?_)
    refine lv_goto (tgt := 380) hx hb dX7_step_337 (by decide) ?_
    exact hR _ _ _ _ _ hm hI dX7_step_380
  have hm := (if_neg c64).symm.trans hm
  by_cases c67 : r10 = 12
  · have hm := (if_pos c67).symm.trans hm
    refine lv_tableIn (off := 298) (tgt := 340) hx hb dX7_step_42 (by (rw [c67]; decide)) (by (rw [c67]; decide)) (by (rw [c67]; rfl)) (by decide) ?_
    refine lv_aload_n hx hb dX7_step_340 rfl (lv_at hl 3 rfl) ?_
    refine gf_52_11 hx hb ht hK hI mw_302 (fun _ h9 => h9) hown dX7_step_341 ?_
    refine lv_iload_n hx hb dX7_step_344 rfl (lv_at hl 2 rfl) ?_
    refine lv_aload_n hx hb dX7_step_345 rfl (lv_at hl 3 rfl) ?_
    refine gf_52_9 hx hb ht hK hI mw_231 (fun _ h9 => h9) hown dX7_step_346 ?_
    refine lv_iload hx hb dX7_step_349 (lv_at hl 0 rfl) ?_
    refine lv_iload hx hb dX7_step_351 (lv_at hl 1 rfl) ?_
    refine lv_iadd hx hb dX7_step_353 ?_
    obtain ⟨g68, hm⟩ := gb_some hm
    refine ld_56 hx hb hK hI g68 (v := σ11 56 (ix ((r7 * 16) + r4))) rfl dX7_step_354 ?_
    obtain ⟨g69, hm⟩ := gb_some hm
    refine sv_58 hx hb hK hI g69 dX7_step_355 (fun H locs hI => ?_)
    refine lv_goto (tgt := 380) hx hb dX7_step_356 (by decide) ?_
    exact hR _ _ _ _ _ hm hI dX7_step_380
  have hm := (if_neg c67).symm.trans hm
  by_cases c70 : r10 = 13
  · have hm := (if_pos c70).symm.trans hm
    refine lv_tableIn (off := 317) (tgt := 359) hx hb dX7_step_42 (by (rw [c70]; decide)) (by (rw [c70]; decide)) (by (rw [c70]; rfl)) (by decide) ?_
    refine lv_aload_n hx hb dX7_step_359 rfl (lv_at hl 3 rfl) ?_
    refine lv_iload_n hx hb dX7_step_360 rfl (lv_at hl 2 rfl) ?_
    obtain ⟨r71, σ72, h73, hm⟩ := bd_some hm
    refine k_v hI hA (va_runU (As := [.int r1]) (rest := []) hX (c_X4_enter_X7 N n h73 _) (va_cwU 1 ht (in_U mw_326 mw_327 mw_328 mw_329 mw_244 mw_254) rfl rfl rfl rfl (by decide +kernel) ⟨Nat.le_of_ble_eq_true rfl, Nat.le_of_ble_eq_true rfl⟩) ⟨q_blind, va_recv hK hI.1 (ci := 6) (q0 := 52) rfl rfl, q_to hI hK hN hZ hA⟩ rfl rfl hl.1 rfl (lv_room (Nat.le_of_ble_eq_true rfl)) dX7_step_361 (by decide)) (fun H locs hI => ?_)
    refine lv_goto (tgt := 380) hx hb dX7_step_364 (by decide) ?_
    exact hR _ _ _ _ _ hm hI dX7_step_380
  have hm := (if_neg c70).symm.trans hm
  refine sw_d (tgt := 367) hx hb [0, 1, 2, 3, 4, 5, 6, 7, 8, 9, 10, 11, 12, 13] dX7_step_42 (by decide) (by decide) (ne_c (lv_neT c13 (by decide)) (ne_c (lv_neT c15 (by decide)) (ne_c (lv_neT c18 (by decide)) (ne_c (lv_neT c22 (by decide)) (ne_c (lv_neT c26 (by decide)) (ne_c (lv_neT c30 (by decide)) (ne_c (lv_neT c36 (by decide)) (ne_c (lv_neT c41 (by decide)) (ne_c (lv_neT c46 (by decide)) (ne_c (lv_neT c52 (by decide)) (ne_c (lv_neT c58 (by decide)) (ne_c (lv_neT c64 (by decide)) (ne_c (lv_neT c67 (by decide)) (ne_c (lv_neT c70 (by decide)) ne_n)))))))))))))) (by decide) ?_
  refine lv_aload_n hx hb dX7_step_367 rfl (lv_at hl 3 rfl) ?_
  refine gf_52_9 hx hb ht hK hI mw_231 (fun _ h9 => h9) hown dX7_step_368 ?_
  refine lv_iload hx hb dX7_step_371 (lv_at hl 0 rfl) ?_
  refine lv_iload_n hx hb dX7_step_373 rfl (lv_at hl 2 rfl) ?_
  refine lv_iadd hx hb dX7_step_374 ?_
  refine lv_aload_n hx hb dX7_step_375 rfl (lv_at hl 3 rfl) ?_
  refine gf_52_12 hx hb ht hK hI (v := σ11 52 12) rfl mw_277 (fun _ h9 => h9) hown dX7_step_376 ?_
  obtain ⟨g74, hm⟩ := gb_some hm
  refine sv_56 hx hb hK hI g74 dX7_step_379 (fun H locs hI => ?_)
  exact hR _ _ _ _ _ hm hI dX7_step_380
def lb_X4_goOn_X7_2 (N n : Nat) (u1 : Int32) (K75 : (Sg → Int32 → Option (Int32 × Sg))) (rec : (Sg → Int32 → Option (Int32 × Sg))) (σ : Sg) (v2 : Int32) : Option (Int32 × Sg) := if u1 ≤ v2 then (K75 σ v2) else (if (σ 52 3) = 0 then (if (σ 52 7) = 0 then (bd (f_X4_enter_X7 N n σ 0) (fun r14 σ15 => bd (f_X4_room_X7 N n σ15 ) (fun r17 σ18 => gb r17 30 (gb r17 30 (gb r17 30 (gb r17 30 (bd (f_X7_step N n (sg (sg σ18 52 5 ((σ18 52 5) + 1)) 55 (ix r17) ((σ18 55 (ix r17)) + 1)) (σ18 54 (ix r17)) (((σ18 55 (ix r17)) + 1) - 1)) (fun r24 σ25 => rec σ25 (v2 + 1))))))))) else (bd (f_X4_room_X7 N n σ ) (fun r4 σ5 => gb r4 30 (gb r4 30 (gb r4 30 (gb r4 30 (bd (f_X7_step N n (sg (sg σ5 52 5 ((σ5 52 5) + 1)) 55 (ix r4) ((σ5 55 (ix r4)) + 1)) (σ5 54 (ix r4)) (((σ5 55 (ix r4)) + 1) - 1)) (fun r11 σ12 => rec σ12 (v2 + 1))))))))) else (K75 σ v2))
def lf_X4_goOn_X7_2 (N n : Nat) (u1 : Int32) (K75 : (Sg → Int32 → Option (Int32 × Sg))) : Nat → (Sg → Int32 → Option (Int32 × Sg))
  | 0 => fun _ _ => none
  | k + 1 => lb_X4_goOn_X7_2 N n u1 K75 (lf_X4_goOn_X7_2 N n u1 K75 k)
def f_X4_goOn_X7 (N n : Nat) (σ : Sg) (p0 : Int32) : Option (Int32 × Sg) := lf_X4_goOn_X7_2 N n p0 (fun σ27 w28 => some (σ27 52 3, σ27)) N σ 0
set_option maxHeartbeats 4000000 in
set_option maxRecDepth 100000 in
theorem lp_X4_goOn_X7_2 {p : Program} {l : Launch} {e : Env} {s : State} {m : MethodId} {args : Array Value} {below : List Frame} {meth : Method} {c : Code} {Q : State → Prop} {A : Nat → Prop} {g : GG} {q N n : Nat} {out : Int32 × Sg} {u1 : Int32} {K75 : (Sg → Int32 → Option (Int32 × Sg))}
    (hC : CXi p l e (qR 4 94) s m args below meth c cX4_goOn 4 RX4 g q n A Q (some out)) :
    ∀ (k : Nat) (σ : Sg) (v2 : Int32) (H : Heap) (locs : List Loc) (ls : Array Slot), lf_X4_goOn_X7_2 N n u1 K75 k σ v2 = some out → wI g q n σ A s.heap H locs → lv_has ls 4 [(0, .ref (ga g 52)), (1, .int u1), (2, .int v2)] → (∀ (σ : Sg) (v2 : Int32) (H : Heap) (locs : List Loc) (ls : Array Slot), K75 σ v2 = some out → wI g q n σ A s.heap H locs → lv_has ls 4 [(0, .ref (ga g 52))] → W p l e (qR 4 94) s m args below meth c H locs 0 0 Q (F0 m 75 ls [])) → W p l e (qR 4 94) s m args below meth c H locs 0 0 Q (F0 m 2 ls []) := by
  obtain ⟨hX, hK, hN, hZ, hA, hR⟩ := id hC
  have hx : p.tables.exec = Jvm.exec := hX.1
  have hb : c.code = cX4_goOn := hX.2.1
  have hml : c.maxLocals = 4 := hX.2.2.1
  have hown : s.vm.findClass RX4 = some m.cls := hX.2.2.2.1
  have ht : ∀ w ∈ BIG, w.before args s = true := hX.2.2.2.2
  intro k
  induction k with
  | zero =>
    intro σ v2 H locs ls hm
    have hm : none = some out := hm
    exact nomatch hm
  | succ k ih =>
    intro σ v2 H locs ls hm hI hl hx75
    have hm : lb_X4_goOn_X7_2 N n u1 K75 (lf_X4_goOn_X7_2 N n u1 K75 k) σ v2 = some out := hm
    unfold lb_X4_goOn_X7_2 at hm
    refine lv_iload_n hx hb dX4_goOn_2 rfl (lv_at hl 2 rfl) ?_
    refine lv_iload_n hx hb dX4_goOn_3 rfl (lv_at hl 1 rfl) ?_
    refine lv_icmp_ge (tgt := 75) hx hb dX4_goOn_4 (by decide) (fun c1 => ?_) (fun c1 => ?_)
    · have hm := (if_pos c1).symm.trans hm
      exact hx75 σ v2 _ _ _ hm hI (lv_sub hl [0] rfl)
    · have hm := (if_neg c1).symm.trans hm
      refine lv_aload_n hx hb dX4_goOn_7 rfl (lv_at hl 0 rfl) ?_
      refine gf_52_3 hx hb ht hK hI (v := σ 52 3) rfl mw_224 (fun _ h9 => h9) hown dX4_goOn_8 ?_
      refine lv_if_ne (tgt := 75) hx hb dX4_goOn_11 (by decide) (fun c2 => ?_) (fun c2 => ?_)
      · have hm := (if_neg c2).symm.trans hm
        exact hx75 σ v2 _ _ _ hm hI (lv_sub hl [0] rfl)
      · have hm := (if_pos c2).symm.trans hm
        refine lv_aload_n hx hb dX4_goOn_14 rfl (lv_at hl 0 rfl) ?_
        refine gf_52_7 hx hb ht hK hI (v := σ 52 7) rfl mw_228 (fun _ h9 => h9) hown dX4_goOn_15 ?_
        refine lv_if_ne (tgt := 26) hx hb dX4_goOn_18 (by decide) (fun c3 => ?_) (fun c3 => ?_)
        · have hm := (if_neg c3).symm.trans hm
          refine lv_aload_n hx hb dX4_goOn_26 rfl (lv_at hl 0 rfl) ?_
          obtain ⟨r4, σ5, h6, hm⟩ := bd_some hm
          refine k_i hI hA (va_runU (As := []) (rest := []) hX (c_X4_room_X7 N n h6 _) (va_cwU 0 ht (in_U mw_271 mw_272 mw_273 mw_274 mw_244 mw_255) rfl rfl rfl rfl (by decide +kernel) ⟨Nat.le_of_ble_eq_true rfl, Nat.le_of_ble_eq_true rfl⟩) ⟨q_blind, va_recv hK hI.1 (ci := 6) (q0 := 52) rfl rfl, q_to hI hK hN hZ hA⟩ rfl rfl hl.1 rfl (lv_room (Nat.le_of_ble_eq_true rfl)) dX4_goOn_27 (by decide)) (fun H locs hI => ?_)
          refine lv_istore_n (lv' := [(3, .int r4), (0, .ref (ga g 52)), (1, .int u1), (2, .int v2)]) hx hb dX4_goOn_30 rfl hl (by decide) rfl (fun ls hl => ?_)
          refine lv_aload_n hx hb dX4_goOn_31 rfl (lv_at hl 1 rfl) ?_
          refine lv_dup hx hb dX4_goOn_32 rfl ?_
          refine gf_52_5 hx hb ht hK hI (v := σ5 52 5) rfl mw_226 (fun _ h9 => h9) hown dX4_goOn_33 ?_
          refine lv_iconst (v := 1) hx hb dX4_goOn_36 (by decide) ?_
          refine lv_iadd hx hb dX4_goOn_37 ?_
          refine pf_52_5 hx hb ht hK hI mw_226 (fun _ h9 => h9) hown dX4_goOn_38 (fun H locs hI => ?_)
          refine lv_aload_n hx hb dX4_goOn_41 rfl (lv_at hl 1 rfl) ?_
          refine gf_52_2 hx hb ht hK hI mw_196 (fun _ h9 => h9) hown dX4_goOn_42 ?_
          refine lv_iload_n hx hb dX4_goOn_45 rfl (lv_at hl 0 rfl) ?_
          refine lv_dup2_11 hx hb dX4_goOn_46 rfl rfl ?_
          obtain ⟨g7, hm⟩ := gb_some hm
          refine ld_55 hx hb hK hI g7 (v := σ5 55 (ix r4)) rfl dX4_goOn_47 ?_
          refine lv_iconst (v := 1) hx hb dX4_goOn_48 (by decide) ?_
          refine lv_iadd hx hb dX4_goOn_49 ?_
          obtain ⟨g8, hm⟩ := gb_some hm
          refine sv_55 hx hb hK hI g8 dX4_goOn_50 (fun H locs hI => ?_)
          refine lv_aload_n hx hb dX4_goOn_51 rfl (lv_at hl 1 rfl) ?_
          refine lv_aload_n hx hb dX4_goOn_52 rfl (lv_at hl 1 rfl) ?_
          refine gf_52_1 hx hb ht hK hI mw_195 (fun _ h9 => h9) hown dX4_goOn_53 ?_
          refine lv_iload_n hx hb dX4_goOn_56 rfl (lv_at hl 0 rfl) ?_
          obtain ⟨g9, hm⟩ := gb_some hm
          refine ld_54 hx hb hK hI g9 (v := σ5 54 (ix r4)) rfl dX4_goOn_57 ?_
          refine lv_aload_n hx hb dX4_goOn_58 rfl (lv_at hl 1 rfl) ?_
          refine gf_52_2 hx hb ht hK hI mw_196 (fun _ h9 => h9) hown dX4_goOn_59 ?_
          refine lv_iload_n hx hb dX4_goOn_62 rfl (lv_at hl 0 rfl) ?_
          obtain ⟨g10, hm⟩ := gb_some hm
          refine ld_55 hx hb hK hI g10 (v := (σ5 55 (ix r4)) + 1) (show upd (σ5 55) (ix r4) ((σ5 55 (ix r4)) + 1) (ix r4) = (σ5 55 (ix r4)) + 1 from up_same _ _ _) dX4_goOn_63 ?_
          refine lv_iconst (v := 1) hx hb dX4_goOn_64 (by decide) ?_
          refine lv_isub hx hb dX4_goOn_65 ?_
          obtain ⟨r11, σ12, h13, hm⟩ := bd_some hm
          refine k_v hI hA (va_runU (As := [.int (σ5 54 (ix r4)), .int (((σ5 55 (ix r4)) + 1) - 1)]) (rest := []) hX (c_X7_step N n h13 _) (va_cwA 2 ht (in_U mw_376 mw_377 mw_378 mw_379 mw_250 mw_330) rfl rfl rfl hZ.2.2.2.2.2.2.2.2.2.2.1 (by decide +kernel) ⟨Nat.le_of_ble_eq_true rfl, Nat.le_of_ble_eq_true rfl⟩) ⟨q_blind, va_recv hK hI.1 (ci := 6) (q0 := 52) rfl rfl, q_to hI hK hN hZ hA⟩ rfl rfl hl.1 rfl (lv_room (Nat.le_of_ble_eq_true rfl)) dX4_goOn_66 (by decide)) (fun H locs hI => ?_)
          refine lv_iinc (v := v2 + 1) (lv' := [(2, .int (v2 + 1)), (3, .int r4), (0, .ref (ga g 52)), (1, .int u1)]) hx hb dX4_goOn_69 hl (k := 3) rfl (congrArg (fun z => v2 + z) (show Int32.ofInt 1 = 1 by decide)) (by decide) rfl (fun ls hl => ?_)
          refine lv_goto (tgt := 2) hx hb dX4_goOn_72 (by decide) ?_
          exact ih σ12 (v2 + 1) _ _ _ hm hI (lv_sub hl [2, 3, 0] rfl) hx75
        · have hm := (if_pos c3).symm.trans hm
          refine lv_aload_n hx hb dX4_goOn_21 rfl (lv_at hl 0 rfl) ?_
          refine lv_iconst (v := 0) hx hb dX4_goOn_22 (by decide) ?_
          obtain ⟨r14, σ15, h16, hm⟩ := bd_some hm
          refine k_v hI hA (va_runU (As := [.int 0]) (rest := []) hX (c_X4_enter_X7 N n h16 _) (va_cwU 1 ht (in_U mw_372 mw_373 mw_374 mw_329 mw_244 mw_254) rfl rfl rfl rfl (by decide +kernel) ⟨Nat.le_of_ble_eq_true rfl, Nat.le_of_ble_eq_true rfl⟩) ⟨q_blind, va_recv hK hI.1 (ci := 6) (q0 := 52) rfl rfl, q_to hI hK hN hZ hA⟩ rfl rfl hl.1 rfl (lv_room (Nat.le_of_ble_eq_true rfl)) dX4_goOn_23 (by decide)) (fun H locs hI => ?_)
          refine lv_aload_n hx hb dX4_goOn_26 rfl (lv_at hl 0 rfl) ?_
          obtain ⟨r17, σ18, h19, hm⟩ := bd_some hm
          refine k_i hI hA (va_runU (As := []) (rest := []) hX (c_X4_room_X7 N n h19 _) (va_cwU 0 ht (in_U mw_271 mw_272 mw_273 mw_274 mw_244 mw_255) rfl rfl rfl rfl (by decide +kernel) ⟨Nat.le_of_ble_eq_true rfl, Nat.le_of_ble_eq_true rfl⟩) ⟨q_blind, va_recv hK hI.1 (ci := 6) (q0 := 52) rfl rfl, q_to hI hK hN hZ hA⟩ rfl rfl hl.1 rfl (lv_room (Nat.le_of_ble_eq_true rfl)) dX4_goOn_27 (by decide)) (fun H locs hI => ?_)
          refine lv_istore_n (lv' := [(3, .int r17), (0, .ref (ga g 52)), (1, .int u1), (2, .int v2)]) hx hb dX4_goOn_30 rfl hl (by decide) rfl (fun ls hl => ?_)
          refine lv_aload_n hx hb dX4_goOn_31 rfl (lv_at hl 1 rfl) ?_
          refine lv_dup hx hb dX4_goOn_32 rfl ?_
          refine gf_52_5 hx hb ht hK hI (v := σ18 52 5) rfl mw_226 (fun _ h9 => h9) hown dX4_goOn_33 ?_
          refine lv_iconst (v := 1) hx hb dX4_goOn_36 (by decide) ?_
          refine lv_iadd hx hb dX4_goOn_37 ?_
          refine pf_52_5 hx hb ht hK hI mw_226 (fun _ h9 => h9) hown dX4_goOn_38 (fun H locs hI => ?_)
          refine lv_aload_n hx hb dX4_goOn_41 rfl (lv_at hl 1 rfl) ?_
          refine gf_52_2 hx hb ht hK hI mw_196 (fun _ h9 => h9) hown dX4_goOn_42 ?_
          refine lv_iload_n hx hb dX4_goOn_45 rfl (lv_at hl 0 rfl) ?_
          refine lv_dup2_11 hx hb dX4_goOn_46 rfl rfl ?_
          obtain ⟨g20, hm⟩ := gb_some hm
          refine ld_55 hx hb hK hI g20 (v := σ18 55 (ix r17)) rfl dX4_goOn_47 ?_
          refine lv_iconst (v := 1) hx hb dX4_goOn_48 (by decide) ?_
          refine lv_iadd hx hb dX4_goOn_49 ?_
          obtain ⟨g21, hm⟩ := gb_some hm
          refine sv_55 hx hb hK hI g21 dX4_goOn_50 (fun H locs hI => ?_)
          refine lv_aload_n hx hb dX4_goOn_51 rfl (lv_at hl 1 rfl) ?_
          refine lv_aload_n hx hb dX4_goOn_52 rfl (lv_at hl 1 rfl) ?_
          refine gf_52_1 hx hb ht hK hI mw_195 (fun _ h9 => h9) hown dX4_goOn_53 ?_
          refine lv_iload_n hx hb dX4_goOn_56 rfl (lv_at hl 0 rfl) ?_
          obtain ⟨g22, hm⟩ := gb_some hm
          refine ld_54 hx hb hK hI g22 (v := σ18 54 (ix r17)) rfl dX4_goOn_57 ?_
          refine lv_aload_n hx hb dX4_goOn_58 rfl (lv_at hl 1 rfl) ?_
          refine gf_52_2 hx hb ht hK hI mw_196 (fun _ h9 => h9) hown dX4_goOn_59 ?_
          refine lv_iload_n hx hb dX4_goOn_62 rfl (lv_at hl 0 rfl) ?_
          obtain ⟨g23, hm⟩ := gb_some hm
          refine ld_55 hx hb hK hI g23 (v := (σ18 55 (ix r17)) + 1) (show upd (σ18 55) (ix r17) ((σ18 55 (ix r17)) + 1) (ix r17) = (σ18 55 (ix r17)) + 1 from up_same _ _ _) dX4_goOn_63 ?_
          refine lv_iconst (v := 1) hx hb dX4_goOn_64 (by decide) ?_
          refine lv_isub hx hb dX4_goOn_65 ?_
          obtain ⟨r24, σ25, h26, hm⟩ := bd_some hm
          refine k_v hI hA (va_runU (As := [.int (σ18 54 (ix r17)), .int (((σ18 55 (ix r17)) + 1) - 1)]) (rest := []) hX (c_X7_step N n h26 _) (va_cwA 2 ht (in_U mw_376 mw_377 mw_378 mw_379 mw_250 mw_330) rfl rfl rfl hZ.2.2.2.2.2.2.2.2.2.2.1 (by decide +kernel) ⟨Nat.le_of_ble_eq_true rfl, Nat.le_of_ble_eq_true rfl⟩) ⟨q_blind, va_recv hK hI.1 (ci := 6) (q0 := 52) rfl rfl, q_to hI hK hN hZ hA⟩ rfl rfl hl.1 rfl (lv_room (Nat.le_of_ble_eq_true rfl)) dX4_goOn_66 (by decide)) (fun H locs hI => ?_)
          refine lv_iinc (v := v2 + 1) (lv' := [(2, .int (v2 + 1)), (3, .int r17), (0, .ref (ga g 52)), (1, .int u1)]) hx hb dX4_goOn_69 hl (k := 3) rfl (congrArg (fun z => v2 + z) (show Int32.ofInt 1 = 1 by decide)) (by decide) rfl (fun ls hl => ?_)
          refine lv_goto (tgt := 2) hx hb dX4_goOn_72 (by decide) ?_
          exact ih σ25 (v2 + 1) _ _ _ hm hI (lv_sub hl [2, 3, 0] rfl) hx75
set_option maxHeartbeats 4000000 in
set_option maxRecDepth 100000 in
theorem c_X4_goOn_X7 {l : Launch} {g : GG} {q : Nat} (N n : Nat) {σ : Sg} {p0 : Int32} {r : Int32} {σ' : Sg} (hm : f_X4_goOn_X7 N n σ p0 = some (r, σ')) : CTi l yX4_goOn cX4_goOn 4 (some .int) 4 94 g q n [.ref (ga g 52), .int p0] σ r σ' := by
  refine e_i (r := r) (by decide) (Nat.le_of_ble_eq_true rfl) ?_
  intro p e s m args below meth c A Q ls hC hl hI
  obtain ⟨hX, hK, hN, hZ, hA, hR⟩ := id hC
  have hx : p.tables.exec = Jvm.exec := hX.1
  have hb : c.code = cX4_goOn := hX.2.1
  have hml : c.maxLocals = 4 := hX.2.2.1
  have hown : s.vm.findClass RX4 = some m.cls := hX.2.2.2.1
  have ht : ∀ w ∈ BIG, w.before args s = true := hX.2.2.2.2
  have hl : lv_has ls 4 [(0, .ref (ga g 52)), (1, .int p0)] := hl
  unfold f_X4_goOn_X7 at hm
  refine lv_iconst (v := 0) hx hb dX4_goOn_0 (by decide) ?_
  refine lv_istore_n (lv' := [(2, .int 0), (0, .ref (ga g 52)), (1, .int p0)]) hx hb dX4_goOn_1 rfl hl (by decide) rfl (fun ls hl => ?_)
  refine lp_X4_goOn_X7_2 hC N _ _ _ _ _ hm hI (lv_sub hl [1, 2, 0] rfl) ?_
  intro σ27 w28 H locs ls hm hI hl
  refine lv_aload_n hx hb dX4_goOn_75 rfl (lv_at hl 0 rfl) ?_
  refine gf_52_3 hx hb ht hK hI (v := σ27 52 3) rfl mw_224 (fun _ h9 => h9) hown dX4_goOn_76 ?_
  exact hR _ _ _ _ _ _ hm hI dX4_goOn_79
