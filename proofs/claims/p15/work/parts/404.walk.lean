def f_X11_runRegisters (N n : Nat) (σ : Sg) (p0 : Int32) : Option (Int32 × Sg) := if (σ 11 7) = 0 then (some ((-1), σ)) else (if p0 < 1 then (some ((-1), σ)) else (if p0 ≤ 20000 then (bd (f_X4_goOn_X7 N n σ p0) (fun r4 σ5 => some (r4, σ5))) else (some ((-1), σ))))
set_option maxHeartbeats 4000000 in
set_option maxRecDepth 100000 in
theorem c_X11_runRegisters {l : Launch} {g : GG} {q : Nat} (N n : Nat) {σ : Sg} {p0 : Int32} {r : Int32} {σ' : Sg} (hm : f_X11_runRegisters N n σ p0 = some (r, σ')) : CTi l yX11_runRegisters cX11_runRegisters 2 (some .int) 5 117 g q n [.ref (ga g 0), .int p0] σ r σ' := by
  refine e_i (r := r) (by decide) (Nat.le_of_ble_eq_true rfl) ?_
  intro p e s m args below meth c A Q ls hC hl hI
  obtain ⟨hX, hK, hN, hZ, hA, hR⟩ := id hC
  have hx : p.tables.exec = Jvm.exec := hX.1
  have hb : c.code = cX11_runRegisters := hX.2.1
  have hml : c.maxLocals = 2 := hX.2.2.1
  have hown : s.vm.findClass RX11 = some m.cls := hX.2.2.2.1
  have ht : ∀ w ∈ BIG, w.before args s = true := hX.2.2.2.2
  have hl : lv_has ls 2 [(0, .ref (ga g 0)), (1, .int p0)] := hl
  unfold f_X11_runRegisters at hm
  refine lv_aload_n hx hb dX11_runRegisters_0 rfl (lv_at hl 0 rfl) ?_
  refine gf_0_2 hx hb ht hK hI mw_646 (fun _ h9 => h9) hown dX11_runRegisters_1 ?_
  refine gf_11_7 hx hb ht hK hI (v := σ 11 7) rfl mw_695 (fun _ h9 => h9) hown dX11_runRegisters_4 ?_
  refine lv_if_eq (tgt := 22) hx hb dX11_runRegisters_7 (by decide) (fun c1 => ?_) (fun c1 => ?_)
  · have hm := (if_pos c1).symm.trans hm
    refine lv_iconst (v := (-1)) hx hb dX11_runRegisters_22 (by decide) ?_
    exact hR _ _ _ _ _ _ hm hI dX11_runRegisters_23
  · have hm := (if_neg c1).symm.trans hm
    refine lv_iload_n hx hb dX11_runRegisters_10 rfl (lv_at hl 1 rfl) ?_
    refine lv_iconst (v := 1) hx hb dX11_runRegisters_11 (by decide) ?_
    refine lv_icmp_lt (tgt := 22) hx hb dX11_runRegisters_12 (by decide) (fun c2 => ?_) (fun c2 => ?_)
    · have hm := (if_pos c2).symm.trans hm
      refine lv_iconst (v := (-1)) hx hb dX11_runRegisters_22 (by decide) ?_
      exact hR _ _ _ _ _ _ hm hI dX11_runRegisters_23
    · have hm := (if_neg c2).symm.trans hm
      refine lv_iload_n hx hb dX11_runRegisters_15 rfl (lv_at hl 1 rfl) ?_
      refine lv_sipush (v := 20000) hx hb dX11_runRegisters_16 (by decide) ?_
      refine lv_icmp_le (tgt := 24) hx hb dX11_runRegisters_19 (by decide) (fun c3 => ?_) (fun c3 => ?_)
      · have hm := (if_pos c3).symm.trans hm
        refine lv_aload_n hx hb dX11_runRegisters_24 rfl (lv_at hl 0 rfl) ?_
        refine gf_0_4 hx hb ht hK hI mw_653 (fun _ h9 => h9) hown dX11_runRegisters_25 ?_
        refine lv_iload_n hx hb dX11_runRegisters_28 rfl (lv_at hl 1 rfl) ?_
        obtain ⟨r4, σ5, h6, hm⟩ := bd_some hm
        refine k_i hI hA (va_runU (As := [.int p0]) (rest := []) hX (c_X4_goOn_X7 N n h6 _) (va_cwU 1 ht (in_U mw_735 mw_736 mw_737 mw_738 mw_244 mw_382) rfl rfl rfl rfl (by decide +kernel) ⟨Nat.le_of_ble_eq_true rfl, Nat.le_of_ble_eq_true rfl⟩) ⟨q_blind, va_recv hK hI.1 (ci := 6) (q0 := 52) rfl rfl, q_to hI hK hN hZ hA⟩ rfl rfl hl.1 rfl (lv_room (Nat.le_of_ble_eq_true rfl)) dX11_runRegisters_29 (by decide)) (fun H locs hI => ?_)
        exact hR _ _ _ _ _ _ hm hI dX11_runRegisters_32
      · have hm := (if_neg c3).symm.trans hm
        refine lv_iconst (v := (-1)) hx hb dX11_runRegisters_22 (by decide) ?_
        exact hR _ _ _ _ _ _ hm hI dX11_runRegisters_23
def f_X4_room_X8 (N n : Nat) (σ : Sg)  : Option (Int32 × Sg) := some ((σ 45 7) - 1, σ)
set_option maxHeartbeats 4000000 in
set_option maxRecDepth 100000 in
theorem c_X4_room_X8 {l : Launch} {g : GG} {q : Nat} (N n : Nat) {σ : Sg}  {r : Int32} {σ' : Sg} (hm : f_X4_room_X8 N n σ  = some (r, σ')) : CTi l yX4_room cX4_room 1 (some .int) 0 0 g q n [.ref (ga g 45)] σ r σ' := by
  refine e_i (r := r) (by decide) (Nat.le_of_ble_eq_true rfl) ?_
  intro p e s m args below meth c A Q ls hC hl hI
  obtain ⟨hX, hK, hN, hZ, hA, hR⟩ := id hC
  have hx : p.tables.exec = Jvm.exec := hX.1
  have hb : c.code = cX4_room := hX.2.1
  have hml : c.maxLocals = 1 := hX.2.2.1
  have hown : s.vm.findClass RX4 = some m.cls := hX.2.2.2.1
  have ht : ∀ w ∈ BIG, w.before args s = true := hX.2.2.2.2
  have hl : lv_has ls 1 [(0, .ref (ga g 45))] := hl
  unfold f_X4_room_X8 at hm
  refine lv_aload_n hx hb dX4_room_0 rfl (lv_at hl 0 rfl) ?_
  refine gf_45_7 hx hb ht hK hI (v := σ 45 7) rfl mw_228 (fun _ h9 => h9) hown dX4_room_1 ?_
  refine lv_iconst (v := 1) hx hb dX4_room_4 (by decide) ?_
  refine lv_isub hx hb dX4_room_5 ?_
  exact hR _ _ _ _ _ _ hm hI dX4_room_6
def f_X8_push (N n : Nat) (σ : Sg) (p0 : Int32) : Option (Int32 × Sg) := gb (σ 45 12) 360 (some (0, sg (sg σ 50 (ix (σ 45 12)) p0) 45 12 ((σ 45 12) + 1)))
set_option maxHeartbeats 4000000 in
set_option maxRecDepth 100000 in
theorem c_X8_push {l : Launch} {g : GG} {q : Nat} (N n : Nat) {σ : Sg} {p0 : Int32} {r : Int32} {σ' : Sg} (hm : f_X8_push N n σ p0 = some (r, σ')) : CTv l yX8_push cX8_push 2 none 0 0 g q n [.ref (ga g 45), .int p0] σ σ' := by
  refine e_v (r := r) (by decide) (Nat.le_of_ble_eq_true rfl) ?_
  intro p e s m args below meth c A Q ls hC hl hI
  obtain ⟨hX, hK, hN, hZ, hA, hR⟩ := id hC
  have hx : p.tables.exec = Jvm.exec := hX.1
  have hb : c.code = cX8_push := hX.2.1
  have hml : c.maxLocals = 2 := hX.2.2.1
  have hown : s.vm.findClass RX8 = some m.cls := hX.2.2.2.1
  have ht : ∀ w ∈ BIG, w.before args s = true := hX.2.2.2.2
  have hl : lv_has ls 2 [(0, .ref (ga g 45)), (1, .int p0)] := hl
  unfold f_X8_push at hm
  refine lv_aload_n hx hb dX8_push_0 rfl (lv_at hl 0 rfl) ?_
  refine gf_45_10 hx hb ht hK hI mw_238 (fun _ h9 => h9) hown dX8_push_1 ?_
  refine lv_aload_n hx hb dX8_push_4 rfl (lv_at hl 0 rfl) ?_
  refine gf_45_12 hx hb ht hK hI (v := σ 45 12) rfl mw_236 (fun _ h9 => h9) hown dX8_push_5 ?_
  refine lv_iload_n hx hb dX8_push_8 rfl (lv_at hl 1 rfl) ?_
  obtain ⟨g1, hm⟩ := gb_some hm
  refine sv_50 hx hb hK hI g1 dX8_push_9 (fun H locs hI => ?_)
  refine lv_aload_n hx hb dX8_push_10 rfl (lv_at hl 0 rfl) ?_
  refine lv_dup hx hb dX8_push_11 rfl ?_
  refine gf_45_12 hx hb ht hK hI (v := σ 45 12) rfl mw_236 (fun _ h9 => h9) hown dX8_push_12 ?_
  refine lv_iconst (v := 1) hx hb dX8_push_15 (by decide) ?_
  refine lv_iadd hx hb dX8_push_16 ?_
  refine pf_45_12 hx hb ht hK hI mw_236 (fun _ h9 => h9) hown dX8_push_17 (fun H locs hI => ?_)
  exact hR _ _ _ _ _ hm hI dX8_push_20
def f_X8_pop (N n : Nat) (σ : Sg)  : Option (Int32 × Sg) := gb ((σ 45 12) - 1) 360 (some (σ 50 (ix ((σ 45 12) - 1)), sg σ 45 12 ((σ 45 12) - 1)))
set_option maxHeartbeats 4000000 in
set_option maxRecDepth 100000 in
theorem c_X8_pop {l : Launch} {g : GG} {q : Nat} (N n : Nat) {σ : Sg}  {r : Int32} {σ' : Sg} (hm : f_X8_pop N n σ  = some (r, σ')) : CTi l yX8_pop cX8_pop 1 (some .int) 0 0 g q n [.ref (ga g 45)] σ r σ' := by
  refine e_i (r := r) (by decide) (Nat.le_of_ble_eq_true rfl) ?_
  intro p e s m args below meth c A Q ls hC hl hI
  obtain ⟨hX, hK, hN, hZ, hA, hR⟩ := id hC
  have hx : p.tables.exec = Jvm.exec := hX.1
  have hb : c.code = cX8_pop := hX.2.1
  have hml : c.maxLocals = 1 := hX.2.2.1
  have hown : s.vm.findClass RX8 = some m.cls := hX.2.2.2.1
  have ht : ∀ w ∈ BIG, w.before args s = true := hX.2.2.2.2
  have hl : lv_has ls 1 [(0, .ref (ga g 45))] := hl
  unfold f_X8_pop at hm
  refine lv_aload_n hx hb dX8_pop_0 rfl (lv_at hl 0 rfl) ?_
  refine lv_dup hx hb dX8_pop_1 rfl ?_
  refine gf_45_12 hx hb ht hK hI (v := σ 45 12) rfl mw_236 (fun _ h9 => h9) hown dX8_pop_2 ?_
  refine lv_iconst (v := 1) hx hb dX8_pop_5 (by decide) ?_
  refine lv_isub hx hb dX8_pop_6 ?_
  refine pf_45_12 hx hb ht hK hI mw_236 (fun _ h9 => h9) hown dX8_pop_7 (fun H locs hI => ?_)
  refine lv_aload_n hx hb dX8_pop_10 rfl (lv_at hl 0 rfl) ?_
  refine gf_45_10 hx hb ht hK hI mw_238 (fun _ h9 => h9) hown dX8_pop_11 ?_
  refine lv_aload_n hx hb dX8_pop_14 rfl (lv_at hl 0 rfl) ?_
  refine gf_45_12 hx hb ht hK hI (v := (σ 45 12) - 1) rfl mw_236 (fun _ h9 => h9) hown dX8_pop_15 ?_
  obtain ⟨g1, hm⟩ := gb_some hm
  refine ld_50 hx hb hK hI g1 (v := σ 50 (ix ((σ 45 12) - 1))) rfl dX8_pop_18 ?_
  exact hR _ _ _ _ _ _ hm hI dX8_pop_19
def f_X8_flip (N n : Nat) (σ : Sg)  : Option (Int32 × Sg) := bd (f_X8_pop N n σ ) (fun r1 σ2 => bd (f_X8_pop N n σ2 ) (fun r4 σ5 => bd (f_X8_push N n σ5 r1) (fun r7 σ8 => bd (f_X8_push N n σ8 r4) (fun r10 σ11 => some (0, σ11)))))
set_option maxHeartbeats 4000000 in
set_option maxRecDepth 100000 in
theorem c_X8_flip {l : Launch} {g : GG} {q : Nat} (N n : Nat) {σ : Sg}  {r : Int32} {σ' : Sg} (hm : f_X8_flip N n σ  = some (r, σ')) : CTv l yX8_flip cX8_flip 3 none 1 21 g q n [.ref (ga g 45)] σ σ' := by
  refine e_v (r := r) (by decide) (Nat.le_of_ble_eq_true rfl) ?_
  intro p e s m args below meth c A Q ls hC hl hI
  obtain ⟨hX, hK, hN, hZ, hA, hR⟩ := id hC
  have hx : p.tables.exec = Jvm.exec := hX.1
  have hb : c.code = cX8_flip := hX.2.1
  have hml : c.maxLocals = 3 := hX.2.2.1
  have hown : s.vm.findClass RX8 = some m.cls := hX.2.2.2.1
  have ht : ∀ w ∈ BIG, w.before args s = true := hX.2.2.2.2
  have hl : lv_has ls 3 [(0, .ref (ga g 45))] := hl
  unfold f_X8_flip at hm
  refine lv_aload_n hx hb dX8_flip_0 rfl (lv_at hl 0 rfl) ?_
  obtain ⟨r1, σ2, h3, hm⟩ := bd_some hm
  refine k_i hI hA (va_runV (As := []) (rest := []) hX (c_X8_pop N n h3 _) (cwV 0 ht (in_V mw_333 mw_334 mw_335 mw_253 mw_331) rfl rfl rfl pd_X8_pop ⟨Nat.le_of_ble_eq_true rfl, Nat.le_of_ble_eq_true rfl⟩) ⟨q_blind, va_recv hK hI.1 (ci := 7) (q0 := 45) rfl rfl, q_to hI hK hN hZ hA⟩ rfl rfl hl.1 rfl (lv_room (Nat.le_of_ble_eq_true rfl)) dX8_flip_1 (by decide)) (fun H locs hI => ?_)
  refine lv_istore_n (lv' := [(1, .int r1), (0, .ref (ga g 45))]) hx hb dX8_flip_4 rfl hl (by decide) rfl (fun ls hl => ?_)
  refine lv_aload_n hx hb dX8_flip_5 rfl (lv_at hl 1 rfl) ?_
  obtain ⟨r4, σ5, h6, hm⟩ := bd_some hm
  refine k_i hI hA (va_runV (As := []) (rest := []) hX (c_X8_pop N n h6 _) (cwV 0 ht (in_V mw_333 mw_334 mw_335 mw_253 mw_331) rfl rfl rfl pd_X8_pop ⟨Nat.le_of_ble_eq_true rfl, Nat.le_of_ble_eq_true rfl⟩) ⟨q_blind, va_recv hK hI.1 (ci := 7) (q0 := 45) rfl rfl, q_to hI hK hN hZ hA⟩ rfl rfl hl.1 rfl (lv_room (Nat.le_of_ble_eq_true rfl)) dX8_flip_6 (by decide)) (fun H locs hI => ?_)
  refine lv_istore_n (lv' := [(2, .int r4), (1, .int r1), (0, .ref (ga g 45))]) hx hb dX8_flip_9 rfl hl (by decide) rfl (fun ls hl => ?_)
  refine lv_aload_n hx hb dX8_flip_10 rfl (lv_at hl 2 rfl) ?_
  refine lv_iload_n hx hb dX8_flip_11 rfl (lv_at hl 1 rfl) ?_
  obtain ⟨r7, σ8, h9, hm⟩ := bd_some hm
  refine k_v hI hA (va_runV (As := [.int r1]) (rest := []) hX (c_X8_push N n h9 _) (cwV 1 ht (in_V mw_283 mw_284 mw_285 mw_253 mw_278) rfl rfl rfl pd_X8_push ⟨Nat.le_of_ble_eq_true rfl, Nat.le_of_ble_eq_true rfl⟩) ⟨q_blind, va_recv hK hI.1 (ci := 7) (q0 := 45) rfl rfl, q_to hI hK hN hZ hA⟩ rfl rfl hl.1 rfl (lv_room (Nat.le_of_ble_eq_true rfl)) dX8_flip_12 (by decide)) (fun H locs hI => ?_)
  refine lv_aload_n hx hb dX8_flip_15 rfl (lv_at hl 2 rfl) ?_
  refine lv_iload_n hx hb dX8_flip_16 rfl (lv_at hl 0 rfl) ?_
  obtain ⟨r10, σ11, h12, hm⟩ := bd_some hm
  refine k_v hI hA (va_runV (As := [.int r4]) (rest := []) hX (c_X8_push N n h12 _) (cwV 1 ht (in_V mw_283 mw_284 mw_285 mw_253 mw_278) rfl rfl rfl pd_X8_push ⟨Nat.le_of_ble_eq_true rfl, Nat.le_of_ble_eq_true rfl⟩) ⟨q_blind, va_recv hK hI.1 (ci := 7) (q0 := 45) rfl rfl, q_to hI hK hN hZ hA⟩ rfl rfl hl.1 rfl (lv_room (Nat.le_of_ble_eq_true rfl)) dX8_flip_17 (by decide)) (fun H locs hI => ?_)
  exact hR _ _ _ _ _ hm hI dX8_flip_20
def f_X4_jump_X8 (N n : Nat) (σ : Sg) (p0 : Int32) : Option (Int32 × Sg) := bd (f_X4_room_X8 N n σ ) (fun r1 σ2 => gb r1 30 (some (0, sg σ2 48 (ix r1) p0)))
set_option maxHeartbeats 4000000 in
set_option maxRecDepth 100000 in
theorem c_X4_jump_X8 {l : Launch} {g : GG} {q : Nat} (N n : Nat) {σ : Sg} {p0 : Int32} {r : Int32} {σ' : Sg} (hm : f_X4_jump_X8 N n σ p0 = some (r, σ')) : CTv l yX4_jump cX4_jump 2 none 1 20 g q n [.ref (ga g 45), .int p0] σ σ' := by
  refine e_v (r := r) (by decide) (Nat.le_of_ble_eq_true rfl) ?_
  intro p e s m args below meth c A Q ls hC hl hI
  obtain ⟨hX, hK, hN, hZ, hA, hR⟩ := id hC
  have hx : p.tables.exec = Jvm.exec := hX.1
  have hb : c.code = cX4_jump := hX.2.1
  have hml : c.maxLocals = 2 := hX.2.2.1
  have hown : s.vm.findClass RX4 = some m.cls := hX.2.2.2.1
  have ht : ∀ w ∈ BIG, w.before args s = true := hX.2.2.2.2
  have hl : lv_has ls 2 [(0, .ref (ga g 45)), (1, .int p0)] := hl
  unfold f_X4_jump_X8 at hm
  refine lv_aload_n hx hb dX4_jump_0 rfl (lv_at hl 0 rfl) ?_
  refine gf_45_2 hx hb ht hK hI mw_196 (fun _ h9 => h9) hown dX4_jump_1 ?_
  refine lv_aload_n hx hb dX4_jump_4 rfl (lv_at hl 0 rfl) ?_
  obtain ⟨r1, σ2, h3, hm⟩ := bd_some hm
  refine k_i hI hA (va_runU (As := []) (rest := [.ref (ga g 48)]) hX (c_X4_room_X8 N n h3 _) (va_cwU 0 ht (in_U mw_271 mw_272 mw_275 mw_274 mw_244 mw_255) rfl rfl rfl rfl (by decide +kernel) ⟨Nat.le_of_ble_eq_true rfl, Nat.le_of_ble_eq_true rfl⟩) ⟨q_blind, va_recv hK hI.1 (ci := 7) (q0 := 45) rfl rfl, q_to hI hK hN hZ hA⟩ rfl rfl hl.1 rfl (lv_room (Nat.le_of_ble_eq_true rfl)) dX4_jump_5 (by decide)) (fun H locs hI => ?_)
  refine lv_iload_n hx hb dX4_jump_8 rfl (lv_at hl 1 rfl) ?_
  obtain ⟨g4, hm⟩ := gb_some hm
  refine sv_48 hx hb hK hI g4 dX4_jump_9 (fun H locs hI => ?_)
  exact hR _ _ _ _ _ hm hI dX4_jump_10
def lb_X8_openRoom_38 (N n : Nat) (u2 : Int32) (u3 : Int32) (u4 : Int32) (K83 : (Sg → Int32 → Option (Int32 × Sg))) (rec : (Sg → Int32 → Option (Int32 × Sg))) (σ : Sg) (v5 : Int32) : Option (Int32 × Sg) := if 10 ≤ v5 then (K83 σ v5) else (if u4 ≤ v5 then (gb (u3 + v5) 300 (rec (sg σ 49 (ix (u3 + v5)) 0) (v5 + 1))) else (gb ((σ 45 12) + v5) 360 (gb (u3 + v5) 300 (rec (sg σ 49 (ix (u3 + v5)) (σ 50 (ix ((σ 45 12) + v5)))) (v5 + 1)))))
def lf_X8_openRoom_38 (N n : Nat) (u2 : Int32) (u3 : Int32) (u4 : Int32) (K83 : (Sg → Int32 → Option (Int32 × Sg))) : Nat → (Sg → Int32 → Option (Int32 × Sg))
  | 0 => fun _ _ => none
  | k + 1 => lb_X8_openRoom_38 N n u2 u3 u4 K83 (lf_X8_openRoom_38 N n u2 u3 u4 K83 k)
def f_X8_openRoom (N n : Nat) (σ : Sg) (p0 : Int32) (p1 : Int32) : Option (Int32 × Sg) := if p1 = 0 then (lf_X8_openRoom_38 N n p1 (p1 * 10) 0 (fun σ11 w12 => gb p1 30 (some (0, sg σ11 51 (ix p1) (σ11 45 12)))) N (sg σ 45 12 ((σ 45 12) - 0)) 0) else (gb p0 12 (lf_X8_openRoom_38 N n p1 (p1 * 10) (σ 2 (ix p0)) (fun σ8 w9 => gb p1 30 (some (0, sg σ8 51 (ix p1) (σ8 45 12)))) N (sg σ 45 12 ((σ 45 12) - (σ 2 (ix p0)))) 0))
set_option maxHeartbeats 4000000 in
set_option maxRecDepth 100000 in
theorem lp_X8_openRoom_38 {p : Program} {l : Launch} {e : Env} {s : State} {m : MethodId} {args : Array Value} {below : List Frame} {meth : Method} {c : Code} {Q : State → Prop} {A : Nat → Prop} {g : GG} {q N n : Nat} {out : Int32 × Sg} {u2 : Int32} {u3 : Int32} {u4 : Int32} {K83 : (Sg → Int32 → Option (Int32 × Sg))}
    (hC : CXv p l e (qR 0 0) s m args below meth c cX8_openRoom 6 RX8 g q n A Q (some out)) :
    ∀ (k : Nat) (σ : Sg) (v5 : Int32) (H : Heap) (locs : List Loc) (ls : Array Slot), lf_X8_openRoom_38 N n u2 u3 u4 K83 k σ v5 = some out → wI g q n σ A s.heap H locs → lv_has ls 6 [(0, .ref (ga g 45)), (2, .int u2), (3, .int u3), (4, .int u4), (5, .int v5)] → (∀ (σ : Sg) (v5 : Int32) (H : Heap) (locs : List Loc) (ls : Array Slot), K83 σ v5 = some out → wI g q n σ A s.heap H locs → lv_has ls 6 [(0, .ref (ga g 45)), (2, .int u2)] → W p l e (qR 0 0) s m args below meth c H locs 0 0 Q (F0 m 83 ls [])) → W p l e (qR 0 0) s m args below meth c H locs 0 0 Q (F0 m 38 ls []) := by
  obtain ⟨hX, hK, hN, hZ, hA, hR⟩ := id hC
  have hx : p.tables.exec = Jvm.exec := hX.1
  have hb : c.code = cX8_openRoom := hX.2.1
  have hml : c.maxLocals = 6 := hX.2.2.1
  have hown : s.vm.findClass RX8 = some m.cls := hX.2.2.2.1
  have ht : ∀ w ∈ BIG, w.before args s = true := hX.2.2.2.2
  intro k
  induction k with
  | zero =>
    intro σ v5 H locs ls hm
    have hm : none = some out := hm
    exact nomatch hm
  | succ k ih =>
    intro σ v5 H locs ls hm hI hl hx83
    have hm : lb_X8_openRoom_38 N n u2 u3 u4 K83 (lf_X8_openRoom_38 N n u2 u3 u4 K83 k) σ v5 = some out := hm
    unfold lb_X8_openRoom_38 at hm
    refine lv_iload hx hb dX8_openRoom_38 (lv_at hl 4 rfl) ?_
    refine lv_bipush (v := 10) hx hb dX8_openRoom_40 (by decide) ?_
    refine lv_icmp_ge (tgt := 83) hx hb dX8_openRoom_42 (by decide) (fun c3 => ?_) (fun c3 => ?_)
    · have hm := (if_pos c3).symm.trans hm
      exact hx83 σ v5 _ _ _ hm hI (lv_sub hl [0, 1] rfl)
    · have hm := (if_neg c3).symm.trans hm
      refine lv_aload_n hx hb dX8_openRoom_45 rfl (lv_at hl 0 rfl) ?_
      refine gf_45_9 hx hb ht hK hI mw_237 (fun _ h9 => h9) hown dX8_openRoom_46 ?_
      refine lv_iload_n hx hb dX8_openRoom_49 rfl (lv_at hl 2 rfl) ?_
      refine lv_iload hx hb dX8_openRoom_50 (lv_at hl 4 rfl) ?_
      refine lv_iadd hx hb dX8_openRoom_52 ?_
      refine lv_iload hx hb dX8_openRoom_53 (lv_at hl 4 rfl) ?_
      refine lv_iload hx hb dX8_openRoom_55 (lv_at hl 3 rfl) ?_
      refine lv_icmp_ge (tgt := 75) hx hb dX8_openRoom_57 (by decide) (fun c4 => ?_) (fun c4 => ?_)
      · have hm := (if_pos c4).symm.trans hm
        refine lv_iconst (v := 0) hx hb dX8_openRoom_75 (by decide) ?_
        obtain ⟨g5, hm⟩ := gb_some hm
        refine sv_49 hx hb hK hI g5 dX8_openRoom_76 (fun H locs hI => ?_)
        refine lv_iinc (v := v5 + 1) (lv' := [(5, .int (v5 + 1)), (0, .ref (ga g 45)), (2, .int u2), (3, .int u3), (4, .int u4)]) hx hb dX8_openRoom_77 hl (k := 4) rfl (congrArg (fun z => v5 + z) (show Int32.ofInt 1 = 1 by decide)) (by decide) rfl (fun ls hl => ?_)
        refine lv_goto (tgt := 38) hx hb dX8_openRoom_80 (by decide) ?_
        exact ih (sg σ 49 (ix (u3 + v5)) 0) (v5 + 1) _ _ _ hm hI (lv_sub hl [1, 2, 3, 4, 0] rfl) hx83
      · have hm := (if_neg c4).symm.trans hm
        refine lv_aload_n hx hb dX8_openRoom_60 rfl (lv_at hl 0 rfl) ?_
        refine gf_45_10 hx hb ht hK hI mw_238 (fun _ h9 => h9) hown dX8_openRoom_61 ?_
        refine lv_aload_n hx hb dX8_openRoom_64 rfl (lv_at hl 0 rfl) ?_
        refine gf_45_12 hx hb ht hK hI (v := σ 45 12) rfl mw_236 (fun _ h9 => h9) hown dX8_openRoom_65 ?_
        refine lv_iload hx hb dX8_openRoom_68 (lv_at hl 4 rfl) ?_
        refine lv_iadd hx hb dX8_openRoom_70 ?_
        obtain ⟨g6, hm⟩ := gb_some hm
        refine ld_50 hx hb hK hI g6 (v := σ 50 (ix ((σ 45 12) + v5))) rfl dX8_openRoom_71 ?_
        refine lv_goto (tgt := 76) hx hb dX8_openRoom_72 (by decide) ?_
        obtain ⟨g7, hm⟩ := gb_some hm
        refine sv_49 hx hb hK hI g7 dX8_openRoom_76 (fun H locs hI => ?_)
        refine lv_iinc (v := v5 + 1) (lv' := [(5, .int (v5 + 1)), (0, .ref (ga g 45)), (2, .int u2), (3, .int u3), (4, .int u4)]) hx hb dX8_openRoom_77 hl (k := 4) rfl (congrArg (fun z => v5 + z) (show Int32.ofInt 1 = 1 by decide)) (by decide) rfl (fun ls hl => ?_)
        refine lv_goto (tgt := 38) hx hb dX8_openRoom_80 (by decide) ?_
        exact ih (sg σ 49 (ix (u3 + v5)) (σ 50 (ix ((σ 45 12) + v5)))) (v5 + 1) _ _ _ hm hI (lv_sub hl [1, 2, 3, 4, 0] rfl) hx83
set_option maxHeartbeats 4000000 in
set_option maxRecDepth 100000 in
theorem c_X8_openRoom {l : Launch} {g : GG} {q : Nat} (N n : Nat) {σ : Sg} {p0 : Int32} {p1 : Int32} {r : Int32} {σ' : Sg} (hm : f_X8_openRoom N n σ p0 p1 = some (r, σ')) : CTv l yX8_openRoom cX8_openRoom 6 none 0 0 g q n [.ref (ga g 45), .int p0, .int p1] σ σ' := by
  refine e_v (r := r) (by decide) (Nat.le_of_ble_eq_true rfl) ?_
  intro p e s m args below meth c A Q ls hC hl hI
  obtain ⟨hX, hK, hN, hZ, hA, hR⟩ := id hC
  have hx : p.tables.exec = Jvm.exec := hX.1
  have hb : c.code = cX8_openRoom := hX.2.1
  have hml : c.maxLocals = 6 := hX.2.2.1
  have hown : s.vm.findClass RX8 = some m.cls := hX.2.2.2.1
  have ht : ∀ w ∈ BIG, w.before args s = true := hX.2.2.2.2
  have hl : lv_has ls 6 [(0, .ref (ga g 45)), (1, .int p0), (2, .int p1)] := hl
  unfold f_X8_openRoom at hm
  refine lv_iload_n hx hb dX8_openRoom_0 rfl (lv_at hl 2 rfl) ?_
  refine lv_bipush (v := 10) hx hb dX8_openRoom_1 (by decide) ?_
  refine lv_imul hx hb dX8_openRoom_3 ?_
  refine lv_istore_n (lv' := [(3, .int (p1 * 10)), (0, .ref (ga g 45)), (1, .int p0), (2, .int p1)]) hx hb dX8_openRoom_4 rfl hl (by decide) rfl (fun ls hl => ?_)
  refine lv_iload_n hx hb dX8_openRoom_5 rfl (lv_at hl 3 rfl) ?_
  refine lv_if_ne (tgt := 13) hx hb dX8_openRoom_6 (by decide) (fun c1 => ?_) (fun c1 => ?_)
  · have hm := (if_neg c1).symm.trans hm
    refine lv_aload_n hx hb dX8_openRoom_13 rfl (lv_at hl 1 rfl) ?_
    refine gf_45_8 hx hb ht hK hI mw_234 (fun _ h9 => h9) hown dX8_openRoom_14 ?_
    refine gf_1_0 hx hb ht hK hI mw_235 (fun _ h9 => h9) hown dX8_openRoom_17 ?_
    refine lv_iload_n hx hb dX8_openRoom_20 rfl (lv_at hl 2 rfl) ?_
    obtain ⟨g2, hm⟩ := gb_some hm
    refine ld_2 hx hb hK hI g2 (v := σ 2 (ix p0)) rfl dX8_openRoom_21 ?_
    refine lv_istore (lv' := [(4, .int (σ 2 (ix p0))), (3, .int (p1 * 10)), (0, .ref (ga g 45)), (1, .int p0), (2, .int p1)]) hx hb dX8_openRoom_22 hl (by decide) rfl (fun ls hl => ?_)
    refine lv_aload_n hx hb dX8_openRoom_24 rfl (lv_at hl 2 rfl) ?_
    refine lv_dup hx hb dX8_openRoom_25 rfl ?_
    refine gf_45_12 hx hb ht hK hI (v := σ 45 12) rfl mw_236 (fun _ h9 => h9) hown dX8_openRoom_26 ?_
    refine lv_iload hx hb dX8_openRoom_29 (lv_at hl 0 rfl) ?_
    refine lv_isub hx hb dX8_openRoom_31 ?_
    refine pf_45_12 hx hb ht hK hI mw_236 (fun _ h9 => h9) hown dX8_openRoom_32 (fun H locs hI => ?_)
    refine lv_iconst (v := 0) hx hb dX8_openRoom_35 (by decide) ?_
    refine lv_istore (lv' := [(5, .int 0), (4, .int (σ 2 (ix p0))), (3, .int (p1 * 10)), (0, .ref (ga g 45)), (1, .int p0), (2, .int p1)]) hx hb dX8_openRoom_36 hl (by decide) rfl (fun ls hl => ?_)
    refine lp_X8_openRoom_38 hC N _ _ _ _ _ hm hI (lv_sub hl [3, 5, 2, 1, 0] rfl) ?_
    intro σ8 w9 H locs ls hm hI hl
    refine lv_aload_n hx hb dX8_openRoom_83 rfl (lv_at hl 0 rfl) ?_
    refine gf_45_11 hx hb ht hK hI mw_239 (fun _ h9 => h9) hown dX8_openRoom_84 ?_
    refine lv_iload_n hx hb dX8_openRoom_87 rfl (lv_at hl 1 rfl) ?_
    refine lv_aload_n hx hb dX8_openRoom_88 rfl (lv_at hl 0 rfl) ?_
    refine gf_45_12 hx hb ht hK hI (v := σ8 45 12) rfl mw_236 (fun _ h9 => h9) hown dX8_openRoom_89 ?_
    obtain ⟨g10, hm⟩ := gb_some hm
    refine sv_51 hx hb hK hI g10 dX8_openRoom_92 (fun H locs hI => ?_)
    exact hR _ _ _ _ _ hm hI dX8_openRoom_93
  · have hm := (if_pos c1).symm.trans hm
    refine lv_iconst (v := 0) hx hb dX8_openRoom_9 (by decide) ?_
    refine lv_goto (tgt := 22) hx hb dX8_openRoom_10 (by decide) ?_
    refine lv_istore (lv' := [(4, .int 0), (3, .int (p1 * 10)), (0, .ref (ga g 45)), (1, .int p0), (2, .int p1)]) hx hb dX8_openRoom_22 hl (by decide) rfl (fun ls hl => ?_)
    refine lv_aload_n hx hb dX8_openRoom_24 rfl (lv_at hl 2 rfl) ?_
    refine lv_dup hx hb dX8_openRoom_25 rfl ?_
    refine gf_45_12 hx hb ht hK hI (v := σ 45 12) rfl mw_236 (fun _ h9 => h9) hown dX8_openRoom_26 ?_
    refine lv_iload hx hb dX8_openRoom_29 (lv_at hl 0 rfl) ?_
    refine lv_isub hx hb dX8_openRoom_31 ?_
    refine pf_45_12 hx hb ht hK hI mw_236 (fun _ h9 => h9) hown dX8_openRoom_32 (fun H locs hI => ?_)
    refine lv_iconst (v := 0) hx hb dX8_openRoom_35 (by decide) ?_
    refine lv_istore (lv' := [(5, .int 0), (4, .int 0), (3, .int (p1 * 10)), (0, .ref (ga g 45)), (1, .int p0), (2, .int p1)]) hx hb dX8_openRoom_36 hl (by decide) rfl (fun ls hl => ?_)
    refine lp_X8_openRoom_38 hC N _ _ _ _ _ hm hI (lv_sub hl [3, 5, 2, 1, 0] rfl) ?_
    intro σ11 w12 H locs ls hm hI hl
    refine lv_aload_n hx hb dX8_openRoom_83 rfl (lv_at hl 0 rfl) ?_
    refine gf_45_11 hx hb ht hK hI mw_239 (fun _ h9 => h9) hown dX8_openRoom_84 ?_
    refine lv_iload_n hx hb dX8_openRoom_87 rfl (lv_at hl 1 rfl) ?_
    refine lv_aload_n hx hb dX8_openRoom_88 rfl (lv_at hl 0 rfl) ?_
    refine gf_45_12 hx hb ht hK hI (v := σ11 45 12) rfl mw_236 (fun _ h9 => h9) hown dX8_openRoom_89 ?_
    obtain ⟨g13, hm⟩ := gb_some hm
    refine sv_51 hx hb hK hI g13 dX8_openRoom_92 (fun H locs hI => ?_)
    exact hR _ _ _ _ _ hm hI dX8_openRoom_93
def f_X4_finish_X8 (N n : Nat) (σ : Sg) (p0 : Int32) : Option (Int32 × Sg) := some (0, sg (sg σ 45 3 p0) 45 7 0)
set_option maxHeartbeats 4000000 in
set_option maxRecDepth 100000 in
theorem c_X4_finish_X8 {l : Launch} {g : GG} {q : Nat} (N n : Nat) {σ : Sg} {p0 : Int32} {r : Int32} {σ' : Sg} (hm : f_X4_finish_X8 N n σ p0 = some (r, σ')) : CTv l yX4_finish cX4_finish 2 none 0 0 g q n [.ref (ga g 45), .int p0] σ σ' := by
  refine e_v (r := r) (by decide) (Nat.le_of_ble_eq_true rfl) ?_
  intro p e s m args below meth c A Q ls hC hl hI
  obtain ⟨hX, hK, hN, hZ, hA, hR⟩ := id hC
  have hx : p.tables.exec = Jvm.exec := hX.1
  have hb : c.code = cX4_finish := hX.2.1
  have hml : c.maxLocals = 2 := hX.2.2.1
  have hown : s.vm.findClass RX4 = some m.cls := hX.2.2.2.1
  have ht : ∀ w ∈ BIG, w.before args s = true := hX.2.2.2.2
  have hl : lv_has ls 2 [(0, .ref (ga g 45)), (1, .int p0)] := hl
  unfold f_X4_finish_X8 at hm
  refine lv_aload_n hx hb dX4_finish_0 rfl (lv_at hl 0 rfl) ?_
  refine lv_iload_n hx hb dX4_finish_1 rfl (lv_at hl 1 rfl) ?_
  refine pf_45_3 hx hb ht hK hI mw_224 (fun _ h9 => h9) hown dX4_finish_2 (fun H locs hI => ?_)
  refine lv_aload_n hx hb dX4_finish_5 rfl (lv_at hl 0 rfl) ?_
  refine lv_iconst (v := 0) hx hb dX4_finish_6 (by decide) ?_
  refine pf_45_7 hx hb ht hK hI mw_228 (fun _ h9 => h9) hown dX4_finish_7 (fun H locs hI => ?_)
  exact hR _ _ _ _ _ hm hI dX4_finish_10
def f_X4_enter_X8 (N n : Nat) (σ : Sg) (p0 : Int32) : Option (Int32 × Sg) := if (σ 45 7) < 30 then (bd (f_X8_openRoom N n σ p0 (σ 45 7)) (fun r2 σ3 => gb (σ3 45 7) 30 (gb (σ3 45 7) 30 (some (0, sg (sg (sg (sg σ3 47 (ix (σ3 45 7)) p0) 48 (ix (σ3 45 7)) 0) 45 7 ((σ3 45 7) + 1)) 45 6 ((σ3 45 6) + 1)))))) else (bd (f_X4_finish_X8 N n σ 4) (fun r7 σ8 => some (0, σ8)))
set_option maxHeartbeats 4000000 in
set_option maxRecDepth 100000 in
theorem c_X4_enter_X8 {l : Launch} {g : GG} {q : Nat} (N n : Nat) {σ : Sg} {p0 : Int32} {r : Int32} {σ' : Sg} (hm : f_X4_enter_X8 N n σ p0 = some (r, σ')) : CTv l yX4_enter cX4_enter 2 none 1 25 g q n [.ref (ga g 45), .int p0] σ σ' := by
  refine e_v (r := r) (by decide) (Nat.le_of_ble_eq_true rfl) ?_
  intro p e s m args below meth c A Q ls hC hl hI
  obtain ⟨hX, hK, hN, hZ, hA, hR⟩ := id hC
  have hx : p.tables.exec = Jvm.exec := hX.1
  have hb : c.code = cX4_enter := hX.2.1
  have hml : c.maxLocals = 2 := hX.2.2.1
  have hown : s.vm.findClass RX4 = some m.cls := hX.2.2.2.1
  have ht : ∀ w ∈ BIG, w.before args s = true := hX.2.2.2.2
  have hl : lv_has ls 2 [(0, .ref (ga g 45)), (1, .int p0)] := hl
  unfold f_X4_enter_X8 at hm
  refine lv_aload_n hx hb dX4_enter_0 rfl (lv_at hl 0 rfl) ?_
  refine gf_45_7 hx hb ht hK hI (v := σ 45 7) rfl mw_228 (fun _ h9 => h9) hown dX4_enter_1 ?_
  refine lv_bipush (v := 30) hx hb dX4_enter_4 (by decide) ?_
  refine lv_icmp_lt (tgt := 15) hx hb dX4_enter_6 (by decide) (fun c1 => ?_) (fun c1 => ?_)
  · have hm := (if_pos c1).symm.trans hm
    refine lv_aload_n hx hb dX4_enter_15 rfl (lv_at hl 0 rfl) ?_
    refine lv_iload_n hx hb dX4_enter_16 rfl (lv_at hl 1 rfl) ?_
    refine lv_aload_n hx hb dX4_enter_17 rfl (lv_at hl 0 rfl) ?_
    refine gf_45_7 hx hb ht hK hI (v := σ 45 7) rfl mw_228 (fun _ h9 => h9) hown dX4_enter_18 ?_
    obtain ⟨r2, σ3, h4, hm⟩ := bd_some hm
    refine k_v hI hA (va_runU (As := [.int p0, .int (σ 45 7)]) (rest := []) hX (c_X8_openRoom N n h4 _) (va_cwA 2 ht (in_U mw_246 mw_247 mw_251 mw_252 mw_253 mw_233) rfl rfl rfl hZ.2.2.2.2.2.2.2.2.2.2.2.1 (by decide +kernel) ⟨Nat.le_of_ble_eq_true rfl, Nat.le_of_ble_eq_true rfl⟩) ⟨q_blind, va_recv hK hI.1 (ci := 7) (q0 := 45) rfl rfl, q_to hI hK hN hZ hA⟩ rfl rfl hl.1 rfl (lv_room (Nat.le_of_ble_eq_true rfl)) dX4_enter_21 (by decide)) (fun H locs hI => ?_)
    refine lv_aload_n hx hb dX4_enter_24 rfl (lv_at hl 0 rfl) ?_
    refine gf_45_1 hx hb ht hK hI mw_195 (fun _ h9 => h9) hown dX4_enter_25 ?_
    refine lv_aload_n hx hb dX4_enter_28 rfl (lv_at hl 0 rfl) ?_
    refine gf_45_7 hx hb ht hK hI (v := σ3 45 7) rfl mw_228 (fun _ h9 => h9) hown dX4_enter_29 ?_
    refine lv_iload_n hx hb dX4_enter_32 rfl (lv_at hl 1 rfl) ?_
    obtain ⟨g5, hm⟩ := gb_some hm
    refine sv_47 hx hb hK hI g5 dX4_enter_33 (fun H locs hI => ?_)
    refine lv_aload_n hx hb dX4_enter_34 rfl (lv_at hl 0 rfl) ?_
    refine gf_45_2 hx hb ht hK hI mw_196 (fun _ h9 => h9) hown dX4_enter_35 ?_
    refine lv_aload_n hx hb dX4_enter_38 rfl (lv_at hl 0 rfl) ?_
    refine gf_45_7 hx hb ht hK hI (v := σ3 45 7) rfl mw_228 (fun _ h9 => h9) hown dX4_enter_39 ?_
    refine lv_iconst (v := 0) hx hb dX4_enter_42 (by decide) ?_
    obtain ⟨g6, hm⟩ := gb_some hm
    refine sv_48 hx hb hK hI g6 dX4_enter_43 (fun H locs hI => ?_)
    refine lv_aload_n hx hb dX4_enter_44 rfl (lv_at hl 0 rfl) ?_
    refine lv_dup hx hb dX4_enter_45 rfl ?_
    refine gf_45_7 hx hb ht hK hI (v := σ3 45 7) rfl mw_228 (fun _ h9 => h9) hown dX4_enter_46 ?_
    refine lv_iconst (v := 1) hx hb dX4_enter_49 (by decide) ?_
    refine lv_iadd hx hb dX4_enter_50 ?_
    refine pf_45_7 hx hb ht hK hI mw_228 (fun _ h9 => h9) hown dX4_enter_51 (fun H locs hI => ?_)
    refine lv_aload_n hx hb dX4_enter_54 rfl (lv_at hl 0 rfl) ?_
    refine lv_dup hx hb dX4_enter_55 rfl ?_
    refine gf_45_6 hx hb ht hK hI (v := σ3 45 6) rfl mw_227 (fun _ h9 => h9) hown dX4_enter_56 ?_
    refine lv_iconst (v := 1) hx hb dX4_enter_59 (by decide) ?_
    refine lv_iadd hx hb dX4_enter_60 ?_
    refine pf_45_6 hx hb ht hK hI mw_227 (fun _ h9 => h9) hown dX4_enter_61 (fun H locs hI => ?_)
    exact hR _ _ _ _ _ hm hI dX4_enter_64
  · have hm := (if_neg c1).symm.trans hm
    refine lv_aload_n hx hb dX4_enter_9 rfl (lv_at hl 0 rfl) ?_
    refine lv_iconst (v := 4) hx hb dX4_enter_10 (by decide) ?_
    obtain ⟨r7, σ8, h9, hm⟩ := bd_some hm
    refine k_v hI hA (va_runU (As := [.int 4]) (rest := []) hX (c_X4_finish_X8 N n h9 _) (va_cwU 1 ht (in_U mw_240 mw_241 mw_245 mw_243 mw_244 mw_229) rfl rfl rfl rfl (by decide +kernel) ⟨Nat.le_of_ble_eq_true rfl, Nat.le_of_ble_eq_true rfl⟩) ⟨q_blind, va_recv hK hI.1 (ci := 7) (q0 := 45) rfl rfl, q_to hI hK hN hZ hA⟩ rfl rfl hl.1 rfl (lv_room (Nat.le_of_ble_eq_true rfl)) dX4_enter_11 (by decide)) (fun H locs hI => ?_)
    exact hR _ _ _ _ _ hm hI dX4_enter_14
def f_X8_takeAnswer (N n : Nat) (σ : Sg) (p0 : Int32) : Option (Int32 × Sg) := bd (f_X4_room_X8 N n σ ) (fun r1 σ2 => gb (r1 + 1) 30 (bd (f_X8_push N n (sg σ2 45 12 (σ2 51 (ix (r1 + 1)))) p0) (fun r5 σ6 => some (0, σ6))))
set_option maxHeartbeats 4000000 in
set_option maxRecDepth 100000 in
theorem c_X8_takeAnswer {l : Launch} {g : GG} {q : Nat} (N n : Nat) {σ : Sg} {p0 : Int32} {r : Int32} {σ' : Sg} (hm : f_X8_takeAnswer N n σ p0 = some (r, σ')) : CTv l yX8_takeAnswer cX8_takeAnswer 2 none 1 21 g q n [.ref (ga g 45), .int p0] σ σ' := by
  refine e_v (r := r) (by decide) (Nat.le_of_ble_eq_true rfl) ?_
  intro p e s m args below meth c A Q ls hC hl hI
  obtain ⟨hX, hK, hN, hZ, hA, hR⟩ := id hC
  have hx : p.tables.exec = Jvm.exec := hX.1
  have hb : c.code = cX8_takeAnswer := hX.2.1
  have hml : c.maxLocals = 2 := hX.2.2.1
  have hown : s.vm.findClass RX8 = some m.cls := hX.2.2.2.1
  have ht : ∀ w ∈ BIG, w.before args s = true := hX.2.2.2.2
  have hl : lv_has ls 2 [(0, .ref (ga g 45)), (1, .int p0)] := hl
  unfold f_X8_takeAnswer at hm
  refine lv_aload_n hx hb dX8_takeAnswer_0 rfl (lv_at hl 0 rfl) ?_
  refine lv_aload_n hx hb dX8_takeAnswer_1 rfl (lv_at hl 0 rfl) ?_
  refine gf_45_11 hx hb ht hK hI mw_239 (fun _ h9 => h9) hown dX8_takeAnswer_2 ?_
  refine lv_aload_n hx hb dX8_takeAnswer_5 rfl (lv_at hl 0 rfl) ?_
  obtain ⟨r1, σ2, h3, hm⟩ := bd_some hm
  refine k_i hI hA (va_runU (As := []) (rest := [.ref (ga g 51), .ref (ga g 45)]) hX (c_X4_room_X8 N n h3 _) (va_cwU 0 ht (in_U mw_280 mw_281 mw_282 mw_274 mw_244 mw_255) rfl rfl rfl rfl (by decide +kernel) ⟨Nat.le_of_ble_eq_true rfl, Nat.le_of_ble_eq_true rfl⟩) ⟨q_blind, va_recv hK hI.1 (ci := 7) (q0 := 45) rfl rfl, q_to hI hK hN hZ hA⟩ rfl rfl hl.1 rfl (lv_room (Nat.le_of_ble_eq_true rfl)) dX8_takeAnswer_6 (by decide)) (fun H locs hI => ?_)
  refine lv_iconst (v := 1) hx hb dX8_takeAnswer_9 (by decide) ?_
  refine lv_iadd hx hb dX8_takeAnswer_10 ?_
  obtain ⟨g4, hm⟩ := gb_some hm
  refine ld_51 hx hb hK hI g4 (v := σ2 51 (ix (r1 + 1))) rfl dX8_takeAnswer_11 ?_
  refine pf_45_12 hx hb ht hK hI mw_236 (fun _ h9 => h9) hown dX8_takeAnswer_12 (fun H locs hI => ?_)
  refine lv_aload_n hx hb dX8_takeAnswer_15 rfl (lv_at hl 0 rfl) ?_
  refine lv_iload_n hx hb dX8_takeAnswer_16 rfl (lv_at hl 1 rfl) ?_
  obtain ⟨r5, σ6, h7, hm⟩ := bd_some hm
  refine k_v hI hA (va_runV (As := [.int p0]) (rest := []) hX (c_X8_push N n h7 _) (cwV 1 ht (in_V mw_283 mw_284 mw_285 mw_253 mw_278) rfl rfl rfl pd_X8_push ⟨Nat.le_of_ble_eq_true rfl, Nat.le_of_ble_eq_true rfl⟩) ⟨q_blind, va_recv hK hI.1 (ci := 7) (q0 := 45) rfl rfl, q_to hI hK hN hZ hA⟩ rfl rfl hl.1 rfl (lv_room (Nat.le_of_ble_eq_true rfl)) dX8_takeAnswer_17 (by decide)) (fun H locs hI => ?_)
  exact hR _ _ _ _ _ hm hI dX8_takeAnswer_20
def f_X4_leave_X8 (N n : Nat) (σ : Sg) (p0 : Int32) : Option (Int32 × Sg) := if 1 < (σ 45 7) then (bd (f_X8_takeAnswer N n (sg σ 45 7 ((σ 45 7) - 1)) p0) (fun r2 σ3 => some (0, σ3))) else (bd (f_X4_finish_X8 N n (sg σ 45 4 p0) 1) (fun r5 σ6 => some (0, σ6)))
set_option maxHeartbeats 4000000 in
set_option maxRecDepth 100000 in
theorem c_X4_leave_X8 {l : Launch} {g : GG} {q : Nat} (N n : Nat) {σ : Sg} {p0 : Int32} {r : Int32} {σ' : Sg} (hm : f_X4_leave_X8 N n σ p0 = some (r, σ')) : CTv l yX4_leave cX4_leave 2 none 2 42 g q n [.ref (ga g 45), .int p0] σ σ' := by
  refine e_v (r := r) (by decide) (Nat.le_of_ble_eq_true rfl) ?_
  intro p e s m args below meth c A Q ls hC hl hI
  obtain ⟨hX, hK, hN, hZ, hA, hR⟩ := id hC
  have hx : p.tables.exec = Jvm.exec := hX.1
  have hb : c.code = cX4_leave := hX.2.1
  have hml : c.maxLocals = 2 := hX.2.2.1
  have hown : s.vm.findClass RX4 = some m.cls := hX.2.2.2.1
  have ht : ∀ w ∈ BIG, w.before args s = true := hX.2.2.2.2
  have hl : lv_has ls 2 [(0, .ref (ga g 45)), (1, .int p0)] := hl
  unfold f_X4_leave_X8 at hm
  refine lv_aload_n hx hb dX4_leave_0 rfl (lv_at hl 0 rfl) ?_
  refine gf_45_7 hx hb ht hK hI (v := σ 45 7) rfl mw_228 (fun _ h9 => h9) hown dX4_leave_1 ?_
  refine lv_iconst (v := 1) hx hb dX4_leave_4 (by decide) ?_
  refine lv_icmp_gt (tgt := 19) hx hb dX4_leave_5 (by decide) (fun c1 => ?_) (fun c1 => ?_)
  · have hm := (if_pos c1).symm.trans hm
    refine lv_aload_n hx hb dX4_leave_19 rfl (lv_at hl 0 rfl) ?_
    refine lv_dup hx hb dX4_leave_20 rfl ?_
    refine gf_45_7 hx hb ht hK hI (v := σ 45 7) rfl mw_228 (fun _ h9 => h9) hown dX4_leave_21 ?_
    refine lv_iconst (v := 1) hx hb dX4_leave_24 (by decide) ?_
    refine lv_isub hx hb dX4_leave_25 ?_
    refine pf_45_7 hx hb ht hK hI mw_228 (fun _ h9 => h9) hown dX4_leave_26 (fun H locs hI => ?_)
    refine lv_aload_n hx hb dX4_leave_29 rfl (lv_at hl 0 rfl) ?_
    refine lv_iload_n hx hb dX4_leave_30 rfl (lv_at hl 1 rfl) ?_
    obtain ⟨r2, σ3, h4, hm⟩ := bd_some hm
    refine k_v hI hA (va_runU (As := [.int p0]) (rest := []) hX (c_X8_takeAnswer N n h4 _) (va_cwA 1 ht (in_U mw_286 mw_287 mw_290 mw_291 mw_253 mw_279) rfl rfl rfl hZ.2.2.2.2.2.2.2.2.2.2.2.2 (by decide +kernel) ⟨Nat.le_of_ble_eq_true rfl, Nat.le_of_ble_eq_true rfl⟩) ⟨q_blind, va_recv hK hI.1 (ci := 7) (q0 := 45) rfl rfl, q_to hI hK hN hZ hA⟩ rfl rfl hl.1 rfl (lv_room (Nat.le_of_ble_eq_true rfl)) dX4_leave_31 (by decide)) (fun H locs hI => ?_)
    exact hR _ _ _ _ _ hm hI dX4_leave_34
  · have hm := (if_neg c1).symm.trans hm
    refine lv_aload_n hx hb dX4_leave_8 rfl (lv_at hl 0 rfl) ?_
    refine lv_iload_n hx hb dX4_leave_9 rfl (lv_at hl 1 rfl) ?_
    refine pf_45_4 hx hb ht hK hI mw_225 (fun _ h9 => h9) hown dX4_leave_10 (fun H locs hI => ?_)
    refine lv_aload_n hx hb dX4_leave_13 rfl (lv_at hl 0 rfl) ?_
    refine lv_iconst (v := 1) hx hb dX4_leave_14 (by decide) ?_
    obtain ⟨r5, σ6, h7, hm⟩ := bd_some hm
    refine k_v hI hA (va_runU (As := [.int 1]) (rest := []) hX (c_X4_finish_X8 N n h7 _) (va_cwU 1 ht (in_U mw_240 mw_241 mw_245 mw_243 mw_244 mw_229) rfl rfl rfl rfl (by decide +kernel) ⟨Nat.le_of_ble_eq_true rfl, Nat.le_of_ble_eq_true rfl⟩) ⟨q_blind, va_recv hK hI.1 (ci := 7) (q0 := 45) rfl rfl, q_to hI hK hN hZ hA⟩ rfl rfl hl.1 rfl (lv_room (Nat.le_of_ble_eq_true rfl)) dX4_leave_15 (by decide)) (fun H locs hI => ?_)
    exact hR _ _ _ _ _ hm hI dX4_leave_18
def f_X4_hasCell_X8 (N n : Nat) (σ : Sg) (p0 : Int32) : Option (Int32 × Sg) := if p0 < 0 then (bd (f_X4_finish_X8 N n σ 3) (fun r2 σ3 => some (0, σ3))) else (if 64 ≤ p0 then (bd (f_X4_finish_X8 N n σ 3) (fun r6 σ7 => some (0, σ7))) else (some (1, σ)))
set_option maxHeartbeats 4000000 in
set_option maxRecDepth 100000 in
theorem c_X4_hasCell_X8 {l : Launch} {g : GG} {q : Nat} (N n : Nat) {σ : Sg} {p0 : Int32} {r : Int32} {σ' : Sg} (hm : f_X4_hasCell_X8 N n σ p0 = some (r, σ')) : CTi l yX4_hasCell cX4_hasCell 2 (some .boolean) 1 21 g q n [.ref (ga g 45), .int p0] σ r σ' := by
  refine e_z (r := r) (by decide) (Nat.le_of_ble_eq_true rfl) ?_
  intro p e s m args below meth c A Q ls hC hl hI
  obtain ⟨hX, hK, hN, hZ, hA, hR⟩ := id hC
  have hx : p.tables.exec = Jvm.exec := hX.1
  have hb : c.code = cX4_hasCell := hX.2.1
  have hml : c.maxLocals = 2 := hX.2.2.1
  have hown : s.vm.findClass RX4 = some m.cls := hX.2.2.2.1
  have ht : ∀ w ∈ BIG, w.before args s = true := hX.2.2.2.2
  have hl : lv_has ls 2 [(0, .ref (ga g 45)), (1, .int p0)] := hl
  unfold f_X4_hasCell_X8 at hm
  refine lv_iload_n hx hb dX4_hasCell_0 rfl (lv_at hl 1 rfl) ?_
  refine lv_if_lt (tgt := 12) hx hb dX4_hasCell_1 (by decide) (fun c1 => ?_) (fun c1 => ?_)
  · have hm := (if_pos c1).symm.trans hm
    refine lv_aload_n hx hb dX4_hasCell_12 rfl (lv_at hl 0 rfl) ?_
    refine lv_iconst (v := 3) hx hb dX4_hasCell_13 (by decide) ?_
    obtain ⟨r2, σ3, h4, hm⟩ := bd_some hm
    refine k_v hI hA (va_runU (As := [.int 3]) (rest := []) hX (c_X4_finish_X8 N n h4 _) (va_cwU 1 ht (in_U mw_240 mw_241 mw_245 mw_243 mw_244 mw_229) rfl rfl rfl rfl (by decide +kernel) ⟨Nat.le_of_ble_eq_true rfl, Nat.le_of_ble_eq_true rfl⟩) ⟨q_blind, va_recv hK hI.1 (ci := 7) (q0 := 45) rfl rfl, q_to hI hK hN hZ hA⟩ rfl rfl hl.1 rfl (lv_room (Nat.le_of_ble_eq_true rfl)) dX4_hasCell_14 (by decide)) (fun H locs hI => ?_)
    refine lv_iconst (v := 0) hx hb dX4_hasCell_17 (by decide) ?_
    exact hR _ _ _ _ _ _ hm hI (by decide) dX4_hasCell_18
  · have hm := (if_neg c1).symm.trans hm
    refine lv_iload_n hx hb dX4_hasCell_4 rfl (lv_at hl 1 rfl) ?_
    refine lv_bipush (v := 64) hx hb dX4_hasCell_5 (by decide) ?_
    refine lv_icmp_ge (tgt := 12) hx hb dX4_hasCell_7 (by decide) (fun c5 => ?_) (fun c5 => ?_)
    · have hm := (if_pos c5).symm.trans hm
      refine lv_aload_n hx hb dX4_hasCell_12 rfl (lv_at hl 0 rfl) ?_
      refine lv_iconst (v := 3) hx hb dX4_hasCell_13 (by decide) ?_
      obtain ⟨r6, σ7, h8, hm⟩ := bd_some hm
      refine k_v hI hA (va_runU (As := [.int 3]) (rest := []) hX (c_X4_finish_X8 N n h8 _) (va_cwU 1 ht (in_U mw_240 mw_241 mw_245 mw_243 mw_244 mw_229) rfl rfl rfl rfl (by decide +kernel) ⟨Nat.le_of_ble_eq_true rfl, Nat.le_of_ble_eq_true rfl⟩) ⟨q_blind, va_recv hK hI.1 (ci := 7) (q0 := 45) rfl rfl, q_to hI hK hN hZ hA⟩ rfl rfl hl.1 rfl (lv_room (Nat.le_of_ble_eq_true rfl)) dX4_hasCell_14 (by decide)) (fun H locs hI => ?_)
      refine lv_iconst (v := 0) hx hb dX4_hasCell_17 (by decide) ?_
      exact hR _ _ _ _ _ _ hm hI (by decide) dX4_hasCell_18
    · have hm := (if_neg c5).symm.trans hm
      refine lv_iconst (v := 1) hx hb dX4_hasCell_10 (by decide) ?_
      exact hR _ _ _ _ _ _ hm hI (by decide) dX4_hasCell_11
def f_X8_fetch (N n : Nat) (σ : Sg) (p0 : Int32) : Option (Int32 × Sg) := bd (f_X4_hasCell_X8 N n σ p0) (fun r1 σ2 => if r1 = 0 then (some (0, σ2)) else (gb p0 64 (bd (f_X8_push N n σ2 (σ2 46 (ix p0))) (fun r6 σ7 => some (0, σ7)))))
set_option maxHeartbeats 4000000 in
set_option maxRecDepth 100000 in
theorem c_X8_fetch {l : Launch} {g : GG} {q : Nat} (N n : Nat) {σ : Sg} {p0 : Int32} {r : Int32} {σ' : Sg} (hm : f_X8_fetch N n σ p0 = some (r, σ')) : CTv l yX8_fetch cX8_fetch 2 none 2 42 g q n [.ref (ga g 45), .int p0] σ σ' := by
  refine e_v (r := r) (by decide) (Nat.le_of_ble_eq_true rfl) ?_
  intro p e s m args below meth c A Q ls hC hl hI
  obtain ⟨hX, hK, hN, hZ, hA, hR⟩ := id hC
  have hx : p.tables.exec = Jvm.exec := hX.1
  have hb : c.code = cX8_fetch := hX.2.1
  have hml : c.maxLocals = 2 := hX.2.2.1
  have hown : s.vm.findClass RX8 = some m.cls := hX.2.2.2.1
  have ht : ∀ w ∈ BIG, w.before args s = true := hX.2.2.2.2
  have hl : lv_has ls 2 [(0, .ref (ga g 45)), (1, .int p0)] := hl
  unfold f_X8_fetch at hm
  refine lv_aload_n hx hb dX8_fetch_0 rfl (lv_at hl 0 rfl) ?_
  refine lv_iload_n hx hb dX8_fetch_1 rfl (lv_at hl 1 rfl) ?_
  obtain ⟨r1, σ2, h3, hm⟩ := bd_some hm
  refine k_i hI hA (va_runU (As := [.int p0]) (rest := []) hX (c_X4_hasCell_X8 N n h3 _) (va_cwU 1 ht (in_U mw_339 mw_340 mw_341 mw_300 mw_244 mw_293) rfl rfl rfl rfl (by decide +kernel) ⟨Nat.le_of_ble_eq_true rfl, Nat.le_of_ble_eq_true rfl⟩) ⟨q_blind, va_recv hK hI.1 (ci := 7) (q0 := 45) rfl rfl, q_to hI hK hN hZ hA⟩ rfl rfl hl.1 rfl (lv_room (Nat.le_of_ble_eq_true rfl)) dX8_fetch_2 (by decide)) (fun H locs hI => ?_)
  refine lv_if_eq (tgt := 18) hx hb dX8_fetch_5 (by decide) (fun c4 => ?_) (fun c4 => ?_)
  · have hm := (if_pos c4).symm.trans hm
    exact hR _ _ _ _ _ hm hI dX8_fetch_18
  · have hm := (if_neg c4).symm.trans hm
    refine lv_aload_n hx hb dX8_fetch_8 rfl (lv_at hl 0 rfl) ?_
    refine lv_aload_n hx hb dX8_fetch_9 rfl (lv_at hl 0 rfl) ?_
    refine gf_45_0 hx hb ht hK hI mw_337 (u_same (ht _ mw_338)) hown dX8_fetch_10 ?_
    refine lv_iload_n hx hb dX8_fetch_13 rfl (lv_at hl 1 rfl) ?_
    obtain ⟨g5, hm⟩ := gb_some hm
    refine ld_46 hx hb hK hI g5 (v := σ2 46 (ix p0)) rfl dX8_fetch_14 ?_
    obtain ⟨r6, σ7, h8, hm⟩ := bd_some hm
    refine k_v hI hA (va_runV (As := [.int (σ2 46 (ix p0))]) (rest := []) hX (c_X8_push N n h8 _) (cwV 1 ht (in_V mw_283 mw_284 mw_285 mw_253 mw_278) rfl rfl rfl pd_X8_push ⟨Nat.le_of_ble_eq_true rfl, Nat.le_of_ble_eq_true rfl⟩) ⟨q_blind, va_recv hK hI.1 (ci := 7) (q0 := 45) rfl rfl, q_to hI hK hN hZ hA⟩ rfl rfl hl.1 rfl (lv_room (Nat.le_of_ble_eq_true rfl)) dX8_fetch_15 (by decide)) (fun H locs hI => ?_)
    exact hR _ _ _ _ _ hm hI dX8_fetch_18
def f_X8_store (N n : Nat) (σ : Sg) (p0 : Int32) (p1 : Int32) : Option (Int32 × Sg) := bd (f_X4_hasCell_X8 N n σ p0) (fun r1 σ2 => if r1 = 0 then (some (0, σ2)) else (gb p0 64 (some (0, sg σ2 46 (ix p0) p1))))
set_option maxHeartbeats 4000000 in
set_option maxRecDepth 100000 in
theorem c_X8_store {l : Launch} {g : GG} {q : Nat} (N n : Nat) {σ : Sg} {p0 : Int32} {p1 : Int32} {r : Int32} {σ' : Sg} (hm : f_X8_store N n σ p0 p1 = some (r, σ')) : CTv l yX8_store cX8_store 3 none 2 42 g q n [.ref (ga g 45), .int p0, .int p1] σ σ' := by
  refine e_v (r := r) (by decide) (Nat.le_of_ble_eq_true rfl) ?_
  intro p e s m args below meth c A Q ls hC hl hI
  obtain ⟨hX, hK, hN, hZ, hA, hR⟩ := id hC
  have hx : p.tables.exec = Jvm.exec := hX.1
  have hb : c.code = cX8_store := hX.2.1
  have hml : c.maxLocals = 3 := hX.2.2.1
  have hown : s.vm.findClass RX8 = some m.cls := hX.2.2.2.1
  have ht : ∀ w ∈ BIG, w.before args s = true := hX.2.2.2.2
  have hl : lv_has ls 3 [(0, .ref (ga g 45)), (1, .int p0), (2, .int p1)] := hl
  unfold f_X8_store at hm
  refine lv_aload_n hx hb dX8_store_0 rfl (lv_at hl 0 rfl) ?_
  refine lv_iload_n hx hb dX8_store_1 rfl (lv_at hl 1 rfl) ?_
  obtain ⟨r1, σ2, h3, hm⟩ := bd_some hm
  refine k_i hI hA (va_runU (As := [.int p0]) (rest := []) hX (c_X4_hasCell_X8 N n h3 _) (va_cwU 1 ht (in_U mw_339 mw_340 mw_341 mw_300 mw_244 mw_293) rfl rfl rfl rfl (by decide +kernel) ⟨Nat.le_of_ble_eq_true rfl, Nat.le_of_ble_eq_true rfl⟩) ⟨q_blind, va_recv hK hI.1 (ci := 7) (q0 := 45) rfl rfl, q_to hI hK hN hZ hA⟩ rfl rfl hl.1 rfl (lv_room (Nat.le_of_ble_eq_true rfl)) dX8_store_2 (by decide)) (fun H locs hI => ?_)
  refine lv_if_eq (tgt := 15) hx hb dX8_store_5 (by decide) (fun c4 => ?_) (fun c4 => ?_)
  · have hm := (if_pos c4).symm.trans hm
    exact hR _ _ _ _ _ hm hI dX8_store_15
  · have hm := (if_neg c4).symm.trans hm
    refine lv_aload_n hx hb dX8_store_8 rfl (lv_at hl 0 rfl) ?_
    refine gf_45_0 hx hb ht hK hI mw_337 (u_same (ht _ mw_338)) hown dX8_store_9 ?_
    refine lv_iload_n hx hb dX8_store_12 rfl (lv_at hl 1 rfl) ?_
    refine lv_iload_n hx hb dX8_store_13 rfl (lv_at hl 2 rfl) ?_
    obtain ⟨g5, hm⟩ := gb_some hm
    refine sv_46 hx hb hK hI g5 dX8_store_14 (fun H locs hI => ?_)
    exact hR _ _ _ _ _ hm hI dX8_store_15
def f_X4_canReckon_X8 (N n : Nat) (σ : Sg) (p0 : Int32) (p1 : Int32) : Option (Int32 × Sg) := if p0 = 6 then (if p1 = 0 then (bd (f_X4_finish_X8 N n σ 2) (fun r3 σ4 => some (0, σ4))) else (some (1, σ))) else (some (1, σ))
set_option maxHeartbeats 4000000 in
set_option maxRecDepth 100000 in
theorem c_X4_canReckon_X8 {l : Launch} {g : GG} {q : Nat} (N n : Nat) {σ : Sg} {p0 : Int32} {p1 : Int32} {r : Int32} {σ' : Sg} (hm : f_X4_canReckon_X8 N n σ p0 p1 = some (r, σ')) : CTi l yX4_canReckon cX4_canReckon 3 (some .boolean) 1 21 g q n [.ref (ga g 45), .int p0, .int p1] σ r σ' := by
  refine e_z (r := r) (by decide) (Nat.le_of_ble_eq_true rfl) ?_
  intro p e s m args below meth c A Q ls hC hl hI
  obtain ⟨hX, hK, hN, hZ, hA, hR⟩ := id hC
  have hx : p.tables.exec = Jvm.exec := hX.1
  have hb : c.code = cX4_canReckon := hX.2.1
  have hml : c.maxLocals = 3 := hX.2.2.1
  have hown : s.vm.findClass RX4 = some m.cls := hX.2.2.2.1
  have ht : ∀ w ∈ BIG, w.before args s = true := hX.2.2.2.2
  have hl : lv_has ls 3 [(0, .ref (ga g 45)), (1, .int p0), (2, .int p1)] := hl
  unfold f_X4_canReckon_X8 at hm
  refine lv_iload_n hx hb dX4_canReckon_0 rfl (lv_at hl 1 rfl) ?_
  refine lv_bipush (v := 6) hx hb dX4_canReckon_1 (by decide) ?_
  refine lv_icmp_ne (tgt := 10) hx hb dX4_canReckon_3 (by decide) (fun c1 => ?_) (fun c1 => ?_)
  · have hm := (if_neg c1).symm.trans hm
    refine lv_iconst (v := 1) hx hb dX4_canReckon_10 (by decide) ?_
    exact hR _ _ _ _ _ _ hm hI (by decide) dX4_canReckon_11
  · have hm := (if_pos c1).symm.trans hm
    refine lv_iload_n hx hb dX4_canReckon_6 rfl (lv_at hl 2 rfl) ?_
    refine lv_if_eq (tgt := 12) hx hb dX4_canReckon_7 (by decide) (fun c2 => ?_) (fun c2 => ?_)
    · have hm := (if_pos c2).symm.trans hm
      refine lv_aload_n hx hb dX4_canReckon_12 rfl (lv_at hl 0 rfl) ?_
      refine lv_iconst (v := 2) hx hb dX4_canReckon_13 (by decide) ?_
      obtain ⟨r3, σ4, h5, hm⟩ := bd_some hm
      refine k_v hI hA (va_runU (As := [.int 2]) (rest := []) hX (c_X4_finish_X8 N n h5 _) (va_cwU 1 ht (in_U mw_240 mw_241 mw_245 mw_243 mw_244 mw_229) rfl rfl rfl rfl (by decide +kernel) ⟨Nat.le_of_ble_eq_true rfl, Nat.le_of_ble_eq_true rfl⟩) ⟨q_blind, va_recv hK hI.1 (ci := 7) (q0 := 45) rfl rfl, q_to hI hK hN hZ hA⟩ rfl rfl hl.1 rfl (lv_room (Nat.le_of_ble_eq_true rfl)) dX4_canReckon_14 (by decide)) (fun H locs hI => ?_)
      refine lv_iconst (v := 0) hx hb dX4_canReckon_17 (by decide) ?_
      exact hR _ _ _ _ _ _ hm hI (by decide) dX4_canReckon_18
    · have hm := (if_neg c2).symm.trans hm
      refine lv_iconst (v := 1) hx hb dX4_canReckon_10 (by decide) ?_
      exact hR _ _ _ _ _ _ hm hI (by decide) dX4_canReckon_11
def f_X8_work (N n : Nat) (σ : Sg) (p0 : Int32) (p1 : Int32) (p2 : Int32) : Option (Int32 × Sg) := bd (f_X4_canReckon_X8 N n σ p0 p1) (fun r1 σ2 => if r1 = 0 then (some (0, σ2)) else (bd (f_X11_reckon N n σ2 p0 p2 p1) (fun r5 σ6 => bd (f_X8_push N n σ6 r5) (fun r8 σ9 => some (0, σ9)))))
set_option maxHeartbeats 4000000 in
set_option maxRecDepth 100000 in
theorem c_X8_work {l : Launch} {g : GG} {q : Nat} (N n : Nat) {σ : Sg} {p0 : Int32} {p1 : Int32} {p2 : Int32} {r : Int32} {σ' : Sg} (hm : f_X8_work N n σ p0 p1 p2 = some (r, σ')) : CTv l yX8_work cX8_work 4 none 2 43 g q n [.ref (ga g 45), .int p0, .int p1, .int p2] σ σ' := by
  refine e_v (r := r) (by decide) (Nat.le_of_ble_eq_true rfl) ?_
  intro p e s m args below meth c A Q ls hC hl hI
  obtain ⟨hX, hK, hN, hZ, hA, hR⟩ := id hC
  have hx : p.tables.exec = Jvm.exec := hX.1
  have hb : c.code = cX8_work := hX.2.1
  have hml : c.maxLocals = 4 := hX.2.2.1
  have hown : s.vm.findClass RX8 = some m.cls := hX.2.2.2.1
  have ht : ∀ w ∈ BIG, w.before args s = true := hX.2.2.2.2
  have hl : lv_has ls 4 [(0, .ref (ga g 45)), (1, .int p0), (2, .int p1), (3, .int p2)] := hl
  unfold f_X8_work at hm
  refine lv_aload_n hx hb dX8_work_0 rfl (lv_at hl 0 rfl) ?_
  refine lv_iload_n hx hb dX8_work_1 rfl (lv_at hl 1 rfl) ?_
  refine lv_iload_n hx hb dX8_work_2 rfl (lv_at hl 2 rfl) ?_
  obtain ⟨r1, σ2, h3, hm⟩ := bd_some hm
  refine k_i hI hA (va_runU (As := [.int p0, .int p1]) (rest := []) hX (c_X4_canReckon_X8 N n h3 _) (va_cwU 2 ht (in_U mw_344 mw_345 mw_346 mw_265 mw_244 mw_256) rfl rfl rfl rfl (by decide +kernel) ⟨Nat.le_of_ble_eq_true rfl, Nat.le_of_ble_eq_true rfl⟩) ⟨q_blind, va_recv hK hI.1 (ci := 7) (q0 := 45) rfl rfl, q_to hI hK hN hZ hA⟩ rfl rfl hl.1 rfl (lv_room (Nat.le_of_ble_eq_true rfl)) dX8_work_3 (by decide)) (fun H locs hI => ?_)
  refine lv_if_eq (tgt := 19) hx hb dX8_work_6 (by decide) (fun c4 => ?_) (fun c4 => ?_)
  · have hm := (if_pos c4).symm.trans hm
    exact hR _ _ _ _ _ hm hI dX8_work_19
  · have hm := (if_neg c4).symm.trans hm
    refine lv_aload_n hx hb dX8_work_9 rfl (lv_at hl 0 rfl) ?_
    refine lv_iload_n hx hb dX8_work_10 rfl (lv_at hl 1 rfl) ?_
    refine lv_iload_n hx hb dX8_work_11 rfl (lv_at hl 3 rfl) ?_
    refine lv_iload_n hx hb dX8_work_12 rfl (lv_at hl 2 rfl) ?_
    obtain ⟨r5, σ6, h7, hm⟩ := bd_some hm
    refine k_i hI hA (va_runSN (As := [.int p0, .int p2, .int p1]) (rest := [.ref (ga g 45)]) hX (c_X11_reckon N n h7 _) ⟨va_cnB 3 ht (in_c (in_k mw_257)) rfl rfl rfl hZ.2.2.2.1 (ht _ mw_267) pd_X11_reckon ⟨Nat.le_of_ble_eq_true rfl, Nat.le_of_ble_eq_true rfl⟩, ht _ mw_266, trivial⟩ ⟨q_blind, q_to hI hK hN hZ hA⟩ rfl rfl hl.1 rfl (lv_room (Nat.le_of_ble_eq_true rfl)) dX8_work_13 (by decide)) (fun H locs hI => ?_)
    obtain ⟨r8, σ9, h10, hm⟩ := bd_some hm
    refine k_v hI hA (va_runV (As := [.int r5]) (rest := []) hX (c_X8_push N n h10 _) (cwV 1 ht (in_V mw_283 mw_284 mw_285 mw_253 mw_278) rfl rfl rfl pd_X8_push ⟨Nat.le_of_ble_eq_true rfl, Nat.le_of_ble_eq_true rfl⟩) ⟨q_blind, va_recv hK hI.1 (ci := 7) (q0 := 45) rfl rfl, q_to hI hK hN hZ hA⟩ rfl rfl hl.1 rfl (lv_room (Nat.le_of_ble_eq_true rfl)) dX8_work_16 (by decide)) (fun H locs hI => ?_)
    exact hR _ _ _ _ _ hm hI dX8_work_19
def f_X8_step (N n : Nat) (σ : Sg) (p0 : Int32) (p1 : Int32) : Option (Int32 × Sg) := gb p0 12 (gb ((σ 4 (ix p0)) + p1) 300 (gb p0 12 (gb ((σ 4 (ix p0)) + p1) 300 (if (σ 6 (ix ((σ 4 (ix p0)) + p1))) = 0 then (bd (f_X8_push N n σ (σ 7 (ix ((σ 4 (ix p0)) + p1)))) (fun r6 σ7 => some (0, σ7))) else (if (σ 6 (ix ((σ 4 (ix p0)) + p1))) = 1 then (bd (f_X4_room_X8 N n σ ) (fun r10 σ11 => gb ((r10 * 10) + (σ 7 (ix ((σ 4 (ix p0)) + p1)))) 300 (bd (f_X8_push N n σ11 (σ11 49 (ix ((r10 * 10) + (σ 7 (ix ((σ 4 (ix p0)) + p1))))))) (fun r14 σ15 => some (0, σ15))))) else (if (σ 6 (ix ((σ 4 (ix p0)) + p1))) = 2 then (bd (f_X4_room_X8 N n σ ) (fun r18 σ19 => bd (f_X8_pop N n σ19 ) (fun r21 σ22 => gb ((r18 * 10) + (σ 7 (ix ((σ 4 (ix p0)) + p1)))) 300 (some (0, sg σ22 49 (ix ((r18 * 10) + (σ 7 (ix ((σ 4 (ix p0)) + p1))))) r21))))) else (if (σ 6 (ix ((σ 4 (ix p0)) + p1))) = 9 then (gb ((σ 45 12) - 1) 360 (bd (f_X8_push N n σ (σ 50 (ix ((σ 45 12) - 1)))) (fun r27 σ28 => some (0, σ28)))) else (if (σ 6 (ix ((σ 4 (ix p0)) + p1))) = 10 then (bd (f_X8_flip N n σ ) (fun r31 σ32 => some (0, σ32))) else (if (σ 6 (ix ((σ 4 (ix p0)) + p1))) = 11 then (bd (f_X8_pop N n σ ) (fun r35 σ36 => some (0, σ36))) else (if (σ 6 (ix ((σ 4 (ix p0)) + p1))) = 12 then (bd (f_X4_jump_X8 N n σ (σ 7 (ix ((σ 4 (ix p0)) + p1)))) (fun r39 σ40 => some (0, σ40))) else (if (σ 6 (ix ((σ 4 (ix p0)) + p1))) = 13 then (bd (f_X8_pop N n σ ) (fun r43 σ44 => if r43 = 0 then (bd (f_X4_jump_X8 N n σ44 (σ 7 (ix ((σ 4 (ix p0)) + p1)))) (fun r47 σ48 => some (0, σ48))) else (some (0, σ44)))) else (if (σ 6 (ix ((σ 4 (ix p0)) + p1))) = 14 then (bd (f_X4_enter_X8 N n σ (σ 7 (ix ((σ 4 (ix p0)) + p1)))) (fun r51 σ52 => some (0, σ52))) else (if (σ 6 (ix ((σ 4 (ix p0)) + p1))) = 15 then (bd (f_X8_pop N n σ ) (fun r55 σ56 => bd (f_X4_leave_X8 N n σ56 r55) (fun r58 σ59 => some (0, σ59)))) else (if (σ 6 (ix ((σ 4 (ix p0)) + p1))) = 16 then (bd (f_X8_pop N n σ ) (fun r62 σ63 => bd (f_X8_fetch N n σ63 r62) (fun r65 σ66 => some (0, σ66)))) else (if (σ 6 (ix ((σ 4 (ix p0)) + p1))) = 17 then (bd (f_X8_pop N n σ ) (fun r69 σ70 => bd (f_X8_pop N n σ70 ) (fun r72 σ73 => bd (f_X8_store N n σ73 r69 r72) (fun r75 σ76 => some (0, σ76))))) else (bd (f_X8_pop N n σ ) (fun r78 σ79 => bd (f_X8_pop N n σ79 ) (fun r81 σ82 => bd (f_X8_work N n σ82 (σ 6 (ix ((σ 4 (ix p0)) + p1))) r78 r81) (fun r84 σ85 => some (0, σ85))))))))))))))))))))
set_option maxHeartbeats 4000000 in
set_option maxRecDepth 100000 in
theorem c_X8_step {l : Launch} {g : GG} {q : Nat} (N n : Nat) {σ : Sg} {p0 : Int32} {p1 : Int32} {r : Int32} {σ' : Sg} (hm : f_X8_step N n σ p0 p1 = some (r, σ')) : CTv l yX8_step cX8_step 5 none 3 66 g q n [.ref (ga g 45), .int p0, .int p1] σ σ' := by
  refine e_v (r := r) (by decide) (Nat.le_of_ble_eq_true rfl) ?_
  intro p e s m args below meth c A Q ls hC hl hI
  obtain ⟨hX, hK, hN, hZ, hA, hR⟩ := id hC
  have hx : p.tables.exec = Jvm.exec := hX.1
  have hb : c.code = cX8_step := hX.2.1
  have hml : c.maxLocals = 5 := hX.2.2.1
  have hown : s.vm.findClass RX8 = some m.cls := hX.2.2.2.1
  have ht : ∀ w ∈ BIG, w.before args s = true := hX.2.2.2.2
  have hl : lv_has ls 5 [(0, .ref (ga g 45)), (1, .int p0), (2, .int p1)] := hl
  unfold f_X8_step at hm
  refine lv_aload_n hx hb dX8_step_0 rfl (lv_at hl 0 rfl) ?_
  refine gf_45_8 hx hb ht hK hI mw_234 (fun _ h9 => h9) hown dX8_step_1 ?_
  refine gf_1_4 hx hb ht hK hI mw_347 (fun _ h9 => h9) hown dX8_step_4 ?_
  refine lv_aload_n hx hb dX8_step_7 rfl (lv_at hl 0 rfl) ?_
  refine gf_45_8 hx hb ht hK hI mw_234 (fun _ h9 => h9) hown dX8_step_8 ?_
  refine gf_1_2 hx hb ht hK hI mw_348 (fun _ h9 => h9) hown dX8_step_11 ?_
  refine lv_iload_n hx hb dX8_step_14 rfl (lv_at hl 1 rfl) ?_
  obtain ⟨g1, hm⟩ := gb_some hm
  refine ld_4 hx hb hK hI g1 (v := σ 4 (ix p0)) rfl dX8_step_15 ?_
  refine lv_iload_n hx hb dX8_step_16 rfl (lv_at hl 2 rfl) ?_
  refine lv_iadd hx hb dX8_step_17 ?_
  obtain ⟨g2, hm⟩ := gb_some hm
  refine ld_6 hx hb hK hI g2 (v := σ 6 (ix ((σ 4 (ix p0)) + p1))) rfl dX8_step_18 ?_
  refine lv_istore_n (lv' := [(3, .int (σ 6 (ix ((σ 4 (ix p0)) + p1)))), (0, .ref (ga g 45)), (1, .int p0), (2, .int p1)]) hx hb dX8_step_19 rfl hl (by decide) rfl (fun ls hl => ?_)
  refine lv_aload_n hx hb dX8_step_20 rfl (lv_at hl 1 rfl) ?_
  refine gf_45_8 hx hb ht hK hI mw_234 (fun _ h9 => h9) hown dX8_step_21 ?_
  refine gf_1_5 hx hb ht hK hI mw_349 (fun _ h9 => h9) hown dX8_step_24 ?_
  refine lv_aload_n hx hb dX8_step_27 rfl (lv_at hl 1 rfl) ?_
  refine gf_45_8 hx hb ht hK hI mw_234 (fun _ h9 => h9) hown dX8_step_28 ?_
  refine gf_1_2 hx hb ht hK hI mw_348 (fun _ h9 => h9) hown dX8_step_31 ?_
  refine lv_iload_n hx hb dX8_step_34 rfl (lv_at hl 2 rfl) ?_
  obtain ⟨g3, hm⟩ := gb_some hm
  refine ld_4 hx hb hK hI g3 (v := σ 4 (ix p0)) rfl dX8_step_35 ?_
  refine lv_iload_n hx hb dX8_step_36 rfl (lv_at hl 3 rfl) ?_
  refine lv_iadd hx hb dX8_step_37 ?_
  obtain ⟨g4, hm⟩ := gb_some hm
  refine ld_7 hx hb hK hI g4 (v := σ 7 (ix ((σ 4 (ix p0)) + p1))) rfl dX8_step_38 ?_
  refine lv_istore (lv' := [(4, .int (σ 7 (ix ((σ 4 (ix p0)) + p1)))), (3, .int (σ 6 (ix ((σ 4 (ix p0)) + p1)))), (0, .ref (ga g 45)), (1, .int p0), (2, .int p1)]) hx hb dX8_step_39 hl (by decide) rfl (fun ls hl => ?_)
  refine lv_iload_n hx hb dX8_step_41 rfl (lv_at hl 1 rfl) ?_
  by_cases c5 : (σ 6 (ix ((σ 4 (ix p0)) + p1))) = 0
  · have hm := (if_pos c5).symm.trans hm
    refine lv_tableIn (off := 86) (tgt := 128) hx hb dX8_step_42 (by (rw [c5]; decide)) (by (rw [c5]; decide)) (by (rw [c5]; rfl)) (by decide) ?_
    refine lv_aload_n hx hb dX8_step_128 rfl (lv_at hl 2 rfl) ?_
    refine lv_iload hx hb dX8_step_129 (lv_at hl 0 rfl) ?_
    obtain ⟨r6, σ7, h8, hm⟩ := bd_some hm
    refine k_v hI hA (va_runV (As := [.int (σ 7 (ix ((σ 4 (ix p0)) + p1)))]) (rest := []) hX (c_X8_push N n h8 _) (cwV 1 ht (in_V mw_283 mw_284 mw_285 mw_253 mw_278) rfl rfl rfl pd_X8_push ⟨Nat.le_of_ble_eq_true rfl, Nat.le_of_ble_eq_true rfl⟩) ⟨q_blind, va_recv hK hI.1 (ci := 7) (q0 := 45) rfl rfl, q_to hI hK hN hZ hA⟩ rfl rfl hl.1 rfl (lv_room (Nat.le_of_ble_eq_true rfl)) dX8_step_131 (by decide)) (fun H locs hI => ?_)
    refine lv_goto (tgt := 298) hx hb dX8_step_134 (by decide) ?_
    exact hR _ _ _ _ _ hm hI dX8_step_298
  have hm := (if_neg c5).symm.trans hm
  by_cases c9 : (σ 6 (ix ((σ 4 (ix p0)) + p1))) = 1
  · have hm := (if_pos c9).symm.trans hm
    refine lv_tableIn (off := 95) (tgt := 137) hx hb dX8_step_42 (by (rw [c9]; decide)) (by (rw [c9]; decide)) (by (rw [c9]; rfl)) (by decide) ?_
    refine lv_aload_n hx hb dX8_step_137 rfl (lv_at hl 2 rfl) ?_
    refine lv_aload_n hx hb dX8_step_138 rfl (lv_at hl 2 rfl) ?_
    refine gf_45_9 hx hb ht hK hI mw_237 (fun _ h9 => h9) hown dX8_step_139 ?_
    refine lv_aload_n hx hb dX8_step_142 rfl (lv_at hl 2 rfl) ?_
    obtain ⟨r10, σ11, h12, hm⟩ := bd_some hm
    refine k_i hI hA (va_runU (As := []) (rest := [.ref (ga g 49), .ref (ga g 45)]) hX (c_X4_room_X8 N n h12 _) (va_cwU 0 ht (in_U mw_280 mw_281 mw_282 mw_274 mw_244 mw_255) rfl rfl rfl rfl (by decide +kernel) ⟨Nat.le_of_ble_eq_true rfl, Nat.le_of_ble_eq_true rfl⟩) ⟨q_blind, va_recv hK hI.1 (ci := 7) (q0 := 45) rfl rfl, q_to hI hK hN hZ hA⟩ rfl rfl hl.1 rfl (lv_room (Nat.le_of_ble_eq_true rfl)) dX8_step_143 (by decide)) (fun H locs hI => ?_)
    refine lv_bipush (v := 10) hx hb dX8_step_146 (by decide) ?_
    refine lv_imul hx hb dX8_step_148 ?_
    refine lv_iload hx hb dX8_step_149 (lv_at hl 0 rfl) ?_
    refine lv_iadd hx hb dX8_step_151 ?_
    obtain ⟨g13, hm⟩ := gb_some hm
    refine ld_49 hx hb hK hI g13 (v := σ11 49 (ix ((r10 * 10) + (σ 7 (ix ((σ 4 (ix p0)) + p1)))))) rfl dX8_step_152 ?_
    obtain ⟨r14, σ15, h16, hm⟩ := bd_some hm
    refine k_v hI hA (va_runV (As := [.int (σ11 49 (ix ((r10 * 10) + (σ 7 (ix ((σ 4 (ix p0)) + p1))))))]) (rest := []) hX (c_X8_push N n h16 _) (cwV 1 ht (in_V mw_283 mw_284 mw_285 mw_253 mw_278) rfl rfl rfl pd_X8_push ⟨Nat.le_of_ble_eq_true rfl, Nat.le_of_ble_eq_true rfl⟩) ⟨q_blind, va_recv hK hI.1 (ci := 7) (q0 := 45) rfl rfl, q_to hI hK hN hZ hA⟩ rfl rfl hl.1 rfl (lv_room (Nat.le_of_ble_eq_true rfl)) dX8_step_153 (by decide)) (fun H locs hI => ?_)
    refine lv_goto (tgt := 298) hx hb dX8_step_156 (by decide) ?_
    exact hR _ _ _ _ _ hm hI dX8_step_298
  have hm := (if_neg c9).symm.trans hm
  by_cases c17 : (σ 6 (ix ((σ 4 (ix p0)) + p1))) = 2
  · have hm := (if_pos c17).symm.trans hm
    refine lv_tableIn (off := 117) (tgt := 159) hx hb dX8_step_42 (by (rw [c17]; decide)) (by (rw [c17]; decide)) (by (rw [c17]; rfl)) (by decide) ?_
    refine lv_aload_n hx hb dX8_step_159 rfl (lv_at hl 2 rfl) ?_
    refine gf_45_9 hx hb ht hK hI mw_237 (fun _ h9 => h9) hown dX8_step_160 ?_
    refine lv_aload_n hx hb dX8_step_163 rfl (lv_at hl 2 rfl) ?_
    obtain ⟨r18, σ19, h20, hm⟩ := bd_some hm
    refine k_i hI hA (va_runU (As := []) (rest := [.ref (ga g 49)]) hX (c_X4_room_X8 N n h20 _) (va_cwU 0 ht (in_U mw_280 mw_281 mw_282 mw_274 mw_244 mw_255) rfl rfl rfl rfl (by decide +kernel) ⟨Nat.le_of_ble_eq_true rfl, Nat.le_of_ble_eq_true rfl⟩) ⟨q_blind, va_recv hK hI.1 (ci := 7) (q0 := 45) rfl rfl, q_to hI hK hN hZ hA⟩ rfl rfl hl.1 rfl (lv_room (Nat.le_of_ble_eq_true rfl)) dX8_step_164 (by decide)) (fun H locs hI => ?_)
    refine lv_bipush (v := 10) hx hb dX8_step_167 (by decide) ?_
    refine lv_imul hx hb dX8_step_169 ?_
    refine lv_iload hx hb dX8_step_170 (lv_at hl 0 rfl) ?_
    refine lv_iadd hx hb dX8_step_172 ?_
    refine lv_aload_n hx hb dX8_step_173 rfl (lv_at hl 2 rfl) ?_
    obtain ⟨r21, σ22, h23, hm⟩ := bd_some hm
    refine k_i hI hA (va_runV (As := []) (rest := [.int ((r18 * 10) + (σ 7 (ix ((σ 4 (ix p0)) + p1)))), .ref (ga g 49)]) hX (c_X8_pop N n h23 _) (cwV 0 ht (in_V mw_333 mw_334 mw_335 mw_253 mw_331) rfl rfl rfl pd_X8_pop ⟨Nat.le_of_ble_eq_true rfl, Nat.le_of_ble_eq_true rfl⟩) ⟨q_blind, va_recv hK hI.1 (ci := 7) (q0 := 45) rfl rfl, q_to hI hK hN hZ hA⟩ rfl rfl hl.1 rfl (lv_room (Nat.le_of_ble_eq_true rfl)) dX8_step_174 (by decide)) (fun H locs hI => ?_)
    obtain ⟨g24, hm⟩ := gb_some hm
    refine sv_49 hx hb hK hI g24 dX8_step_177 (fun H locs hI => ?_)
    refine lv_goto (tgt := 298) hx hb dX8_step_178 (by decide) ?_
    exact hR _ _ _ _ _ hm hI dX8_step_298
  have hm := (if_neg c17).symm.trans hm
  by_cases c25 : (σ 6 (ix ((σ 4 (ix p0)) + p1))) = 9
  · have hm := (if_pos c25).symm.trans hm
    refine lv_tableIn (off := 139) (tgt := 181) hx hb dX8_step_42 (by (rw [c25]; decide)) (by (rw [c25]; decide)) (by (rw [c25]; rfl)) (by decide) ?_
    refine lv_aload_n hx hb dX8_step_181 rfl (lv_at hl 2 rfl) ?_
    refine lv_aload_n hx hb dX8_step_182 rfl (lv_at hl 2 rfl) ?_
    refine gf_45_10 hx hb ht hK hI mw_238 (fun _ h9 => h9) hown dX8_step_183 ?_
    refine lv_aload_n hx hb dX8_step_186 rfl (lv_at hl 2 rfl) ?_
    refine gf_45_12 hx hb ht hK hI (v := σ 45 12) rfl mw_236 (fun _ h9 => h9) hown dX8_step_187 ?_
    refine lv_iconst (v := 1) hx hb dX8_step_190 (by decide) ?_
    refine lv_isub hx hb dX8_step_191 ?_
    obtain ⟨g26, hm⟩ := gb_some hm
    refine ld_50 hx hb hK hI g26 (v := σ 50 (ix ((σ 45 12) - 1))) rfl dX8_step_192 ?_
    obtain ⟨r27, σ28, h29, hm⟩ := bd_some hm
    refine k_v hI hA (va_runV (As := [.int (σ 50 (ix ((σ 45 12) - 1)))]) (rest := []) hX (c_X8_push N n h29 _) (cwV 1 ht (in_V mw_283 mw_284 mw_285 mw_253 mw_278) rfl rfl rfl pd_X8_push ⟨Nat.le_of_ble_eq_true rfl, Nat.le_of_ble_eq_true rfl⟩) ⟨q_blind, va_recv hK hI.1 (ci := 7) (q0 := 45) rfl rfl, q_to hI hK hN hZ hA⟩ rfl rfl hl.1 rfl (lv_room (Nat.le_of_ble_eq_true rfl)) dX8_step_193 (by decide)) (fun H locs hI => ?_)
    refine lv_goto (tgt := 298) hx hb dX8_step_196 (by decide) ?_
    exact hR _ _ _ _ _ hm hI dX8_step_298
  have hm := (if_neg c25).symm.trans hm
  by_cases c30 : (σ 6 (ix ((σ 4 (ix p0)) + p1))) = 10
  · have hm := (if_pos c30).symm.trans hm
    refine lv_tableIn (off := 157) (tgt := 199) hx hb dX8_step_42 (by (rw [c30]; decide)) (by (rw [c30]; decide)) (by (rw [c30]; rfl)) (by decide) ?_
    refine lv_aload_n hx hb dX8_step_199 rfl (lv_at hl 2 rfl) ?_
    obtain ⟨r31, σ32, h33, hm⟩ := bd_some hm
    refine k_v hI hA (va_runV (As := []) (rest := []) hX (c_X8_flip N n h33 _) (cwV 0 ht (in_V mw_350 mw_351 mw_352 mw_253 mw_332) rfl rfl rfl pd_X8_flip ⟨Nat.le_of_ble_eq_true rfl, Nat.le_of_ble_eq_true rfl⟩) ⟨q_blind, va_recv hK hI.1 (ci := 7) (q0 := 45) rfl rfl, q_to hI hK hN hZ hA⟩ rfl rfl hl.1 rfl (lv_room (Nat.le_of_ble_eq_true rfl)) dX8_step_200 (by decide)) (fun H locs hI => ?_)
    refine lv_goto (tgt := 298) hx hb dX8_step_203 (by decide) ?_
    exact hR _ _ _ _ _ hm hI dX8_step_298
  have hm := (if_neg c30).symm.trans hm
  by_cases c34 : (σ 6 (ix ((σ 4 (ix p0)) + p1))) = 11
  · have hm := (if_pos c34).symm.trans hm
    refine lv_tableIn (off := 164) (tgt := 206) hx hb dX8_step_42 (by (rw [c34]; decide)) (by (rw [c34]; decide)) (by (rw [c34]; rfl)) (by decide) ?_
    refine lv_aload_n hx hb dX8_step_206 rfl (lv_at hl 2 rfl) ?_
    obtain ⟨r35, σ36, h37, hm⟩ := bd_some hm
    refine k_i hI hA (va_runV (As := []) (rest := []) hX (c_X8_pop N n h37 _) (cwV 0 ht (in_V mw_333 mw_334 mw_335 mw_253 mw_331) rfl rfl rfl pd_X8_pop ⟨Nat.le_of_ble_eq_true rfl, Nat.le_of_ble_eq_true rfl⟩) ⟨q_blind, va_recv hK hI.1 (ci := 7) (q0 := 45) rfl rfl, q_to hI hK hN hZ hA⟩ rfl rfl hl.1 rfl (lv_room (Nat.le_of_ble_eq_true rfl)) dX8_step_207 (by decide)) (fun H locs hI => ?_)
    refine lv_pop hx hb dX8_step_210 rfl ?_
    refine lv_goto (tgt := 298) hx hb dX8_step_211 (by decide) ?_
    exact hR _ _ _ _ _ hm hI dX8_step_298
  have hm := (if_neg c34).symm.trans hm
  by_cases c38 : (σ 6 (ix ((σ 4 (ix p0)) + p1))) = 12
  · have hm := (if_pos c38).symm.trans hm
    refine lv_tableIn (off := 172) (tgt := 214) hx hb dX8_step_42 (by (rw [c38]; decide)) (by (rw [c38]; decide)) (by (rw [c38]; rfl)) (by decide) ?_
    refine lv_aload_n hx hb dX8_step_214 rfl (lv_at hl 2 rfl) ?_
    refine lv_iload hx hb dX8_step_215 (lv_at hl 0 rfl) ?_
    obtain ⟨r39, σ40, h41, hm⟩ := bd_some hm
    refine k_v hI hA (va_runU (As := [.int (σ 7 (ix ((σ 4 (ix p0)) + p1)))]) (rest := []) hX (c_X4_jump_X8 N n h41 _) (va_cwU 1 ht (in_U mw_353 mw_354 mw_355 mw_315 mw_244 mw_270) rfl rfl rfl rfl (by decide +kernel) ⟨Nat.le_of_ble_eq_true rfl, Nat.le_of_ble_eq_true rfl⟩) ⟨q_blind, va_recv hK hI.1 (ci := 7) (q0 := 45) rfl rfl, q_to hI hK hN hZ hA⟩ rfl rfl hl.1 rfl (lv_room (Nat.le_of_ble_eq_true rfl)) dX8_step_217 (by decide)) (fun H locs hI => ?_)
    refine lv_goto (tgt := 298) hx hb dX8_step_220 (by decide) ?_
    exact hR _ _ _ _ _ hm hI dX8_step_298
  have hm := (if_neg c38).symm.trans hm
  by_cases c42 : (σ 6 (ix ((σ 4 (ix p0)) + p1))) = 13
  · have hm := (if_pos c42).symm.trans hm
    refine lv_tableIn (off := 181) (tgt := 223) hx hb dX8_step_42 (by (rw [c42]; decide)) (by (rw [c42]; decide)) (by (rw [c42]; rfl)) (by decide) ?_
    refine lv_aload_n hx hb dX8_step_223 rfl (lv_at hl 2 rfl) ?_
    obtain ⟨r43, σ44, h45, hm⟩ := bd_some hm
    refine k_i hI hA (va_runV (As := []) (rest := []) hX (c_X8_pop N n h45 _) (cwV 0 ht (in_V mw_333 mw_334 mw_335 mw_253 mw_331) rfl rfl rfl pd_X8_pop ⟨Nat.le_of_ble_eq_true rfl, Nat.le_of_ble_eq_true rfl⟩) ⟨q_blind, va_recv hK hI.1 (ci := 7) (q0 := 45) rfl rfl, q_to hI hK hN hZ hA⟩ rfl rfl hl.1 rfl (lv_room (Nat.le_of_ble_eq_true rfl)) dX8_step_224 (by decide)) (fun H locs hI => ?_)
    refine lv_if_ne (tgt := 298) hx hb dX8_step_227 (by decide) (fun c46 => ?_) (fun c46 => ?_)
    · have hm := (if_neg c46).symm.trans hm
      exact hR _ _ _ _ _ hm hI dX8_step_298
    · have hm := (if_pos c46).symm.trans hm
      refine lv_aload_n hx hb dX8_step_230 rfl (lv_at hl 2 rfl) ?_
      refine lv_iload hx hb dX8_step_231 (lv_at hl 0 rfl) ?_
      obtain ⟨r47, σ48, h49, hm⟩ := bd_some hm
      refine k_v hI hA (va_runU (As := [.int (σ 7 (ix ((σ 4 (ix p0)) + p1)))]) (rest := []) hX (c_X4_jump_X8 N n h49 _) (va_cwU 1 ht (in_U mw_353 mw_354 mw_355 mw_315 mw_244 mw_270) rfl rfl rfl rfl (by decide +kernel) ⟨Nat.le_of_ble_eq_true rfl, Nat.le_of_ble_eq_true rfl⟩) ⟨q_blind, va_recv hK hI.1 (ci := 7) (q0 := 45) rfl rfl, q_to hI hK hN hZ hA⟩ rfl rfl hl.1 rfl (lv_room (Nat.le_of_ble_eq_true rfl)) dX8_step_233 (by decide)) (fun H locs hI => ?_)
      refine lv_goto (tgt := 298) hx hb dX8_step_236 (by decide) ?_
      exact hR _ _ _ _ _ hm hI dX8_step_298
  have hm := (if_neg c42).symm.trans hm
  by_cases c50 : (σ 6 (ix ((σ 4 (ix p0)) + p1))) = 14
  · have hm := (if_pos c50).symm.trans hm
    refine lv_tableIn (off := 197) (tgt := 239) hx hb dX8_step_42 (by (rw [c50]; decide)) (by (rw [c50]; decide)) (by (rw [c50]; rfl)) (by decide) ?_
    refine lv_aload_n hx hb dX8_step_239 rfl (lv_at hl 2 rfl) ?_
    refine lv_iload hx hb dX8_step_240 (lv_at hl 0 rfl) ?_
    obtain ⟨r51, σ52, h53, hm⟩ := bd_some hm
    refine k_v hI hA (va_runU (As := [.int (σ 7 (ix ((σ 4 (ix p0)) + p1)))]) (rest := []) hX (c_X4_enter_X8 N n h53 _) (va_cwU 1 ht (in_U mw_356 mw_357 mw_358 mw_329 mw_244 mw_254) rfl rfl rfl rfl (by decide +kernel) ⟨Nat.le_of_ble_eq_true rfl, Nat.le_of_ble_eq_true rfl⟩) ⟨q_blind, va_recv hK hI.1 (ci := 7) (q0 := 45) rfl rfl, q_to hI hK hN hZ hA⟩ rfl rfl hl.1 rfl (lv_room (Nat.le_of_ble_eq_true rfl)) dX8_step_242 (by decide)) (fun H locs hI => ?_)
    refine lv_goto (tgt := 298) hx hb dX8_step_245 (by decide) ?_
    exact hR _ _ _ _ _ hm hI dX8_step_298
  have hm := (if_neg c50).symm.trans hm
  by_cases c54 : (σ 6 (ix ((σ 4 (ix p0)) + p1))) = 15
  · have hm := (if_pos c54).symm.trans hm
    refine lv_tableIn (off := 206) (tgt := 248) hx hb dX8_step_42 (by (rw [c54]; decide)) (by (rw [c54]; decide)) (by (rw [c54]; rfl)) (by decide) ?_
    refine lv_aload_n hx hb dX8_step_248 rfl (lv_at hl 2 rfl) ?_
    refine lv_aload_n hx hb dX8_step_249 rfl (lv_at hl 2 rfl) ?_
    obtain ⟨r55, σ56, h57, hm⟩ := bd_some hm
    refine k_i hI hA (va_runV (As := []) (rest := [.ref (ga g 45)]) hX (c_X8_pop N n h57 _) (cwV 0 ht (in_V mw_333 mw_334 mw_335 mw_253 mw_331) rfl rfl rfl pd_X8_pop ⟨Nat.le_of_ble_eq_true rfl, Nat.le_of_ble_eq_true rfl⟩) ⟨q_blind, va_recv hK hI.1 (ci := 7) (q0 := 45) rfl rfl, q_to hI hK hN hZ hA⟩ rfl rfl hl.1 rfl (lv_room (Nat.le_of_ble_eq_true rfl)) dX8_step_250 (by decide)) (fun H locs hI => ?_)
    obtain ⟨r58, σ59, h60, hm⟩ := bd_some hm
    refine k_v hI hA (va_runU (As := [.int r55]) (rest := []) hX (c_X4_leave_X8 N n h60 _) (va_cwU 1 ht (in_U mw_359 mw_360 mw_361 mw_319 mw_244 mw_292) rfl rfl rfl rfl (by decide +kernel) ⟨Nat.le_of_ble_eq_true rfl, Nat.le_of_ble_eq_true rfl⟩) ⟨q_blind, va_recv hK hI.1 (ci := 7) (q0 := 45) rfl rfl, q_to hI hK hN hZ hA⟩ rfl rfl hl.1 rfl (lv_room (Nat.le_of_ble_eq_true rfl)) dX8_step_253 (by decide)) (fun H locs hI => ?_)
    refine lv_goto (tgt := 298) hx hb dX8_step_256 (by decide) ?_
    exact hR _ _ _ _ _ hm hI dX8_step_298
  have hm := (if_neg c54).symm.trans hm
  by_cases c61 : (σ 6 (ix ((σ 4 (ix p0)) + p1))) = 16
  · have hm := (if_pos c61).symm.trans hm
    refine lv_tableIn (off := 217) (tgt := 259) hx hb dX8_step_42 (by (rw [c61]; decide)) (by (rw [c61]; decide)) (by (rw [c61]; rfl)) (by decide) ?_
    refine lv_aload_n hx hb dX8_step_259 rfl (lv_at hl 2 rfl) ?_
    refine lv_aload_n hx hb dX8_step_260 rfl (lv_at hl 2 rfl) ?_
    obtain ⟨r62, σ63, h64, hm⟩ := bd_some hm
    refine k_i hI hA (va_runV (As := []) (rest := [.ref (ga g 45)]) hX (c_X8_pop N n h64 _) (cwV 0 ht (in_V mw_333 mw_334 mw_335 mw_253 mw_331) rfl rfl rfl pd_X8_pop ⟨Nat.le_of_ble_eq_true rfl, Nat.le_of_ble_eq_true rfl⟩) ⟨q_blind, va_recv hK hI.1 (ci := 7) (q0 := 45) rfl rfl, q_to hI hK hN hZ hA⟩ rfl rfl hl.1 rfl (lv_room (Nat.le_of_ble_eq_true rfl)) dX8_step_261 (by decide)) (fun H locs hI => ?_)
    obtain ⟨r65, σ66, h67, hm⟩ := bd_some hm
    refine k_v hI hA (va_runV (As := [.int r62]) (rest := []) hX (c_X8_fetch N n h67 _) (cwV 1 ht (in_V mw_362 mw_363 mw_364 mw_253 mw_336) rfl rfl rfl pd_X8_fetch ⟨Nat.le_of_ble_eq_true rfl, Nat.le_of_ble_eq_true rfl⟩) ⟨q_blind, va_recv hK hI.1 (ci := 7) (q0 := 45) rfl rfl, q_to hI hK hN hZ hA⟩ rfl rfl hl.1 rfl (lv_room (Nat.le_of_ble_eq_true rfl)) dX8_step_264 (by decide)) (fun H locs hI => ?_)
    refine lv_goto (tgt := 298) hx hb dX8_step_267 (by decide) ?_
    exact hR _ _ _ _ _ hm hI dX8_step_298
  have hm := (if_neg c61).symm.trans hm
  by_cases c68 : (σ 6 (ix ((σ 4 (ix p0)) + p1))) = 17
  · have hm := (if_pos c68).symm.trans hm
    refine lv_tableIn (off := 228) (tgt := 270) hx hb dX8_step_42 (by (rw [c68]; decide)) (by (rw [c68]; decide)) (by (rw [c68]; rfl)) (by decide) ?_
    refine lv_aload_n hx hb dX8_step_270 rfl (lv_at hl 2 rfl) ?_
    refine lv_aload_n hx hb dX8_step_271 rfl (lv_at hl 2 rfl) ?_
    obtain ⟨r69, σ70, h71, hm⟩ := bd_some hm
    refine k_i hI hA (va_runV (As := []) (rest := [.ref (ga g 45)]) hX (c_X8_pop N n h71 _) (cwV 0 ht (in_V mw_333 mw_334 mw_335 mw_253 mw_331) rfl rfl rfl pd_X8_pop ⟨Nat.le_of_ble_eq_true rfl, Nat.le_of_ble_eq_true rfl⟩) ⟨q_blind, va_recv hK hI.1 (ci := 7) (q0 := 45) rfl rfl, q_to hI hK hN hZ hA⟩ rfl rfl hl.1 rfl (lv_room (Nat.le_of_ble_eq_true rfl)) dX8_step_272 (by decide)) (fun H locs hI => ?_)
    refine lv_aload_n hx hb dX8_step_275 rfl (lv_at hl 2 rfl) ?_
    obtain ⟨r72, σ73, h74, hm⟩ := bd_some hm
    refine k_i hI hA (va_runV (As := []) (rest := [.int r69, .ref (ga g 45)]) hX (c_X8_pop N n h74 _) (cwV 0 ht (in_V mw_333 mw_334 mw_335 mw_253 mw_331) rfl rfl rfl pd_X8_pop ⟨Nat.le_of_ble_eq_true rfl, Nat.le_of_ble_eq_true rfl⟩) ⟨q_blind, va_recv hK hI.1 (ci := 7) (q0 := 45) rfl rfl, q_to hI hK hN hZ hA⟩ rfl rfl hl.1 rfl (lv_room (Nat.le_of_ble_eq_true rfl)) dX8_step_276 (by decide)) (fun H locs hI => ?_)
    obtain ⟨r75, σ76, h77, hm⟩ := bd_some hm
    refine k_v hI hA (va_runV (As := [.int r69, .int r72]) (rest := []) hX (c_X8_store N n h77 _) (cwV 2 ht (in_V mw_365 mw_366 mw_367 mw_253 mw_342) rfl rfl rfl pd_X8_store ⟨Nat.le_of_ble_eq_true rfl, Nat.le_of_ble_eq_true rfl⟩) ⟨q_blind, va_recv hK hI.1 (ci := 7) (q0 := 45) rfl rfl, q_to hI hK hN hZ hA⟩ rfl rfl hl.1 rfl (lv_room (Nat.le_of_ble_eq_true rfl)) dX8_step_279 (by decide)) (fun H locs hI => ?_)
    refine lv_goto (tgt := 298) hx hb dX8_step_282 (by decide) ?_
    exact hR _ _ _ _ _ hm hI dX8_step_298
  have hm := (if_neg c68).symm.trans hm
  refine sw_d (tgt := 285) hx hb [0, 1, 2, 9, 10, 11, 12, 13, 14, 15, 16, 17] dX8_step_42 (by decide) (by decide) (ne_c (lv_neT c5 (by decide)) (ne_c (lv_neT c9 (by decide)) (ne_c (lv_neT c17 (by decide)) (ne_c (lv_neT c25 (by decide)) (ne_c (lv_neT c30 (by decide)) (ne_c (lv_neT c34 (by decide)) (ne_c (lv_neT c38 (by decide)) (ne_c (lv_neT c42 (by decide)) (ne_c (lv_neT c50 (by decide)) (ne_c (lv_neT c54 (by decide)) (ne_c (lv_neT c61 (by decide)) (ne_c (lv_neT c68 (by decide)) ne_n)))))))))))) (by decide) ?_
  refine lv_aload_n hx hb dX8_step_285 rfl (lv_at hl 2 rfl) ?_
  refine lv_iload_n hx hb dX8_step_286 rfl (lv_at hl 1 rfl) ?_
  refine lv_aload_n hx hb dX8_step_287 rfl (lv_at hl 2 rfl) ?_
  obtain ⟨r78, σ79, h80, hm⟩ := bd_some hm
  refine k_i hI hA (va_runV (As := []) (rest := [.int (σ 6 (ix ((σ 4 (ix p0)) + p1))), .ref (ga g 45)]) hX (c_X8_pop N n h80 _) (cwV 0 ht (in_V mw_333 mw_334 mw_335 mw_253 mw_331) rfl rfl rfl pd_X8_pop ⟨Nat.le_of_ble_eq_true rfl, Nat.le_of_ble_eq_true rfl⟩) ⟨q_blind, va_recv hK hI.1 (ci := 7) (q0 := 45) rfl rfl, q_to hI hK hN hZ hA⟩ rfl rfl hl.1 rfl (lv_room (Nat.le_of_ble_eq_true rfl)) dX8_step_288 (by decide)) (fun H locs hI => ?_)
  refine lv_aload_n hx hb dX8_step_291 rfl (lv_at hl 2 rfl) ?_
  obtain ⟨r81, σ82, h83, hm⟩ := bd_some hm
  refine k_i hI hA (va_runV (As := []) (rest := [.int r78, .int (σ 6 (ix ((σ 4 (ix p0)) + p1))), .ref (ga g 45)]) hX (c_X8_pop N n h83 _) (cwV 0 ht (in_V mw_333 mw_334 mw_335 mw_253 mw_331) rfl rfl rfl pd_X8_pop ⟨Nat.le_of_ble_eq_true rfl, Nat.le_of_ble_eq_true rfl⟩) ⟨q_blind, va_recv hK hI.1 (ci := 7) (q0 := 45) rfl rfl, q_to hI hK hN hZ hA⟩ rfl rfl hl.1 rfl (lv_room (Nat.le_of_ble_eq_true rfl)) dX8_step_292 (by decide)) (fun H locs hI => ?_)
  obtain ⟨r84, σ85, h86, hm⟩ := bd_some hm
  refine k_v hI hA (va_runV (As := [.int (σ 6 (ix ((σ 4 (ix p0)) + p1))), .int r78, .int r81]) (rest := []) hX (c_X8_work N n h86 _) (cwV 3 ht (in_V mw_368 mw_369 mw_370 mw_253 mw_343) rfl rfl rfl pd_X8_work ⟨Nat.le_of_ble_eq_true rfl, Nat.le_of_ble_eq_true rfl⟩) ⟨q_blind, va_recv hK hI.1 (ci := 7) (q0 := 45) rfl rfl, q_to hI hK hN hZ hA⟩ rfl rfl hl.1 rfl (lv_room (Nat.le_of_ble_eq_true rfl)) dX8_step_295 (by decide)) (fun H locs hI => ?_)
  exact hR _ _ _ _ _ hm hI dX8_step_298
def lb_X4_goOn_X8_2 (N n : Nat) (u1 : Int32) (K75 : (Sg → Int32 → Option (Int32 × Sg))) (rec : (Sg → Int32 → Option (Int32 × Sg))) (σ : Sg) (v2 : Int32) : Option (Int32 × Sg) := if u1 ≤ v2 then (K75 σ v2) else (if (σ 45 3) = 0 then (if (σ 45 7) = 0 then (bd (f_X4_enter_X8 N n σ 0) (fun r14 σ15 => bd (f_X4_room_X8 N n σ15 ) (fun r17 σ18 => gb r17 30 (gb r17 30 (gb r17 30 (gb r17 30 (bd (f_X8_step N n (sg (sg σ18 45 5 ((σ18 45 5) + 1)) 48 (ix r17) ((σ18 48 (ix r17)) + 1)) (σ18 47 (ix r17)) (((σ18 48 (ix r17)) + 1) - 1)) (fun r24 σ25 => rec σ25 (v2 + 1))))))))) else (bd (f_X4_room_X8 N n σ ) (fun r4 σ5 => gb r4 30 (gb r4 30 (gb r4 30 (gb r4 30 (bd (f_X8_step N n (sg (sg σ5 45 5 ((σ5 45 5) + 1)) 48 (ix r4) ((σ5 48 (ix r4)) + 1)) (σ5 47 (ix r4)) (((σ5 48 (ix r4)) + 1) - 1)) (fun r11 σ12 => rec σ12 (v2 + 1))))))))) else (K75 σ v2))
def lf_X4_goOn_X8_2 (N n : Nat) (u1 : Int32) (K75 : (Sg → Int32 → Option (Int32 × Sg))) : Nat → (Sg → Int32 → Option (Int32 × Sg))
  | 0 => fun _ _ => none
  | k + 1 => lb_X4_goOn_X8_2 N n u1 K75 (lf_X4_goOn_X8_2 N n u1 K75 k)
def f_X4_goOn_X8 (N n : Nat) (σ : Sg) (p0 : Int32) : Option (Int32 × Sg) := lf_X4_goOn_X8_2 N n p0 (fun σ27 w28 => some (σ27 45 3, σ27)) N σ 0
set_option maxHeartbeats 4000000 in
set_option maxRecDepth 100000 in
theorem lp_X4_goOn_X8_2 {p : Program} {l : Launch} {e : Env} {s : State} {m : MethodId} {args : Array Value} {below : List Frame} {meth : Method} {c : Code} {Q : State → Prop} {A : Nat → Prop} {g : GG} {q N n : Nat} {out : Int32 × Sg} {u1 : Int32} {K75 : (Sg → Int32 → Option (Int32 × Sg))}
    (hC : CXi p l e (qR 4 90) s m args below meth c cX4_goOn 4 RX4 g q n A Q (some out)) :
    ∀ (k : Nat) (σ : Sg) (v2 : Int32) (H : Heap) (locs : List Loc) (ls : Array Slot), lf_X4_goOn_X8_2 N n u1 K75 k σ v2 = some out → wI g q n σ A s.heap H locs → lv_has ls 4 [(0, .ref (ga g 45)), (1, .int u1), (2, .int v2)] → (∀ (σ : Sg) (v2 : Int32) (H : Heap) (locs : List Loc) (ls : Array Slot), K75 σ v2 = some out → wI g q n σ A s.heap H locs → lv_has ls 4 [(0, .ref (ga g 45))] → W p l e (qR 4 90) s m args below meth c H locs 0 0 Q (F0 m 75 ls [])) → W p l e (qR 4 90) s m args below meth c H locs 0 0 Q (F0 m 2 ls []) := by
  obtain ⟨hX, hK, hN, hZ, hA, hR⟩ := id hC
  have hx : p.tables.exec = Jvm.exec := hX.1
  have hb : c.code = cX4_goOn := hX.2.1
  have hml : c.maxLocals = 4 := hX.2.2.1
  have hown : s.vm.findClass RX4 = some m.cls := hX.2.2.2.1
  have ht : ∀ w ∈ BIG, w.before args s = true := hX.2.2.2.2
  intro k
  induction k with
  | zero =>
    intro σ v2 H locs ls hm
    have hm : none = some out := hm
    exact nomatch hm
  | succ k ih =>
    intro σ v2 H locs ls hm hI hl hx75
    have hm : lb_X4_goOn_X8_2 N n u1 K75 (lf_X4_goOn_X8_2 N n u1 K75 k) σ v2 = some out := hm
    unfold lb_X4_goOn_X8_2 at hm
    refine lv_iload_n hx hb dX4_goOn_2 rfl (lv_at hl 2 rfl) ?_
    refine lv_iload_n hx hb dX4_goOn_3 rfl (lv_at hl 1 rfl) ?_
    refine lv_icmp_ge (tgt := 75) hx hb dX4_goOn_4 (by decide) (fun c1 => ?_) (fun c1 => ?_)
    · have hm := (if_pos c1).symm.trans hm
      exact hx75 σ v2 _ _ _ hm hI (lv_sub hl [0] rfl)
    · have hm := (if_neg c1).symm.trans hm
      refine lv_aload_n hx hb dX4_goOn_7 rfl (lv_at hl 0 rfl) ?_
      refine gf_45_3 hx hb ht hK hI (v := σ 45 3) rfl mw_224 (fun _ h9 => h9) hown dX4_goOn_8 ?_
      refine lv_if_ne (tgt := 75) hx hb dX4_goOn_11 (by decide) (fun c2 => ?_) (fun c2 => ?_)
      · have hm := (if_neg c2).symm.trans hm
        exact hx75 σ v2 _ _ _ hm hI (lv_sub hl [0] rfl)
      · have hm := (if_pos c2).symm.trans hm
        refine lv_aload_n hx hb dX4_goOn_14 rfl (lv_at hl 0 rfl) ?_
        refine gf_45_7 hx hb ht hK hI (v := σ 45 7) rfl mw_228 (fun _ h9 => h9) hown dX4_goOn_15 ?_
        refine lv_if_ne (tgt := 26) hx hb dX4_goOn_18 (by decide) (fun c3 => ?_) (fun c3 => ?_)
        · have hm := (if_neg c3).symm.trans hm
          refine lv_aload_n hx hb dX4_goOn_26 rfl (lv_at hl 0 rfl) ?_
          obtain ⟨r4, σ5, h6, hm⟩ := bd_some hm
          refine k_i hI hA (va_runU (As := []) (rest := []) hX (c_X4_room_X8 N n h6 _) (va_cwU 0 ht (in_U mw_271 mw_272 mw_275 mw_274 mw_244 mw_255) rfl rfl rfl rfl (by decide +kernel) ⟨Nat.le_of_ble_eq_true rfl, Nat.le_of_ble_eq_true rfl⟩) ⟨q_blind, va_recv hK hI.1 (ci := 7) (q0 := 45) rfl rfl, q_to hI hK hN hZ hA⟩ rfl rfl hl.1 rfl (lv_room (Nat.le_of_ble_eq_true rfl)) dX4_goOn_27 (by decide)) (fun H locs hI => ?_)
          refine lv_istore_n (lv' := [(3, .int r4), (0, .ref (ga g 45)), (1, .int u1), (2, .int v2)]) hx hb dX4_goOn_30 rfl hl (by decide) rfl (fun ls hl => ?_)
          refine lv_aload_n hx hb dX4_goOn_31 rfl (lv_at hl 1 rfl) ?_
          refine lv_dup hx hb dX4_goOn_32 rfl ?_
          refine gf_45_5 hx hb ht hK hI (v := σ5 45 5) rfl mw_226 (fun _ h9 => h9) hown dX4_goOn_33 ?_
          refine lv_iconst (v := 1) hx hb dX4_goOn_36 (by decide) ?_
          refine lv_iadd hx hb dX4_goOn_37 ?_
          refine pf_45_5 hx hb ht hK hI mw_226 (fun _ h9 => h9) hown dX4_goOn_38 (fun H locs hI => ?_)
          refine lv_aload_n hx hb dX4_goOn_41 rfl (lv_at hl 1 rfl) ?_
          refine gf_45_2 hx hb ht hK hI mw_196 (fun _ h9 => h9) hown dX4_goOn_42 ?_
          refine lv_iload_n hx hb dX4_goOn_45 rfl (lv_at hl 0 rfl) ?_
          refine lv_dup2_11 hx hb dX4_goOn_46 rfl rfl ?_
          obtain ⟨g7, hm⟩ := gb_some hm
          refine ld_48 hx hb hK hI g7 (v := σ5 48 (ix r4)) rfl dX4_goOn_47 ?_
          refine lv_iconst (v := 1) hx hb dX4_goOn_48 (by decide) ?_
          refine lv_iadd hx hb dX4_goOn_49 ?_
          obtain ⟨g8, hm⟩ := gb_some hm
          refine sv_48 hx hb hK hI g8 dX4_goOn_50 (fun H locs hI => ?_)
          refine lv_aload_n hx hb dX4_goOn_51 rfl (lv_at hl 1 rfl) ?_
          refine lv_aload_n hx hb dX4_goOn_52 rfl (lv_at hl 1 rfl) ?_
          refine gf_45_1 hx hb ht hK hI mw_195 (fun _ h9 => h9) hown dX4_goOn_53 ?_
          refine lv_iload_n hx hb dX4_goOn_56 rfl (lv_at hl 0 rfl) ?_
          obtain ⟨g9, hm⟩ := gb_some hm
          refine ld_47 hx hb hK hI g9 (v := σ5 47 (ix r4)) rfl dX4_goOn_57 ?_
          refine lv_aload_n hx hb dX4_goOn_58 rfl (lv_at hl 1 rfl) ?_
          refine gf_45_2 hx hb ht hK hI mw_196 (fun _ h9 => h9) hown dX4_goOn_59 ?_
          refine lv_iload_n hx hb dX4_goOn_62 rfl (lv_at hl 0 rfl) ?_
          obtain ⟨g10, hm⟩ := gb_some hm
          refine ld_48 hx hb hK hI g10 (v := (σ5 48 (ix r4)) + 1) (show upd (σ5 48) (ix r4) ((σ5 48 (ix r4)) + 1) (ix r4) = (σ5 48 (ix r4)) + 1 from up_same _ _ _) dX4_goOn_63 ?_
          refine lv_iconst (v := 1) hx hb dX4_goOn_64 (by decide) ?_
          refine lv_isub hx hb dX4_goOn_65 ?_
          obtain ⟨r11, σ12, h13, hm⟩ := bd_some hm
          refine k_v hI hA (va_runU (As := [.int (σ5 47 (ix r4)), .int (((σ5 48 (ix r4)) + 1) - 1)]) (rest := []) hX (c_X8_step N n h13 _) (va_cwA 2 ht (in_U mw_376 mw_377 mw_380 mw_381 mw_253 mw_371) rfl rfl rfl hZ.2.2.2.2.2.2.2.2.2.2.1 (by decide +kernel) ⟨Nat.le_of_ble_eq_true rfl, Nat.le_of_ble_eq_true rfl⟩) ⟨q_blind, va_recv hK hI.1 (ci := 7) (q0 := 45) rfl rfl, q_to hI hK hN hZ hA⟩ rfl rfl hl.1 rfl (lv_room (Nat.le_of_ble_eq_true rfl)) dX4_goOn_66 (by decide)) (fun H locs hI => ?_)
          refine lv_iinc (v := v2 + 1) (lv' := [(2, .int (v2 + 1)), (3, .int r4), (0, .ref (ga g 45)), (1, .int u1)]) hx hb dX4_goOn_69 hl (k := 3) rfl (congrArg (fun z => v2 + z) (show Int32.ofInt 1 = 1 by decide)) (by decide) rfl (fun ls hl => ?_)
          refine lv_goto (tgt := 2) hx hb dX4_goOn_72 (by decide) ?_
          exact ih σ12 (v2 + 1) _ _ _ hm hI (lv_sub hl [2, 3, 0] rfl) hx75
        · have hm := (if_pos c3).symm.trans hm
          refine lv_aload_n hx hb dX4_goOn_21 rfl (lv_at hl 0 rfl) ?_
          refine lv_iconst (v := 0) hx hb dX4_goOn_22 (by decide) ?_
          obtain ⟨r14, σ15, h16, hm⟩ := bd_some hm
          refine k_v hI hA (va_runU (As := [.int 0]) (rest := []) hX (c_X4_enter_X8 N n h16 _) (va_cwU 1 ht (in_U mw_372 mw_373 mw_375 mw_329 mw_244 mw_254) rfl rfl rfl rfl (by decide +kernel) ⟨Nat.le_of_ble_eq_true rfl, Nat.le_of_ble_eq_true rfl⟩) ⟨q_blind, va_recv hK hI.1 (ci := 7) (q0 := 45) rfl rfl, q_to hI hK hN hZ hA⟩ rfl rfl hl.1 rfl (lv_room (Nat.le_of_ble_eq_true rfl)) dX4_goOn_23 (by decide)) (fun H locs hI => ?_)
          refine lv_aload_n hx hb dX4_goOn_26 rfl (lv_at hl 0 rfl) ?_
          obtain ⟨r17, σ18, h19, hm⟩ := bd_some hm
          refine k_i hI hA (va_runU (As := []) (rest := []) hX (c_X4_room_X8 N n h19 _) (va_cwU 0 ht (in_U mw_271 mw_272 mw_275 mw_274 mw_244 mw_255) rfl rfl rfl rfl (by decide +kernel) ⟨Nat.le_of_ble_eq_true rfl, Nat.le_of_ble_eq_true rfl⟩) ⟨q_blind, va_recv hK hI.1 (ci := 7) (q0 := 45) rfl rfl, q_to hI hK hN hZ hA⟩ rfl rfl hl.1 rfl (lv_room (Nat.le_of_ble_eq_true rfl)) dX4_goOn_27 (by decide)) (fun H locs hI => ?_)
          refine lv_istore_n (lv' := [(3, .int r17), (0, .ref (ga g 45)), (1, .int u1), (2, .int v2)]) hx hb dX4_goOn_30 rfl hl (by decide) rfl (fun ls hl => ?_)
          refine lv_aload_n hx hb dX4_goOn_31 rfl (lv_at hl 1 rfl) ?_
          refine lv_dup hx hb dX4_goOn_32 rfl ?_
          refine gf_45_5 hx hb ht hK hI (v := σ18 45 5) rfl mw_226 (fun _ h9 => h9) hown dX4_goOn_33 ?_
          refine lv_iconst (v := 1) hx hb dX4_goOn_36 (by decide) ?_
          refine lv_iadd hx hb dX4_goOn_37 ?_
          refine pf_45_5 hx hb ht hK hI mw_226 (fun _ h9 => h9) hown dX4_goOn_38 (fun H locs hI => ?_)
          refine lv_aload_n hx hb dX4_goOn_41 rfl (lv_at hl 1 rfl) ?_
          refine gf_45_2 hx hb ht hK hI mw_196 (fun _ h9 => h9) hown dX4_goOn_42 ?_
          refine lv_iload_n hx hb dX4_goOn_45 rfl (lv_at hl 0 rfl) ?_
          refine lv_dup2_11 hx hb dX4_goOn_46 rfl rfl ?_
          obtain ⟨g20, hm⟩ := gb_some hm
          refine ld_48 hx hb hK hI g20 (v := σ18 48 (ix r17)) rfl dX4_goOn_47 ?_
          refine lv_iconst (v := 1) hx hb dX4_goOn_48 (by decide) ?_
          refine lv_iadd hx hb dX4_goOn_49 ?_
          obtain ⟨g21, hm⟩ := gb_some hm
          refine sv_48 hx hb hK hI g21 dX4_goOn_50 (fun H locs hI => ?_)
          refine lv_aload_n hx hb dX4_goOn_51 rfl (lv_at hl 1 rfl) ?_
          refine lv_aload_n hx hb dX4_goOn_52 rfl (lv_at hl 1 rfl) ?_
          refine gf_45_1 hx hb ht hK hI mw_195 (fun _ h9 => h9) hown dX4_goOn_53 ?_
          refine lv_iload_n hx hb dX4_goOn_56 rfl (lv_at hl 0 rfl) ?_
          obtain ⟨g22, hm⟩ := gb_some hm
          refine ld_47 hx hb hK hI g22 (v := σ18 47 (ix r17)) rfl dX4_goOn_57 ?_
          refine lv_aload_n hx hb dX4_goOn_58 rfl (lv_at hl 1 rfl) ?_
          refine gf_45_2 hx hb ht hK hI mw_196 (fun _ h9 => h9) hown dX4_goOn_59 ?_
          refine lv_iload_n hx hb dX4_goOn_62 rfl (lv_at hl 0 rfl) ?_
          obtain ⟨g23, hm⟩ := gb_some hm
          refine ld_48 hx hb hK hI g23 (v := (σ18 48 (ix r17)) + 1) (show upd (σ18 48) (ix r17) ((σ18 48 (ix r17)) + 1) (ix r17) = (σ18 48 (ix r17)) + 1 from up_same _ _ _) dX4_goOn_63 ?_
          refine lv_iconst (v := 1) hx hb dX4_goOn_64 (by decide) ?_
          refine lv_isub hx hb dX4_goOn_65 ?_
          obtain ⟨r24, σ25, h26, hm⟩ := bd_some hm
          refine k_v hI hA (va_runU (As := [.int (σ18 47 (ix r17)), .int (((σ18 48 (ix r17)) + 1) - 1)]) (rest := []) hX (c_X8_step N n h26 _) (va_cwA 2 ht (in_U mw_376 mw_377 mw_380 mw_381 mw_253 mw_371) rfl rfl rfl hZ.2.2.2.2.2.2.2.2.2.2.1 (by decide +kernel) ⟨Nat.le_of_ble_eq_true rfl, Nat.le_of_ble_eq_true rfl⟩) ⟨q_blind, va_recv hK hI.1 (ci := 7) (q0 := 45) rfl rfl, q_to hI hK hN hZ hA⟩ rfl rfl hl.1 rfl (lv_room (Nat.le_of_ble_eq_true rfl)) dX4_goOn_66 (by decide)) (fun H locs hI => ?_)
          refine lv_iinc (v := v2 + 1) (lv' := [(2, .int (v2 + 1)), (3, .int r17), (0, .ref (ga g 45)), (1, .int u1)]) hx hb dX4_goOn_69 hl (k := 3) rfl (congrArg (fun z => v2 + z) (show Int32.ofInt 1 = 1 by decide)) (by decide) rfl (fun ls hl => ?_)
          refine lv_goto (tgt := 2) hx hb dX4_goOn_72 (by decide) ?_
          exact ih σ25 (v2 + 1) _ _ _ hm hI (lv_sub hl [2, 3, 0] rfl) hx75
set_option maxHeartbeats 4000000 in
set_option maxRecDepth 100000 in
theorem c_X4_goOn_X8 {l : Launch} {g : GG} {q : Nat} (N n : Nat) {σ : Sg} {p0 : Int32} {r : Int32} {σ' : Sg} (hm : f_X4_goOn_X8 N n σ p0 = some (r, σ')) : CTi l yX4_goOn cX4_goOn 4 (some .int) 4 90 g q n [.ref (ga g 45), .int p0] σ r σ' := by
  refine e_i (r := r) (by decide) (Nat.le_of_ble_eq_true rfl) ?_
  intro p e s m args below meth c A Q ls hC hl hI
  obtain ⟨hX, hK, hN, hZ, hA, hR⟩ := id hC
  have hx : p.tables.exec = Jvm.exec := hX.1
  have hb : c.code = cX4_goOn := hX.2.1
  have hml : c.maxLocals = 4 := hX.2.2.1
  have hown : s.vm.findClass RX4 = some m.cls := hX.2.2.2.1
  have ht : ∀ w ∈ BIG, w.before args s = true := hX.2.2.2.2
  have hl : lv_has ls 4 [(0, .ref (ga g 45)), (1, .int p0)] := hl
  unfold f_X4_goOn_X8 at hm
  refine lv_iconst (v := 0) hx hb dX4_goOn_0 (by decide) ?_
  refine lv_istore_n (lv' := [(2, .int 0), (0, .ref (ga g 45)), (1, .int p0)]) hx hb dX4_goOn_1 rfl hl (by decide) rfl (fun ls hl => ?_)
  refine lp_X4_goOn_X8_2 hC N _ _ _ _ _ hm hI (lv_sub hl [1, 2, 0] rfl) ?_
  intro σ27 w28 H locs ls hm hI hl
  refine lv_aload_n hx hb dX4_goOn_75 rfl (lv_at hl 0 rfl) ?_
  refine gf_45_3 hx hb ht hK hI (v := σ27 45 3) rfl mw_224 (fun _ h9 => h9) hown dX4_goOn_76 ?_
  exact hR _ _ _ _ _ _ hm hI dX4_goOn_79
def f_X11_runStack (N n : Nat) (σ : Sg) (p0 : Int32) : Option (Int32 × Sg) := if (σ 1 9) = 0 then (some ((-1), σ)) else (if p0 < 1 then (some ((-1), σ)) else (if p0 ≤ 20000 then (bd (f_X4_goOn_X8 N n σ p0) (fun r4 σ5 => some (r4, σ5))) else (some ((-1), σ))))
set_option maxHeartbeats 4000000 in
set_option maxRecDepth 100000 in
theorem c_X11_runStack {l : Launch} {g : GG} {q : Nat} (N n : Nat) {σ : Sg} {p0 : Int32} {r : Int32} {σ' : Sg} (hm : f_X11_runStack N n σ p0 = some (r, σ')) : CTi l yX11_runStack cX11_runStack 2 (some .int) 5 113 g q n [.ref (ga g 0), .int p0] σ r σ' := by
  refine e_i (r := r) (by decide) (Nat.le_of_ble_eq_true rfl) ?_
  intro p e s m args below meth c A Q ls hC hl hI
  obtain ⟨hX, hK, hN, hZ, hA, hR⟩ := id hC
  have hx : p.tables.exec = Jvm.exec := hX.1
  have hb : c.code = cX11_runStack := hX.2.1
  have hml : c.maxLocals = 2 := hX.2.2.1
  have hown : s.vm.findClass RX11 = some m.cls := hX.2.2.2.1
  have ht : ∀ w ∈ BIG, w.before args s = true := hX.2.2.2.2
  have hl : lv_has ls 2 [(0, .ref (ga g 0)), (1, .int p0)] := hl
  unfold f_X11_runStack at hm
  refine lv_aload_n hx hb dX11_runStack_0 rfl (lv_at hl 0 rfl) ?_
  refine gf_0_0 hx hb ht hK hI mw_640 (fun _ h9 => h9) hown dX11_runStack_1 ?_
  refine gf_1_9 hx hb ht hK hI (v := σ 1 9) rfl mw_670 (fun _ h9 => h9) hown dX11_runStack_4 ?_
  refine lv_if_eq (tgt := 22) hx hb dX11_runStack_7 (by decide) (fun c1 => ?_) (fun c1 => ?_)
  · have hm := (if_pos c1).symm.trans hm
    refine lv_iconst (v := (-1)) hx hb dX11_runStack_22 (by decide) ?_
    exact hR _ _ _ _ _ _ hm hI dX11_runStack_23
  · have hm := (if_neg c1).symm.trans hm
    refine lv_iload_n hx hb dX11_runStack_10 rfl (lv_at hl 1 rfl) ?_
    refine lv_iconst (v := 1) hx hb dX11_runStack_11 (by decide) ?_
    refine lv_icmp_lt (tgt := 22) hx hb dX11_runStack_12 (by decide) (fun c2 => ?_) (fun c2 => ?_)
    · have hm := (if_pos c2).symm.trans hm
      refine lv_iconst (v := (-1)) hx hb dX11_runStack_22 (by decide) ?_
      exact hR _ _ _ _ _ _ hm hI dX11_runStack_23
    · have hm := (if_neg c2).symm.trans hm
      refine lv_iload_n hx hb dX11_runStack_15 rfl (lv_at hl 1 rfl) ?_
      refine lv_sipush (v := 20000) hx hb dX11_runStack_16 (by decide) ?_
      refine lv_icmp_le (tgt := 24) hx hb dX11_runStack_19 (by decide) (fun c3 => ?_) (fun c3 => ?_)
      · have hm := (if_pos c3).symm.trans hm
        refine lv_aload_n hx hb dX11_runStack_24 rfl (lv_at hl 0 rfl) ?_
        refine gf_0_3 hx hb ht hK hI mw_649 (fun _ h9 => h9) hown dX11_runStack_25 ?_
        refine lv_iload_n hx hb dX11_runStack_28 rfl (lv_at hl 1 rfl) ?_
        obtain ⟨r4, σ5, h6, hm⟩ := bd_some hm
        refine k_i hI hA (va_runU (As := [.int p0]) (rest := []) hX (c_X4_goOn_X8 N n h6 _) (va_cwU 1 ht (in_U mw_735 mw_736 mw_739 mw_738 mw_244 mw_382) rfl rfl rfl rfl (by decide +kernel) ⟨Nat.le_of_ble_eq_true rfl, Nat.le_of_ble_eq_true rfl⟩) ⟨q_blind, va_recv hK hI.1 (ci := 7) (q0 := 45) rfl rfl, q_to hI hK hN hZ hA⟩ rfl rfl hl.1 rfl (lv_room (Nat.le_of_ble_eq_true rfl)) dX11_runStack_29 (by decide)) (fun H locs hI => ?_)
        exact hR _ _ _ _ _ _ hm hI dX11_runStack_32
      · have hm := (if_neg c3).symm.trans hm
        refine lv_iconst (v := (-1)) hx hb dX11_runStack_22 (by decide) ?_
        exact hR _ _ _ _ _ _ hm hI dX11_runStack_23
