def lb_X3_find_20 (N n : Nat) (u2 : Int32) (K40 : (Sg → Int32 → Option (Int32 × Sg))) (rec : (Sg → Int32 → Option (Int32 × Sg))) (σ : Sg) (v3 : Int32) : Option (Int32 × Sg) := if u2 ≤ v3 then (K40 σ v3) else (bd (f_X3_growBackwards N n σ ) (fun r5 σ6 => if r5 = 0 then (some (0, σ6)) else (rec σ6 (v3 + 1))))
def lf_X3_find_20 (N n : Nat) (u2 : Int32) (K40 : (Sg → Int32 → Option (Int32 × Sg))) : Nat → (Sg → Int32 → Option (Int32 × Sg))
  | 0 => fun _ _ => none
  | k + 1 => lb_X3_find_20 N n u2 K40 (lf_X3_find_20 N n u2 K40 k)
def f_X3_find (N n : Nat) (σ : Sg)  : Option (Int32 × Sg) := bd (f_J7_fill_53178_30 N n σ 0) (fun r1 σ2 => lf_X3_find_20 N n (((σ2 13 6) * 22) + 1) (fun σ9 w10 => some (0, σ9)) N σ2 0)
set_option maxHeartbeats 4000000 in
set_option maxRecDepth 100000 in
theorem lp_X3_find_20 {p : Program} {l : Launch} {e : Env} {s : State} {m : MethodId} {args : Array Value} {below : List Frame} {meth : Method} {c : Code} {Q : State → Prop} {A : Nat → Prop} {g : GG} {q N n : Nat} {out : Int32 × Sg} {u2 : Int32} {K40 : (Sg → Int32 → Option (Int32 × Sg))}
    (hC : CXv p l e (qR 3 69) s m args below meth c cX3_find 4 RX3 g q n A Q (some out)) :
    ∀ (k : Nat) (σ : Sg) (v3 : Int32) (H : Heap) (locs : List Loc) (ls : Array Slot), lf_X3_find_20 N n u2 K40 k σ v3 = some out → wI g q n σ A s.heap H locs → lv_has ls 4 [(0, .ref (ga g 29)), (1, .ref (ga g 13)), (2, .int u2), (3, .int v3)] → (∀ (σ : Sg) (v3 : Int32) (H : Heap) (locs : List Loc) (ls : Array Slot), K40 σ v3 = some out → wI g q n σ A s.heap H locs → lv_has ls 4 [] → W p l e (qR 3 69) s m args below meth c H locs 0 0 Q (F0 m 40 ls [])) → W p l e (qR 3 69) s m args below meth c H locs 0 0 Q (F0 m 20 ls []) := by
  obtain ⟨hX, hK, hN, hZ, hA, hR⟩ := id hC
  have hx : p.tables.exec = Jvm.exec := hX.1
  have hb : c.code = cX3_find := hX.2.1
  have hml : c.maxLocals = 4 := hX.2.2.1
  have hown : s.vm.findClass RX3 = some m.cls := hX.2.2.2.1
  have ht : ∀ w ∈ BIG, w.before args s = true := hX.2.2.2.2
  intro k
  induction k with
  | zero =>
    intro σ v3 H locs ls hm
    have hm : none = some out := hm
    exact nomatch hm
  | succ k ih =>
    intro σ v3 H locs ls hm hI hl hx40
    have hm : lb_X3_find_20 N n u2 K40 (lf_X3_find_20 N n u2 K40 k) σ v3 = some out := hm
    unfold lb_X3_find_20 at hm
    refine lv_iload_n hx hb dX3_find_20 rfl (lv_at hl 3 rfl) ?_
    refine lv_iload_n hx hb dX3_find_21 rfl (lv_at hl 2 rfl) ?_
    refine lv_icmp_ge (tgt := 40) hx hb dX3_find_22 (by decide) (fun c4 => ?_) (fun c4 => ?_)
    · have hm := (if_pos c4).symm.trans hm
      exact hx40 σ v3 _ _ _ hm hI (lv_sub hl [] rfl)
    · have hm := (if_neg c4).symm.trans hm
      refine lv_aload_n hx hb dX3_find_25 rfl (lv_at hl 0 rfl) ?_
      refine lv_aload_n hx hb dX3_find_26 rfl (lv_at hl 1 rfl) ?_
      obtain ⟨r5, σ6, h7, hm⟩ := bd_some hm
      refine k_i hI hA (va_runV (As := [.ref (ga g 13)]) (rest := []) hX (c_X3_growBackwards N n h7 _) (cwV 1 ht (in_V mw_187 mw_188 mw_189 mw_190 mw_185) rfl rfl rfl pd_X3_growBackwards ⟨Nat.le_of_ble_eq_true rfl, Nat.le_of_ble_eq_true rfl⟩) ⟨q_blind, va_recv hK hI.1 (ci := 3) (q0 := 29) rfl rfl, q_to hI hK hN hZ hA⟩ rfl rfl hl.1 rfl (lv_room (Nat.le_of_ble_eq_true rfl)) dX3_find_27 (by decide)) (fun H locs hI => ?_)
      refine lv_if_ne (tgt := 34) hx hb dX3_find_30 (by decide) (fun c8 => ?_) (fun c8 => ?_)
      · have hm := (if_neg c8).symm.trans hm
        refine lv_iinc (v := v3 + 1) (lv' := [(3, .int (v3 + 1)), (0, .ref (ga g 29)), (1, .ref (ga g 13)), (2, .int u2)]) hx hb dX3_find_34 hl (k := 3) rfl (congrArg (fun z => v3 + z) (show Int32.ofInt 1 = 1 by decide)) (by decide) rfl (fun ls hl => ?_)
        refine lv_goto (tgt := 20) hx hb dX3_find_37 (by decide) ?_
        exact ih σ6 (v3 + 1) _ _ _ hm hI (lv_sub hl [1, 2, 3, 0] rfl) hx40
      · have hm := (if_pos c8).symm.trans hm
        exact hR _ _ _ _ _ hm hI dX3_find_33
set_option maxHeartbeats 4000000 in
set_option maxRecDepth 100000 in
theorem c_X3_find {l : Launch} {g : GG} {q : Nat} (N n : Nat) {σ : Sg}  {r : Int32} {σ' : Sg} (hm : f_X3_find N n σ  = some (r, σ')) : CTv l yX3_find cX3_find 4 none 3 69 g q n [.ref (ga g 29), .ref (ga g 13)] σ σ' := by
  refine e_v (r := r) (by decide) (Nat.le_of_ble_eq_true rfl) ?_
  intro p e s m args below meth c A Q ls hC hl hI
  obtain ⟨hX, hK, hN, hZ, hA, hR⟩ := id hC
  have hx : p.tables.exec = Jvm.exec := hX.1
  have hb : c.code = cX3_find := hX.2.1
  have hml : c.maxLocals = 4 := hX.2.2.1
  have hown : s.vm.findClass RX3 = some m.cls := hX.2.2.2.1
  have ht : ∀ w ∈ BIG, w.before args s = true := hX.2.2.2.2
  have hl : lv_has ls 4 [(0, .ref (ga g 29)), (1, .ref (ga g 13))] := hl
  unfold f_X3_find at hm
  refine lv_aload_n hx hb dX3_find_0 rfl (lv_at hl 0 rfl) ?_
  refine gf_29_0 hx hb ht hK hI mw_170 (fun _ h9 => h9) hown dX3_find_1 ?_
  refine lv_iconst (v := 0) hx hb dX3_find_4 (by decide) ?_
  obtain ⟨r1, σ2, h3, hm⟩ := bd_some hm
  refine k_v hI hA (va_runS (As := [.ref (ga g 30), .int 0]) (rest := []) hX (c_J7_fill_53178_30 N n h3 _) (va_cwS 2 ht (in_S mw_186 mw_118 mw_88 mw_115) rfl rfl rfl pd_J7_fill_53178 ⟨Nat.le_of_ble_eq_true rfl, Nat.le_of_ble_eq_true rfl⟩) ⟨q_blind, q_to hI hK hN hZ hA⟩ rfl rfl hl.1 rfl (lv_room (Nat.le_of_ble_eq_true rfl)) dX3_find_5 (by decide)) (fun H locs hI => ?_)
  refine lv_aload_n hx hb dX3_find_8 rfl (lv_at hl 1 rfl) ?_
  refine gf_13_6 hx hb ht hK hI (v := σ2 13 6) rfl mw_175 (fun _ h9 => h9) hown dX3_find_9 ?_
  refine lv_bipush (v := 22) hx hb dX3_find_12 (by decide) ?_
  refine lv_imul hx hb dX3_find_14 ?_
  refine lv_iconst (v := 1) hx hb dX3_find_15 (by decide) ?_
  refine lv_iadd hx hb dX3_find_16 ?_
  refine lv_istore_n (lv' := [(2, .int (((σ2 13 6) * 22) + 1)), (0, .ref (ga g 29)), (1, .ref (ga g 13))]) hx hb dX3_find_17 rfl hl (by decide) rfl (fun ls hl => ?_)
  refine lv_iconst (v := 0) hx hb dX3_find_18 (by decide) ?_
  refine lv_istore_n (lv' := [(3, .int 0), (2, .int (((σ2 13 6) * 22) + 1)), (0, .ref (ga g 29)), (1, .ref (ga g 13))]) hx hb dX3_find_19 rfl hl (by decide) rfl (fun ls hl => ?_)
  refine lp_X3_find_20 hC N _ _ _ _ _ hm hI (lv_sub hl [2, 3, 1, 0] rfl) ?_
  intro σ9 w10 H locs ls hm hI hl
  exact hR _ _ _ _ _ hm hI dX3_find_40
def f_X4_tell_X8 (N n : Nat) (σ : Sg) (p0 : Int32) : Option (Int32 × Sg) := if p0 = 0 then (some (σ 45 3, σ)) else (if p0 = 1 then (some (σ 45 4, σ)) else (if p0 = 2 then (some (σ 45 5, σ)) else (if p0 = 3 then (some (σ 45 6, σ)) else (if p0 = 4 then (some (σ 45 7, σ)) else (some ((-1), σ))))))
set_option maxHeartbeats 4000000 in
set_option maxRecDepth 100000 in
theorem c_X4_tell_X8 {l : Launch} {g : GG} {q : Nat} (N n : Nat) {σ : Sg} {p0 : Int32} {r : Int32} {σ' : Sg} (hm : f_X4_tell_X8 N n σ p0 = some (r, σ')) : CTi l yX4_tell cX4_tell 2 (some .int) 0 0 g q n [.ref (ga g 45), .int p0] σ r σ' := by
  refine e_i (r := r) (by decide) (Nat.le_of_ble_eq_true rfl) ?_
  intro p e s m args below meth c A Q ls hC hl hI
  obtain ⟨hX, hK, hN, hZ, hA, hR⟩ := id hC
  have hx : p.tables.exec = Jvm.exec := hX.1
  have hb : c.code = cX4_tell := hX.2.1
  have hml : c.maxLocals = 2 := hX.2.2.1
  have hown : s.vm.findClass RX4 = some m.cls := hX.2.2.2.1
  have ht : ∀ w ∈ BIG, w.before args s = true := hX.2.2.2.2
  have hl : lv_has ls 2 [(0, .ref (ga g 45)), (1, .int p0)] := hl
  unfold f_X4_tell_X8 at hm
  refine lv_iload_n hx hb dX4_tell_0 rfl (lv_at hl 1 rfl) ?_
  by_cases c1 : p0 = 0
  · have hm := (if_pos c1).symm.trans hm
    refine lv_tableIn (off := 35) (tgt := 36) hx hb dX4_tell_1 (by (rw [c1]; decide)) (by (rw [c1]; decide)) (by (rw [c1]; rfl)) (by decide) ?_
    refine lv_aload_n hx hb dX4_tell_36 rfl (lv_at hl 0 rfl) ?_
    refine gf_45_3 hx hb ht hK hI (v := σ 45 3) rfl mw_224 (fun _ h9 => h9) hown dX4_tell_37 ?_
    exact hR _ _ _ _ _ _ hm hI dX4_tell_40
  have hm := (if_neg c1).symm.trans hm
  by_cases c2 : p0 = 1
  · have hm := (if_pos c2).symm.trans hm
    refine lv_tableIn (off := 40) (tgt := 41) hx hb dX4_tell_1 (by (rw [c2]; decide)) (by (rw [c2]; decide)) (by (rw [c2]; rfl)) (by decide) ?_
    refine lv_aload_n hx hb dX4_tell_41 rfl (lv_at hl 0 rfl) ?_
    refine gf_45_4 hx hb ht hK hI (v := σ 45 4) rfl mw_225 (fun _ h9 => h9) hown dX4_tell_42 ?_
    exact hR _ _ _ _ _ _ hm hI dX4_tell_45
  have hm := (if_neg c2).symm.trans hm
  by_cases c3 : p0 = 2
  · have hm := (if_pos c3).symm.trans hm
    refine lv_tableIn (off := 45) (tgt := 46) hx hb dX4_tell_1 (by (rw [c3]; decide)) (by (rw [c3]; decide)) (by (rw [c3]; rfl)) (by decide) ?_
    refine lv_aload_n hx hb dX4_tell_46 rfl (lv_at hl 0 rfl) ?_
    refine gf_45_5 hx hb ht hK hI (v := σ 45 5) rfl mw_226 (fun _ h9 => h9) hown dX4_tell_47 ?_
    exact hR _ _ _ _ _ _ hm hI dX4_tell_50
  have hm := (if_neg c3).symm.trans hm
  by_cases c4 : p0 = 3
  · have hm := (if_pos c4).symm.trans hm
    refine lv_tableIn (off := 50) (tgt := 51) hx hb dX4_tell_1 (by (rw [c4]; decide)) (by (rw [c4]; decide)) (by (rw [c4]; rfl)) (by decide) ?_
    refine lv_aload_n hx hb dX4_tell_51 rfl (lv_at hl 0 rfl) ?_
    refine gf_45_6 hx hb ht hK hI (v := σ 45 6) rfl mw_227 (fun _ h9 => h9) hown dX4_tell_52 ?_
    exact hR _ _ _ _ _ _ hm hI dX4_tell_55
  have hm := (if_neg c4).symm.trans hm
  by_cases c5 : p0 = 4
  · have hm := (if_pos c5).symm.trans hm
    refine lv_tableIn (off := 55) (tgt := 56) hx hb dX4_tell_1 (by (rw [c5]; decide)) (by (rw [c5]; decide)) (by (rw [c5]; rfl)) (by decide) ?_
    refine lv_aload_n hx hb dX4_tell_56 rfl (lv_at hl 0 rfl) ?_
    refine gf_45_7 hx hb ht hK hI (v := σ 45 7) rfl mw_228 (fun _ h9 => h9) hown dX4_tell_57 ?_
    exact hR _ _ _ _ _ _ hm hI dX4_tell_60
  have hm := (if_neg c5).symm.trans hm
  refine sw_d (tgt := 61) hx hb [0, 1, 2, 3, 4] dX4_tell_1 (by decide) (by decide) (ne_c (lv_neT c1 (by decide)) (ne_c (lv_neT c2 (by decide)) (ne_c (lv_neT c3 (by decide)) (ne_c (lv_neT c4 (by decide)) (ne_c (lv_neT c5 (by decide)) ne_n))))) (by decide) ?_
  refine lv_iconst (v := (-1)) hx hb dX4_tell_61 (by decide) ?_
  exact hR _ _ _ _ _ _ hm hI dX4_tell_62
def f_X4_tell_X7 (N n : Nat) (σ : Sg) (p0 : Int32) : Option (Int32 × Sg) := if p0 = 0 then (some (σ 52 3, σ)) else (if p0 = 1 then (some (σ 52 4, σ)) else (if p0 = 2 then (some (σ 52 5, σ)) else (if p0 = 3 then (some (σ 52 6, σ)) else (if p0 = 4 then (some (σ 52 7, σ)) else (some ((-1), σ))))))
set_option maxHeartbeats 4000000 in
set_option maxRecDepth 100000 in
theorem c_X4_tell_X7 {l : Launch} {g : GG} {q : Nat} (N n : Nat) {σ : Sg} {p0 : Int32} {r : Int32} {σ' : Sg} (hm : f_X4_tell_X7 N n σ p0 = some (r, σ')) : CTi l yX4_tell cX4_tell 2 (some .int) 0 0 g q n [.ref (ga g 52), .int p0] σ r σ' := by
  refine e_i (r := r) (by decide) (Nat.le_of_ble_eq_true rfl) ?_
  intro p e s m args below meth c A Q ls hC hl hI
  obtain ⟨hX, hK, hN, hZ, hA, hR⟩ := id hC
  have hx : p.tables.exec = Jvm.exec := hX.1
  have hb : c.code = cX4_tell := hX.2.1
  have hml : c.maxLocals = 2 := hX.2.2.1
  have hown : s.vm.findClass RX4 = some m.cls := hX.2.2.2.1
  have ht : ∀ w ∈ BIG, w.before args s = true := hX.2.2.2.2
  have hl : lv_has ls 2 [(0, .ref (ga g 52)), (1, .int p0)] := hl
  unfold f_X4_tell_X7 at hm
  refine lv_iload_n hx hb dX4_tell_0 rfl (lv_at hl 1 rfl) ?_
  by_cases c1 : p0 = 0
  · have hm := (if_pos c1).symm.trans hm
    refine lv_tableIn (off := 35) (tgt := 36) hx hb dX4_tell_1 (by (rw [c1]; decide)) (by (rw [c1]; decide)) (by (rw [c1]; rfl)) (by decide) ?_
    refine lv_aload_n hx hb dX4_tell_36 rfl (lv_at hl 0 rfl) ?_
    refine gf_52_3 hx hb ht hK hI (v := σ 52 3) rfl mw_224 (fun _ h9 => h9) hown dX4_tell_37 ?_
    exact hR _ _ _ _ _ _ hm hI dX4_tell_40
  have hm := (if_neg c1).symm.trans hm
  by_cases c2 : p0 = 1
  · have hm := (if_pos c2).symm.trans hm
    refine lv_tableIn (off := 40) (tgt := 41) hx hb dX4_tell_1 (by (rw [c2]; decide)) (by (rw [c2]; decide)) (by (rw [c2]; rfl)) (by decide) ?_
    refine lv_aload_n hx hb dX4_tell_41 rfl (lv_at hl 0 rfl) ?_
    refine gf_52_4 hx hb ht hK hI (v := σ 52 4) rfl mw_225 (fun _ h9 => h9) hown dX4_tell_42 ?_
    exact hR _ _ _ _ _ _ hm hI dX4_tell_45
  have hm := (if_neg c2).symm.trans hm
  by_cases c3 : p0 = 2
  · have hm := (if_pos c3).symm.trans hm
    refine lv_tableIn (off := 45) (tgt := 46) hx hb dX4_tell_1 (by (rw [c3]; decide)) (by (rw [c3]; decide)) (by (rw [c3]; rfl)) (by decide) ?_
    refine lv_aload_n hx hb dX4_tell_46 rfl (lv_at hl 0 rfl) ?_
    refine gf_52_5 hx hb ht hK hI (v := σ 52 5) rfl mw_226 (fun _ h9 => h9) hown dX4_tell_47 ?_
    exact hR _ _ _ _ _ _ hm hI dX4_tell_50
  have hm := (if_neg c3).symm.trans hm
  by_cases c4 : p0 = 3
  · have hm := (if_pos c4).symm.trans hm
    refine lv_tableIn (off := 50) (tgt := 51) hx hb dX4_tell_1 (by (rw [c4]; decide)) (by (rw [c4]; decide)) (by (rw [c4]; rfl)) (by decide) ?_
    refine lv_aload_n hx hb dX4_tell_51 rfl (lv_at hl 0 rfl) ?_
    refine gf_52_6 hx hb ht hK hI (v := σ 52 6) rfl mw_227 (fun _ h9 => h9) hown dX4_tell_52 ?_
    exact hR _ _ _ _ _ _ hm hI dX4_tell_55
  have hm := (if_neg c4).symm.trans hm
  by_cases c5 : p0 = 4
  · have hm := (if_pos c5).symm.trans hm
    refine lv_tableIn (off := 55) (tgt := 56) hx hb dX4_tell_1 (by (rw [c5]; decide)) (by (rw [c5]; decide)) (by (rw [c5]; rfl)) (by decide) ?_
    refine lv_aload_n hx hb dX4_tell_56 rfl (lv_at hl 0 rfl) ?_
    refine gf_52_7 hx hb ht hK hI (v := σ 52 7) rfl mw_228 (fun _ h9 => h9) hown dX4_tell_57 ?_
    exact hR _ _ _ _ _ _ hm hI dX4_tell_60
  have hm := (if_neg c5).symm.trans hm
  refine sw_d (tgt := 61) hx hb [0, 1, 2, 3, 4] dX4_tell_1 (by decide) (by decide) (ne_c (lv_neT c1 (by decide)) (ne_c (lv_neT c2 (by decide)) (ne_c (lv_neT c3 (by decide)) (ne_c (lv_neT c4 (by decide)) (ne_c (lv_neT c5 (by decide)) ne_n))))) (by decide) ?_
  refine lv_iconst (v := (-1)) hx hb dX4_tell_61 (by decide) ?_
  exact hR _ _ _ _ _ _ hm hI dX4_tell_62
def f_X5_add (N n : Nat) (σ : Sg) (p0 : Int32) (p1 : Int32) (p2 : Int32) : Option (Int32 × Sg) := gb (σ 13 6) 300 (gb (σ 13 6) 300 (gb (σ 13 6) 300 (gb (σ 13 6) 300 (gb (σ 13 6) 300 (some (0, sg (sg (sg (sg (sg (sg σ 14 (ix (σ 13 6)) p0) 17 (ix (σ 13 6)) p1) 15 (ix (σ 13 6)) p2) 16 (ix (σ 13 6)) 0) 18 (ix (σ 13 6)) 0) 13 6 ((σ 13 6) + 1)))))))
set_option maxHeartbeats 4000000 in
set_option maxRecDepth 100000 in
theorem c_X5_add {l : Launch} {g : GG} {q : Nat} (N n : Nat) {σ : Sg} {p0 : Int32} {p1 : Int32} {p2 : Int32} {r : Int32} {σ' : Sg} (hm : f_X5_add N n σ p0 p1 p2 = some (r, σ')) : CTv l yX5_add cX5_add 4 none 0 0 g q n [.ref (ga g 13), .int p0, .int p1, .int p2] σ σ' := by
  refine e_v (r := r) (by decide) (Nat.le_of_ble_eq_true rfl) ?_
  intro p e s m args below meth c A Q ls hC hl hI
  obtain ⟨hX, hK, hN, hZ, hA, hR⟩ := id hC
  have hx : p.tables.exec = Jvm.exec := hX.1
  have hb : c.code = cX5_add := hX.2.1
  have hml : c.maxLocals = 4 := hX.2.2.1
  have hown : s.vm.findClass RX5 = some m.cls := hX.2.2.2.1
  have ht : ∀ w ∈ BIG, w.before args s = true := hX.2.2.2.2
  have hl : lv_has ls 4 [(0, .ref (ga g 13)), (1, .int p0), (2, .int p1), (3, .int p2)] := hl
  unfold f_X5_add at hm
  refine lv_aload_n hx hb dX5_add_0 rfl (lv_at hl 0 rfl) ?_
  refine gf_13_0 hx hb ht hK hI mw_133 (fun _ h9 => h9) hown dX5_add_1 ?_
  refine lv_aload_n hx hb dX5_add_4 rfl (lv_at hl 0 rfl) ?_
  refine gf_13_6 hx hb ht hK hI (v := σ 13 6) rfl mw_173 (fun _ h9 => h9) hown dX5_add_5 ?_
  refine lv_iload_n hx hb dX5_add_8 rfl (lv_at hl 1 rfl) ?_
  obtain ⟨g1, hm⟩ := gb_some hm
  refine sv_14 hx hb hK hI g1 dX5_add_9 (fun H locs hI => ?_)
  refine lv_aload_n hx hb dX5_add_10 rfl (lv_at hl 0 rfl) ?_
  refine gf_13_3 hx hb ht hK hI mw_134 (fun _ h9 => h9) hown dX5_add_11 ?_
  refine lv_aload_n hx hb dX5_add_14 rfl (lv_at hl 0 rfl) ?_
  refine gf_13_6 hx hb ht hK hI (v := σ 13 6) rfl mw_173 (fun _ h9 => h9) hown dX5_add_15 ?_
  refine lv_iload_n hx hb dX5_add_18 rfl (lv_at hl 2 rfl) ?_
  obtain ⟨g2, hm⟩ := gb_some hm
  refine sv_17 hx hb hK hI g2 dX5_add_19 (fun H locs hI => ?_)
  refine lv_aload_n hx hb dX5_add_20 rfl (lv_at hl 0 rfl) ?_
  refine gf_13_1 hx hb ht hK hI mw_386 (fun _ h9 => h9) hown dX5_add_21 ?_
  refine lv_aload_n hx hb dX5_add_24 rfl (lv_at hl 0 rfl) ?_
  refine gf_13_6 hx hb ht hK hI (v := σ 13 6) rfl mw_173 (fun _ h9 => h9) hown dX5_add_25 ?_
  refine lv_iload_n hx hb dX5_add_28 rfl (lv_at hl 3 rfl) ?_
  obtain ⟨g3, hm⟩ := gb_some hm
  refine sv_15 hx hb hK hI g3 dX5_add_29 (fun H locs hI => ?_)
  refine lv_aload_n hx hb dX5_add_30 rfl (lv_at hl 0 rfl) ?_
  refine gf_13_2 hx hb ht hK hI mw_387 (fun _ h9 => h9) hown dX5_add_31 ?_
  refine lv_aload_n hx hb dX5_add_34 rfl (lv_at hl 0 rfl) ?_
  refine gf_13_6 hx hb ht hK hI (v := σ 13 6) rfl mw_173 (fun _ h9 => h9) hown dX5_add_35 ?_
  refine lv_iconst (v := 0) hx hb dX5_add_38 (by decide) ?_
  obtain ⟨g4, hm⟩ := gb_some hm
  refine sv_16 hx hb hK hI g4 dX5_add_39 (fun H locs hI => ?_)
  refine lv_aload_n hx hb dX5_add_40 rfl (lv_at hl 0 rfl) ?_
  refine gf_13_4 hx hb ht hK hI mw_120 (fun _ h9 => h9) hown dX5_add_41 ?_
  refine lv_aload_n hx hb dX5_add_44 rfl (lv_at hl 0 rfl) ?_
  refine gf_13_6 hx hb ht hK hI (v := σ 13 6) rfl mw_173 (fun _ h9 => h9) hown dX5_add_45 ?_
  refine lv_iconst (v := 0) hx hb dX5_add_48 (by decide) ?_
  obtain ⟨g5, hm⟩ := gb_some hm
  refine sv_18 hx hb hK hI g5 dX5_add_49 (fun H locs hI => ?_)
  refine lv_aload_n hx hb dX5_add_50 rfl (lv_at hl 0 rfl) ?_
  refine lv_dup hx hb dX5_add_51 rfl ?_
  refine gf_13_6 hx hb ht hK hI (v := σ 13 6) rfl mw_173 (fun _ h9 => h9) hown dX5_add_52 ?_
  refine lv_iconst (v := 1) hx hb dX5_add_55 (by decide) ?_
  refine lv_iadd hx hb dX5_add_56 ?_
  refine pf_13_6 hx hb ht hK hI mw_173 (fun _ h9 => h9) hown dX5_add_57 (fun H locs hI => ?_)
  exact hR _ _ _ _ _ hm hI dX5_add_60
def f_X5_addRead (N n : Nat) (σ : Sg) (p0 : Int32) : Option (Int32 × Sg) := gb ((σ 13 6) - 1) 300 (gb (σ 18 (ix ((σ 13 6) - 1))) 6 (gb ((σ 13 6) - 1) 300 (gb ((σ 13 6) - 1) 300 (gb ((σ 13 6) - 1) 300 (some (0, sg (sg σ 19 (ix ((σ 13 6) - 1) * 6 + ix (σ 18 (ix ((σ 13 6) - 1)))) p0) 18 (ix ((σ 13 6) - 1)) ((σ 18 (ix ((σ 13 6) - 1))) + 1)))))))
set_option maxHeartbeats 4000000 in
set_option maxRecDepth 100000 in
theorem c_X5_addRead {l : Launch} {g : GG} {q : Nat} (N n : Nat) {σ : Sg} {p0 : Int32} {r : Int32} {σ' : Sg} (hm : f_X5_addRead N n σ p0 = some (r, σ')) : CTv l yX5_addRead cX5_addRead 3 none 0 0 g q n [.ref (ga g 13), .int p0] σ σ' := by
  refine e_v (r := r) (by decide) (Nat.le_of_ble_eq_true rfl) ?_
  intro p e s m args below meth c A Q ls hC hl hI
  obtain ⟨hX, hK, hN, hZ, hA, hR⟩ := id hC
  have hx : p.tables.exec = Jvm.exec := hX.1
  have hb : c.code = cX5_addRead := hX.2.1
  have hml : c.maxLocals = 3 := hX.2.2.1
  have hown : s.vm.findClass RX5 = some m.cls := hX.2.2.2.1
  have ht : ∀ w ∈ BIG, w.before args s = true := hX.2.2.2.2
  have hl : lv_has ls 3 [(0, .ref (ga g 13)), (1, .int p0)] := hl
  unfold f_X5_addRead at hm
  refine lv_aload_n hx hb dX5_addRead_0 rfl (lv_at hl 0 rfl) ?_
  refine gf_13_6 hx hb ht hK hI (v := σ 13 6) rfl mw_173 (fun _ h9 => h9) hown dX5_addRead_1 ?_
  refine lv_iconst (v := 1) hx hb dX5_addRead_4 (by decide) ?_
  refine lv_isub hx hb dX5_addRead_5 ?_
  refine lv_istore_n (lv' := [(2, .int ((σ 13 6) - 1)), (0, .ref (ga g 13)), (1, .int p0)]) hx hb dX5_addRead_6 rfl hl (by decide) rfl (fun ls hl => ?_)
  refine lv_aload_n hx hb dX5_addRead_7 rfl (lv_at hl 1 rfl) ?_
  refine gf_13_5 hx hb ht hK hI mw_121 (fun _ h9 => h9) hown dX5_addRead_8 ?_
  refine lv_aload_n hx hb dX5_addRead_11 rfl (lv_at hl 1 rfl) ?_
  refine gf_13_4 hx hb ht hK hI mw_120 (fun _ h9 => h9) hown dX5_addRead_12 ?_
  refine lv_iload_n hx hb dX5_addRead_15 rfl (lv_at hl 0 rfl) ?_
  obtain ⟨g1, hm⟩ := gb_some hm
  refine ld_18 hx hb hK hI g1 (v := σ 18 (ix ((σ 13 6) - 1))) rfl dX5_addRead_16 ?_
  obtain ⟨g2, hm⟩ := gb_some hm
  refine ld_19 hx hb hK hI g2 dX5_addRead_17 ?_
  refine lv_iload_n hx hb dX5_addRead_18 rfl (lv_at hl 0 rfl) ?_
  refine lv_iload_n hx hb dX5_addRead_19 rfl (lv_at hl 2 rfl) ?_
  obtain ⟨g3, hm⟩ := gb_some hm
  refine sv_rd hx hb hK hI g2 g3 dX5_addRead_20 (fun H locs hI => ?_)
  refine lv_aload_n hx hb dX5_addRead_21 rfl (lv_at hl 1 rfl) ?_
  refine gf_13_4 hx hb ht hK hI mw_120 (fun _ h9 => h9) hown dX5_addRead_22 ?_
  refine lv_iload_n hx hb dX5_addRead_25 rfl (lv_at hl 0 rfl) ?_
  refine lv_dup2_11 hx hb dX5_addRead_26 rfl rfl ?_
  obtain ⟨g4, hm⟩ := gb_some hm
  refine ld_18 hx hb hK hI g4 (v := σ 18 (ix ((σ 13 6) - 1))) rfl dX5_addRead_27 ?_
  refine lv_iconst (v := 1) hx hb dX5_addRead_28 (by decide) ?_
  refine lv_iadd hx hb dX5_addRead_29 ?_
  obtain ⟨g5, hm⟩ := gb_some hm
  refine sv_18 hx hb hK hI g5 dX5_addRead_30 (fun H locs hI => ?_)
  exact hR _ _ _ _ _ hm hI dX5_addRead_31
def lb_X5_addCall_13 (N n : Nat) (u2 : Int32) (u3 : Int32) (K35 : (Sg → Int32 → Option (Int32 × Sg))) (rec : (Sg → Int32 → Option (Int32 × Sg))) (σ : Sg) (v4 : Int32) : Option (Int32 × Sg) := if u3 ≤ v4 then (K35 σ v4) else (bd (f_X5_addRead N n σ ((u2 - u3) + v4)) (fun r5 σ6 => rec σ6 (v4 + 1)))
def lf_X5_addCall_13 (N n : Nat) (u2 : Int32) (u3 : Int32) (K35 : (Sg → Int32 → Option (Int32 × Sg))) : Nat → (Sg → Int32 → Option (Int32 × Sg))
  | 0 => fun _ _ => none
  | k + 1 => lb_X5_addCall_13 N n u2 u3 K35 (lf_X5_addCall_13 N n u2 u3 K35 k)
def f_X5_addCall (N n : Nat) (σ : Sg) (p0 : Int32) (p1 : Int32) (p2 : Int32) : Option (Int32 × Sg) := bd (f_X5_add N n σ 13 (p1 - p2) p0) (fun r1 σ2 => lf_X5_addCall_13 N n p1 p2 (fun σ8 w9 => some (0, σ8)) N σ2 0)
set_option maxHeartbeats 4000000 in
set_option maxRecDepth 100000 in
theorem lp_X5_addCall_13 {p : Program} {l : Launch} {e : Env} {s : State} {m : MethodId} {args : Array Value} {below : List Frame} {meth : Method} {c : Code} {Q : State → Prop} {A : Nat → Prop} {g : GG} {q N n : Nat} {out : Int32 × Sg} {u2 : Int32} {u3 : Int32} {K35 : (Sg → Int32 → Option (Int32 × Sg))}
    (hC : CXv p l e (qR 1 23) s m args below meth c cX5_addCall 5 RX5 g q n A Q (some out)) :
    ∀ (k : Nat) (σ : Sg) (v4 : Int32) (H : Heap) (locs : List Loc) (ls : Array Slot), lf_X5_addCall_13 N n u2 u3 K35 k σ v4 = some out → wI g q n σ A s.heap H locs → lv_has ls 5 [(0, .ref (ga g 13)), (2, .int u2), (3, .int u3), (4, .int v4)] → (∀ (σ : Sg) (v4 : Int32) (H : Heap) (locs : List Loc) (ls : Array Slot), K35 σ v4 = some out → wI g q n σ A s.heap H locs → lv_has ls 5 [] → W p l e (qR 1 23) s m args below meth c H locs 0 0 Q (F0 m 35 ls [])) → W p l e (qR 1 23) s m args below meth c H locs 0 0 Q (F0 m 13 ls []) := by
  obtain ⟨hX, hK, hN, hZ, hA, hR⟩ := id hC
  have hx : p.tables.exec = Jvm.exec := hX.1
  have hb : c.code = cX5_addCall := hX.2.1
  have hml : c.maxLocals = 5 := hX.2.2.1
  have hown : s.vm.findClass RX5 = some m.cls := hX.2.2.2.1
  have ht : ∀ w ∈ BIG, w.before args s = true := hX.2.2.2.2
  intro k
  induction k with
  | zero =>
    intro σ v4 H locs ls hm
    have hm : none = some out := hm
    exact nomatch hm
  | succ k ih =>
    intro σ v4 H locs ls hm hI hl hx35
    have hm : lb_X5_addCall_13 N n u2 u3 K35 (lf_X5_addCall_13 N n u2 u3 K35 k) σ v4 = some out := hm
    unfold lb_X5_addCall_13 at hm
    refine lv_iload hx hb dX5_addCall_13 (lv_at hl 3 rfl) ?_
    refine lv_iload_n hx hb dX5_addCall_15 rfl (lv_at hl 2 rfl) ?_
    refine lv_icmp_ge (tgt := 35) hx hb dX5_addCall_16 (by decide) (fun c4 => ?_) (fun c4 => ?_)
    · have hm := (if_pos c4).symm.trans hm
      exact hx35 σ v4 _ _ _ hm hI (lv_sub hl [] rfl)
    · have hm := (if_neg c4).symm.trans hm
      refine lv_aload_n hx hb dX5_addCall_19 rfl (lv_at hl 0 rfl) ?_
      refine lv_iload_n hx hb dX5_addCall_20 rfl (lv_at hl 1 rfl) ?_
      refine lv_iload_n hx hb dX5_addCall_21 rfl (lv_at hl 2 rfl) ?_
      refine lv_isub hx hb dX5_addCall_22 ?_
      refine lv_iload hx hb dX5_addCall_23 (lv_at hl 3 rfl) ?_
      refine lv_iadd hx hb dX5_addCall_25 ?_
      obtain ⟨r5, σ6, h7, hm⟩ := bd_some hm
      refine k_v hI hA (va_runV (As := [.int ((u2 - u3) + v4)]) (rest := []) hX (c_X5_addRead N n h7 _) (cwV 1 ht (in_V mw_398 mw_399 mw_400 mw_138 mw_393) rfl rfl rfl pd_X5_addRead ⟨Nat.le_of_ble_eq_true rfl, Nat.le_of_ble_eq_true rfl⟩) ⟨q_blind, va_recv hK hI.1 (ci := 4) (q0 := 13) rfl rfl, q_to hI hK hN hZ hA⟩ rfl rfl hl.1 rfl (lv_room (Nat.le_of_ble_eq_true rfl)) dX5_addCall_26 (by decide)) (fun H locs hI => ?_)
      refine lv_iinc (v := v4 + 1) (lv' := [(4, .int (v4 + 1)), (0, .ref (ga g 13)), (2, .int u2), (3, .int u3)]) hx hb dX5_addCall_29 hl (k := 3) rfl (congrArg (fun z => v4 + z) (show Int32.ofInt 1 = 1 by decide)) (by decide) rfl (fun ls hl => ?_)
      refine lv_goto (tgt := 13) hx hb dX5_addCall_32 (by decide) ?_
      exact ih σ6 (v4 + 1) _ _ _ hm hI (lv_sub hl [1, 2, 3, 0] rfl) hx35
set_option maxHeartbeats 4000000 in
set_option maxRecDepth 100000 in
theorem c_X5_addCall {l : Launch} {g : GG} {q : Nat} (N n : Nat) {σ : Sg} {p0 : Int32} {p1 : Int32} {p2 : Int32} {r : Int32} {σ' : Sg} (hm : f_X5_addCall N n σ p0 p1 p2 = some (r, σ')) : CTv l yX5_addCall cX5_addCall 5 none 1 23 g q n [.ref (ga g 13), .int p0, .int p1, .int p2] σ σ' := by
  refine e_v (r := r) (by decide) (Nat.le_of_ble_eq_true rfl) ?_
  intro p e s m args below meth c A Q ls hC hl hI
  obtain ⟨hX, hK, hN, hZ, hA, hR⟩ := id hC
  have hx : p.tables.exec = Jvm.exec := hX.1
  have hb : c.code = cX5_addCall := hX.2.1
  have hml : c.maxLocals = 5 := hX.2.2.1
  have hown : s.vm.findClass RX5 = some m.cls := hX.2.2.2.1
  have ht : ∀ w ∈ BIG, w.before args s = true := hX.2.2.2.2
  have hl : lv_has ls 5 [(0, .ref (ga g 13)), (1, .int p0), (2, .int p1), (3, .int p2)] := hl
  unfold f_X5_addCall at hm
  refine lv_aload_n hx hb dX5_addCall_0 rfl (lv_at hl 0 rfl) ?_
  refine lv_bipush (v := 13) hx hb dX5_addCall_1 (by decide) ?_
  refine lv_iload_n hx hb dX5_addCall_3 rfl (lv_at hl 2 rfl) ?_
  refine lv_iload_n hx hb dX5_addCall_4 rfl (lv_at hl 3 rfl) ?_
  refine lv_isub hx hb dX5_addCall_5 ?_
  refine lv_iload_n hx hb dX5_addCall_6 rfl (lv_at hl 1 rfl) ?_
  obtain ⟨r1, σ2, h3, hm⟩ := bd_some hm
  refine k_v hI hA (va_runV (As := [.int 13, .int (p1 - p2), .int p0]) (rest := []) hX (c_X5_add N n h3 _) (cwV 3 ht (in_V mw_395 mw_396 mw_397 mw_138 mw_392) rfl rfl rfl pd_X5_add ⟨Nat.le_of_ble_eq_true rfl, Nat.le_of_ble_eq_true rfl⟩) ⟨q_blind, va_recv hK hI.1 (ci := 4) (q0 := 13) rfl rfl, q_to hI hK hN hZ hA⟩ rfl rfl hl.1 rfl (lv_room (Nat.le_of_ble_eq_true rfl)) dX5_addCall_7 (by decide)) (fun H locs hI => ?_)
  refine lv_iconst (v := 0) hx hb dX5_addCall_10 (by decide) ?_
  refine lv_istore (lv' := [(4, .int 0), (0, .ref (ga g 13)), (1, .int p0), (2, .int p1), (3, .int p2)]) hx hb dX5_addCall_11 hl (by decide) rfl (fun ls hl => ?_)
  refine lp_X5_addCall_13 hC N _ _ _ _ _ hm hI (lv_sub hl [1, 3, 4, 0] rfl) ?_
  intro σ8 w9 H locs ls hm hI hl
  exact hR _ _ _ _ _ hm hI dX5_addCall_35
def f_X5_addReading (N n : Nat) (σ : Sg) (p0 : Int32) (p1 : Int32) (p2 : Int32) : Option (Int32 × Sg) := bd (f_X5_add N n σ p0 p1 0) (fun r1 σ2 => bd (f_X5_addRead N n σ2 p2) (fun r4 σ5 => some (0, σ5)))
set_option maxHeartbeats 4000000 in
set_option maxRecDepth 100000 in
theorem c_X5_addReading {l : Launch} {g : GG} {q : Nat} (N n : Nat) {σ : Sg} {p0 : Int32} {p1 : Int32} {p2 : Int32} {r : Int32} {σ' : Sg} (hm : f_X5_addReading N n σ p0 p1 p2 = some (r, σ')) : CTv l yX5_addReading cX5_addReading 4 none 1 23 g q n [.ref (ga g 13), .int p0, .int p1, .int p2] σ σ' := by
  refine e_v (r := r) (by decide) (Nat.le_of_ble_eq_true rfl) ?_
  intro p e s m args below meth c A Q ls hC hl hI
  obtain ⟨hX, hK, hN, hZ, hA, hR⟩ := id hC
  have hx : p.tables.exec = Jvm.exec := hX.1
  have hb : c.code = cX5_addReading := hX.2.1
  have hml : c.maxLocals = 4 := hX.2.2.1
  have hown : s.vm.findClass RX5 = some m.cls := hX.2.2.2.1
  have ht : ∀ w ∈ BIG, w.before args s = true := hX.2.2.2.2
  have hl : lv_has ls 4 [(0, .ref (ga g 13)), (1, .int p0), (2, .int p1), (3, .int p2)] := hl
  unfold f_X5_addReading at hm
  refine lv_aload_n hx hb dX5_addReading_0 rfl (lv_at hl 0 rfl) ?_
  refine lv_iload_n hx hb dX5_addReading_1 rfl (lv_at hl 1 rfl) ?_
  refine lv_iload_n hx hb dX5_addReading_2 rfl (lv_at hl 2 rfl) ?_
  refine lv_iconst (v := 0) hx hb dX5_addReading_3 (by decide) ?_
  obtain ⟨r1, σ2, h3, hm⟩ := bd_some hm
  refine k_v hI hA (va_runV (As := [.int p0, .int p1, .int 0]) (rest := []) hX (c_X5_add N n h3 _) (cwV 3 ht (in_V mw_395 mw_396 mw_397 mw_138 mw_392) rfl rfl rfl pd_X5_add ⟨Nat.le_of_ble_eq_true rfl, Nat.le_of_ble_eq_true rfl⟩) ⟨q_blind, va_recv hK hI.1 (ci := 4) (q0 := 13) rfl rfl, q_to hI hK hN hZ hA⟩ rfl rfl hl.1 rfl (lv_room (Nat.le_of_ble_eq_true rfl)) dX5_addReading_4 (by decide)) (fun H locs hI => ?_)
  refine lv_aload_n hx hb dX5_addReading_7 rfl (lv_at hl 0 rfl) ?_
  refine lv_iload_n hx hb dX5_addReading_8 rfl (lv_at hl 3 rfl) ?_
  obtain ⟨r4, σ5, h6, hm⟩ := bd_some hm
  refine k_v hI hA (va_runV (As := [.int p2]) (rest := []) hX (c_X5_addRead N n h6 _) (cwV 1 ht (in_V mw_398 mw_399 mw_400 mw_138 mw_393) rfl rfl rfl pd_X5_addRead ⟨Nat.le_of_ble_eq_true rfl, Nat.le_of_ble_eq_true rfl⟩) ⟨q_blind, va_recv hK hI.1 (ci := 4) (q0 := 13) rfl rfl, q_to hI hK hN hZ hA⟩ rfl rfl hl.1 rfl (lv_room (Nat.le_of_ble_eq_true rfl)) dX5_addReading_9 (by decide)) (fun H locs hI => ?_)
  exact hR _ _ _ _ _ hm hI dX5_addReading_12
def lb_X5_aimAnew_2 (N n : Nat)  (K41 : (Sg → Int32 → Option (Int32 × Sg))) (rec : (Sg → Int32 → Option (Int32 × Sg))) (σ : Sg) (v1 : Int32) : Option (Int32 × Sg) := if (σ 13 6) ≤ v1 then (K41 σ v1) else (bd (f_X5_jumps N n σ v1) (fun r2 σ3 => if r2 = 0 then (rec σ3 (v1 + 1)) else (gb v1 300 (gb (σ3 16 (ix v1)) 300 (gb v1 300 (rec (sg σ3 16 (ix v1) (σ3 26 (ix (σ3 16 (ix v1))))) (v1 + 1)))))))
def lf_X5_aimAnew_2 (N n : Nat)  (K41 : (Sg → Int32 → Option (Int32 × Sg))) : Nat → (Sg → Int32 → Option (Int32 × Sg))
  | 0 => fun _ _ => none
  | k + 1 => lb_X5_aimAnew_2 N n  K41 (lf_X5_aimAnew_2 N n  K41 k)
def f_X5_aimAnew (N n : Nat) (σ : Sg)  : Option (Int32 × Sg) := lf_X5_aimAnew_2 N n  (fun σ9 w10 => some (0, σ9)) N σ 0
set_option maxHeartbeats 4000000 in
set_option maxRecDepth 100000 in
theorem lp_X5_aimAnew_2 {p : Program} {l : Launch} {e : Env} {s : State} {m : MethodId} {args : Array Value} {below : List Frame} {meth : Method} {c : Code} {Q : State → Prop} {A : Nat → Prop} {g : GG} {q N n : Nat} {out : Int32 × Sg}  {K41 : (Sg → Int32 → Option (Int32 × Sg))}
    (hC : CXv p l e (qR 1 21) s m args below meth c cX5_aimAnew 2 RX5 g q n A Q (some out)) :
    ∀ (k : Nat) (σ : Sg) (v1 : Int32) (H : Heap) (locs : List Loc) (ls : Array Slot), lf_X5_aimAnew_2 N n  K41 k σ v1 = some out → wI g q n σ A s.heap H locs → lv_has ls 2 [(0, .ref (ga g 13)), (1, .int v1)] → (∀ (σ : Sg) (v1 : Int32) (H : Heap) (locs : List Loc) (ls : Array Slot), K41 σ v1 = some out → wI g q n σ A s.heap H locs → lv_has ls 2 [] → W p l e (qR 1 21) s m args below meth c H locs 0 0 Q (F0 m 41 ls [])) → W p l e (qR 1 21) s m args below meth c H locs 0 0 Q (F0 m 2 ls []) := by
  obtain ⟨hX, hK, hN, hZ, hA, hR⟩ := id hC
  have hx : p.tables.exec = Jvm.exec := hX.1
  have hb : c.code = cX5_aimAnew := hX.2.1
  have hml : c.maxLocals = 2 := hX.2.2.1
  have hown : s.vm.findClass RX5 = some m.cls := hX.2.2.2.1
  have ht : ∀ w ∈ BIG, w.before args s = true := hX.2.2.2.2
  intro k
  induction k with
  | zero =>
    intro σ v1 H locs ls hm
    have hm : none = some out := hm
    exact nomatch hm
  | succ k ih =>
    intro σ v1 H locs ls hm hI hl hx41
    have hm : lb_X5_aimAnew_2 N n  K41 (lf_X5_aimAnew_2 N n  K41 k) σ v1 = some out := hm
    unfold lb_X5_aimAnew_2 at hm
    refine lv_iload_n hx hb dX5_aimAnew_2 rfl (lv_at hl 1 rfl) ?_
    refine lv_aload_n hx hb dX5_aimAnew_3 rfl (lv_at hl 0 rfl) ?_
    refine gf_13_6 hx hb ht hK hI (v := σ 13 6) rfl mw_173 (fun _ h9 => h9) hown dX5_aimAnew_4 ?_
    refine lv_icmp_ge (tgt := 41) hx hb dX5_aimAnew_7 (by decide) (fun c1 => ?_) (fun c1 => ?_)
    · have hm := (if_pos c1).symm.trans hm
      exact hx41 σ v1 _ _ _ hm hI (lv_sub hl [] rfl)
    · have hm := (if_neg c1).symm.trans hm
      refine lv_aload_n hx hb dX5_aimAnew_10 rfl (lv_at hl 0 rfl) ?_
      refine lv_iload_n hx hb dX5_aimAnew_11 rfl (lv_at hl 1 rfl) ?_
      obtain ⟨r2, σ3, h4, hm⟩ := bd_some hm
      refine k_i hI hA (va_runV (As := [.int v1]) (rest := []) hX (c_X5_jumps N n h4 _) (cwV 1 ht (in_V mw_414 mw_181 mw_182 mw_138 mw_174) rfl rfl rfl pd_X5_jumps ⟨Nat.le_of_ble_eq_true rfl, Nat.le_of_ble_eq_true rfl⟩) ⟨q_blind, va_recv hK hI.1 (ci := 4) (q0 := 13) rfl rfl, q_to hI hK hN hZ hA⟩ rfl rfl hl.1 rfl (lv_room (Nat.le_of_ble_eq_true rfl)) dX5_aimAnew_12 (by decide)) (fun H locs hI => ?_)
      refine lv_if_eq (tgt := 35) hx hb dX5_aimAnew_15 (by decide) (fun c5 => ?_) (fun c5 => ?_)
      · have hm := (if_pos c5).symm.trans hm
        refine lv_iinc (v := v1 + 1) (lv' := [(1, .int (v1 + 1)), (0, .ref (ga g 13))]) hx hb dX5_aimAnew_35 hl (k := 1) rfl (congrArg (fun z => v1 + z) (show Int32.ofInt 1 = 1 by decide)) (by decide) rfl (fun ls hl => ?_)
        refine lv_goto (tgt := 2) hx hb dX5_aimAnew_38 (by decide) ?_
        exact ih σ3 (v1 + 1) _ _ _ hm hI (lv_sub hl [1, 0] rfl) hx41
      · have hm := (if_neg c5).symm.trans hm
        refine lv_aload_n hx hb dX5_aimAnew_18 rfl (lv_at hl 0 rfl) ?_
        refine gf_13_2 hx hb ht hK hI mw_387 (fun _ h9 => h9) hown dX5_aimAnew_19 ?_
        refine lv_iload_n hx hb dX5_aimAnew_22 rfl (lv_at hl 1 rfl) ?_
        refine lv_aload_n hx hb dX5_aimAnew_23 rfl (lv_at hl 0 rfl) ?_
        refine gf_13_7 hx hb ht hK hI mw_389 (fun _ h9 => h9) hown dX5_aimAnew_24 ?_
        refine lv_aload_n hx hb dX5_aimAnew_27 rfl (lv_at hl 0 rfl) ?_
        refine gf_13_2 hx hb ht hK hI mw_387 (fun _ h9 => h9) hown dX5_aimAnew_28 ?_
        refine lv_iload_n hx hb dX5_aimAnew_31 rfl (lv_at hl 1 rfl) ?_
        obtain ⟨g6, hm⟩ := gb_some hm
        refine ld_16 hx hb hK hI g6 (v := σ3 16 (ix v1)) rfl dX5_aimAnew_32 ?_
        obtain ⟨g7, hm⟩ := gb_some hm
        refine ld_26 hx hb hK hI g7 (v := σ3 26 (ix (σ3 16 (ix v1)))) rfl dX5_aimAnew_33 ?_
        obtain ⟨g8, hm⟩ := gb_some hm
        refine sv_16 hx hb hK hI g8 dX5_aimAnew_34 (fun H locs hI => ?_)
        refine lv_iinc (v := v1 + 1) (lv' := [(1, .int (v1 + 1)), (0, .ref (ga g 13))]) hx hb dX5_aimAnew_35 hl (k := 1) rfl (congrArg (fun z => v1 + z) (show Int32.ofInt 1 = 1 by decide)) (by decide) rfl (fun ls hl => ?_)
        refine lv_goto (tgt := 2) hx hb dX5_aimAnew_38 (by decide) ?_
        exact ih (sg σ3 16 (ix v1) (σ3 26 (ix (σ3 16 (ix v1))))) (v1 + 1) _ _ _ hm hI (lv_sub hl [1, 0] rfl) hx41
set_option maxHeartbeats 4000000 in
set_option maxRecDepth 100000 in
theorem c_X5_aimAnew {l : Launch} {g : GG} {q : Nat} (N n : Nat) {σ : Sg}  {r : Int32} {σ' : Sg} (hm : f_X5_aimAnew N n σ  = some (r, σ')) : CTv l yX5_aimAnew cX5_aimAnew 2 none 1 21 g q n [.ref (ga g 13)] σ σ' := by
  refine e_v (r := r) (by decide) (Nat.le_of_ble_eq_true rfl) ?_
  intro p e s m args below meth c A Q ls hC hl hI
  obtain ⟨hX, hK, hN, hZ, hA, hR⟩ := id hC
  have hx : p.tables.exec = Jvm.exec := hX.1
  have hb : c.code = cX5_aimAnew := hX.2.1
  have hml : c.maxLocals = 2 := hX.2.2.1
  have hown : s.vm.findClass RX5 = some m.cls := hX.2.2.2.1
  have ht : ∀ w ∈ BIG, w.before args s = true := hX.2.2.2.2
  have hl : lv_has ls 2 [(0, .ref (ga g 13))] := hl
  unfold f_X5_aimAnew at hm
  refine lv_iconst (v := 0) hx hb dX5_aimAnew_0 (by decide) ?_
  refine lv_istore_n (lv' := [(1, .int 0), (0, .ref (ga g 13))]) hx hb dX5_aimAnew_1 rfl hl (by decide) rfl (fun ls hl => ?_)
  refine lp_X5_aimAnew_2 hC N _ _ _ _ _ hm hI (lv_sub hl [1, 0] rfl) ?_
  intro σ9 w10 H locs ls hm hI hl
  exact hR _ _ _ _ _ hm hI dX5_aimAnew_41
def f_X5_become (N n : Nat) (σ : Sg) (p1 : Int32) (p2 : Int32) : Option (Int32 × Sg) := gb p1 300 (gb p1 300 (gb p1 300 (if (σ 6 (ix p1)) = 0 then (bd (f_X5_add N n σ 0 (p2 + (σ 8 (ix p1))) (σ 7 (ix p1))) (fun r5 σ6 => some (0, σ6))) else (if (σ 6 (ix p1)) = 1 then (bd (f_X5_addReading N n σ 1 (p2 + (σ 8 (ix p1))) (σ 7 (ix p1))) (fun r9 σ10 => some (0, σ10))) else (if (σ 6 (ix p1)) = 2 then (bd (f_X5_addReading N n σ 1 (σ 7 (ix p1)) ((p2 + (σ 8 (ix p1))) - 1)) (fun r13 σ14 => some (0, σ14))) else (if (σ 6 (ix p1)) = 9 then (bd (f_X5_addReading N n σ 1 (p2 + (σ 8 (ix p1))) ((p2 + (σ 8 (ix p1))) - 1)) (fun r17 σ18 => some (0, σ18))) else (if (σ 6 (ix p1)) = 10 then (bd (f_X5_addReading N n σ 3 (-1) ((p2 + (σ 8 (ix p1))) - 1)) (fun r21 σ22 => bd (f_X5_addRead N n σ22 ((p2 + (σ 8 (ix p1))) - 2)) (fun r24 σ25 => some (0, σ25)))) else (if (σ 6 (ix p1)) = 11 then (some (0, σ)) else (if (σ 6 (ix p1)) = 12 then (bd (f_X5_add N n σ 4 (-1) 0) (fun r29 σ30 => gb ((σ30 13 6) - 1) 300 (some (0, sg σ30 16 (ix ((σ30 13 6) - 1)) (σ 7 (ix p1)))))) else (if (σ 6 (ix p1)) = 13 then (bd (f_X5_addReading N n σ 5 (-1) ((p2 + (σ 8 (ix p1))) - 1)) (fun r34 σ35 => gb ((σ35 13 6) - 1) 300 (some (0, sg σ35 16 (ix ((σ35 13 6) - 1)) (σ 7 (ix p1)))))) else (if (σ 6 (ix p1)) = 14 then (gb (σ 7 (ix p1)) 12 (bd (f_X5_addCall N n σ (σ 7 (ix p1)) (p2 + (σ 8 (ix p1))) (σ 2 (ix (σ 7 (ix p1))))) (fun r40 σ41 => some (0, σ41)))) else (if (σ 6 (ix p1)) = 15 then (bd (f_X5_addReading N n σ 6 (-1) ((p2 + (σ 8 (ix p1))) - 1)) (fun r44 σ45 => some (0, σ45))) else (if (σ 6 (ix p1)) = 16 then (bd (f_X5_addReading N n σ 7 ((p2 + (σ 8 (ix p1))) - 1) ((p2 + (σ 8 (ix p1))) - 1)) (fun r48 σ49 => some (0, σ49))) else (if (σ 6 (ix p1)) = 17 then (bd (f_X5_addReading N n σ 8 (-1) ((p2 + (σ 8 (ix p1))) - 1)) (fun r52 σ53 => bd (f_X5_addRead N n σ53 ((p2 + (σ 8 (ix p1))) - 2)) (fun r55 σ56 => some (0, σ56)))) else (gb p1 300 (bd (f_X5_add N n σ 2 ((p2 + (σ 8 (ix p1))) - 2) (σ 6 (ix p1))) (fun r59 σ60 => bd (f_X5_addRead N n σ60 ((p2 + (σ 8 (ix p1))) - 2)) (fun r62 σ63 => bd (f_X5_addRead N n σ63 ((p2 + (σ 8 (ix p1))) - 1)) (fun r65 σ66 => some (0, σ66))))))))))))))))))))
set_option maxHeartbeats 4000000 in
set_option maxRecDepth 100000 in
theorem c_X5_become {l : Launch} {g : GG} {q : Nat} (N n : Nat) {σ : Sg} {p1 : Int32} {p2 : Int32} {r : Int32} {σ' : Sg} (hm : f_X5_become N n σ p1 p2 = some (r, σ')) : CTv l yX5_become cX5_become 6 none 2 47 g q n [.ref (ga g 13), .ref (ga g 1), .int p1, .int p2] σ σ' := by
  refine e_v (r := r) (by decide) (Nat.le_of_ble_eq_true rfl) ?_
  intro p e s m args below meth c A Q ls hC hl hI
  obtain ⟨hX, hK, hN, hZ, hA, hR⟩ := id hC
  have hx : p.tables.exec = Jvm.exec := hX.1
  have hb : c.code = cX5_become := hX.2.1
  have hml : c.maxLocals = 6 := hX.2.2.1
  have hown : s.vm.findClass RX5 = some m.cls := hX.2.2.2.1
  have ht : ∀ w ∈ BIG, w.before args s = true := hX.2.2.2.2
  have hl : lv_has ls 6 [(0, .ref (ga g 13)), (1, .ref (ga g 1)), (2, .int p1), (3, .int p2)] := hl
  unfold f_X5_become at hm
  refine lv_aload_n hx hb dX5_become_0 rfl (lv_at hl 1 rfl) ?_
  refine gf_1_5 hx hb ht hK hI mw_402 (fun _ h9 => h9) hown dX5_become_1 ?_
  refine lv_iload_n hx hb dX5_become_4 rfl (lv_at hl 2 rfl) ?_
  obtain ⟨g1, hm⟩ := gb_some hm
  refine ld_7 hx hb hK hI g1 (v := σ 7 (ix p1)) rfl dX5_become_5 ?_
  refine lv_istore (lv' := [(4, .int (σ 7 (ix p1))), (0, .ref (ga g 13)), (1, .ref (ga g 1)), (2, .int p1), (3, .int p2)]) hx hb dX5_become_6 hl (by decide) rfl (fun ls hl => ?_)
  refine lv_iload_n hx hb dX5_become_8 rfl (lv_at hl 4 rfl) ?_
  refine lv_aload_n hx hb dX5_become_9 rfl (lv_at hl 2 rfl) ?_
  refine gf_1_6 hx hb ht hK hI mw_403 (fun _ h9 => h9) hown dX5_become_10 ?_
  refine lv_iload_n hx hb dX5_become_13 rfl (lv_at hl 3 rfl) ?_
  obtain ⟨g2, hm⟩ := gb_some hm
  refine ld_8 hx hb hK hI g2 (v := σ 8 (ix p1)) rfl dX5_become_14 ?_
  refine lv_iadd hx hb dX5_become_15 ?_
  refine lv_istore (lv' := [(5, .int (p2 + (σ 8 (ix p1)))), (4, .int (σ 7 (ix p1))), (0, .ref (ga g 13)), (1, .ref (ga g 1)), (2, .int p1), (3, .int p2)]) hx hb dX5_become_16 hl (by decide) rfl (fun ls hl => ?_)
  refine lv_aload_n hx hb dX5_become_18 rfl (lv_at hl 3 rfl) ?_
  refine gf_1_4 hx hb ht hK hI mw_404 (fun _ h9 => h9) hown dX5_become_19 ?_
  refine lv_iload_n hx hb dX5_become_22 rfl (lv_at hl 4 rfl) ?_
  obtain ⟨g3, hm⟩ := gb_some hm
  refine ld_6 hx hb hK hI g3 (v := σ 6 (ix p1)) rfl dX5_become_23 ?_
  by_cases c4 : (σ 6 (ix p1)) = 0
  · have hm := (if_pos c4).symm.trans hm
    refine lv_tableIn (off := 88) (tgt := 112) hx hb dX5_become_24 (by (rw [c4]; decide)) (by (rw [c4]; decide)) (by (rw [c4]; rfl)) (by decide) ?_
    refine lv_aload_n hx hb dX5_become_112 rfl (lv_at hl 2 rfl) ?_
    refine lv_iconst (v := 0) hx hb dX5_become_113 (by decide) ?_
    refine lv_iload hx hb dX5_become_114 (lv_at hl 0 rfl) ?_
    refine lv_iload hx hb dX5_become_116 (lv_at hl 1 rfl) ?_
    obtain ⟨r5, σ6, h7, hm⟩ := bd_some hm
    refine k_v hI hA (va_runV (As := [.int 0, .int (p2 + (σ 8 (ix p1))), .int (σ 7 (ix p1))]) (rest := []) hX (c_X5_add N n h7 _) (cwV 3 ht (in_V mw_395 mw_396 mw_397 mw_138 mw_392) rfl rfl rfl pd_X5_add ⟨Nat.le_of_ble_eq_true rfl, Nat.le_of_ble_eq_true rfl⟩) ⟨q_blind, va_recv hK hI.1 (ci := 4) (q0 := 13) rfl rfl, q_to hI hK hN hZ hA⟩ rfl rfl hl.1 rfl (lv_room (Nat.le_of_ble_eq_true rfl)) dX5_become_118 (by decide)) (fun H locs hI => ?_)
    refine lv_goto (tgt := 339) hx hb dX5_become_121 (by decide) ?_
    exact hR _ _ _ _ _ hm hI dX5_become_339
  have hm := (if_neg c4).symm.trans hm
  by_cases c8 : (σ 6 (ix p1)) = 1
  · have hm := (if_pos c8).symm.trans hm
    refine lv_tableIn (off := 100) (tgt := 124) hx hb dX5_become_24 (by (rw [c8]; decide)) (by (rw [c8]; decide)) (by (rw [c8]; rfl)) (by decide) ?_
    refine lv_aload_n hx hb dX5_become_124 rfl (lv_at hl 2 rfl) ?_
    refine lv_iconst (v := 1) hx hb dX5_become_125 (by decide) ?_
    refine lv_iload hx hb dX5_become_126 (lv_at hl 0 rfl) ?_
    refine lv_iload hx hb dX5_become_128 (lv_at hl 1 rfl) ?_
    obtain ⟨r9, σ10, h11, hm⟩ := bd_some hm
    refine k_v hI hA (va_runV (As := [.int 1, .int (p2 + (σ 8 (ix p1))), .int (σ 7 (ix p1))]) (rest := []) hX (c_X5_addReading N n h11 _) (cwV 3 ht (in_V mw_406 mw_407 mw_408 mw_138 mw_394) rfl rfl rfl pd_X5_addReading ⟨Nat.le_of_ble_eq_true rfl, Nat.le_of_ble_eq_true rfl⟩) ⟨q_blind, va_recv hK hI.1 (ci := 4) (q0 := 13) rfl rfl, q_to hI hK hN hZ hA⟩ rfl rfl hl.1 rfl (lv_room (Nat.le_of_ble_eq_true rfl)) dX5_become_130 (by decide)) (fun H locs hI => ?_)
    refine lv_goto (tgt := 339) hx hb dX5_become_133 (by decide) ?_
    exact hR _ _ _ _ _ hm hI dX5_become_339
  have hm := (if_neg c8).symm.trans hm
  by_cases c12 : (σ 6 (ix p1)) = 2
  · have hm := (if_pos c12).symm.trans hm
    refine lv_tableIn (off := 112) (tgt := 136) hx hb dX5_become_24 (by (rw [c12]; decide)) (by (rw [c12]; decide)) (by (rw [c12]; rfl)) (by decide) ?_
    refine lv_aload_n hx hb dX5_become_136 rfl (lv_at hl 2 rfl) ?_
    refine lv_iconst (v := 1) hx hb dX5_become_137 (by decide) ?_
    refine lv_iload hx hb dX5_become_138 (lv_at hl 1 rfl) ?_
    refine lv_iload hx hb dX5_become_140 (lv_at hl 0 rfl) ?_
    refine lv_iconst (v := 1) hx hb dX5_become_142 (by decide) ?_
    refine lv_isub hx hb dX5_become_143 ?_
    obtain ⟨r13, σ14, h15, hm⟩ := bd_some hm
    refine k_v hI hA (va_runV (As := [.int 1, .int (σ 7 (ix p1)), .int ((p2 + (σ 8 (ix p1))) - 1)]) (rest := []) hX (c_X5_addReading N n h15 _) (cwV 3 ht (in_V mw_406 mw_407 mw_408 mw_138 mw_394) rfl rfl rfl pd_X5_addReading ⟨Nat.le_of_ble_eq_true rfl, Nat.le_of_ble_eq_true rfl⟩) ⟨q_blind, va_recv hK hI.1 (ci := 4) (q0 := 13) rfl rfl, q_to hI hK hN hZ hA⟩ rfl rfl hl.1 rfl (lv_room (Nat.le_of_ble_eq_true rfl)) dX5_become_144 (by decide)) (fun H locs hI => ?_)
    refine lv_goto (tgt := 339) hx hb dX5_become_147 (by decide) ?_
    exact hR _ _ _ _ _ hm hI dX5_become_339
  have hm := (if_neg c12).symm.trans hm
  by_cases c16 : (σ 6 (ix p1)) = 9
  · have hm := (if_pos c16).symm.trans hm
    refine lv_tableIn (off := 126) (tgt := 150) hx hb dX5_become_24 (by (rw [c16]; decide)) (by (rw [c16]; decide)) (by (rw [c16]; rfl)) (by decide) ?_
    refine lv_aload_n hx hb dX5_become_150 rfl (lv_at hl 2 rfl) ?_
    refine lv_iconst (v := 1) hx hb dX5_become_151 (by decide) ?_
    refine lv_iload hx hb dX5_become_152 (lv_at hl 0 rfl) ?_
    refine lv_iload hx hb dX5_become_154 (lv_at hl 0 rfl) ?_
    refine lv_iconst (v := 1) hx hb dX5_become_156 (by decide) ?_
    refine lv_isub hx hb dX5_become_157 ?_
    obtain ⟨r17, σ18, h19, hm⟩ := bd_some hm
    refine k_v hI hA (va_runV (As := [.int 1, .int (p2 + (σ 8 (ix p1))), .int ((p2 + (σ 8 (ix p1))) - 1)]) (rest := []) hX (c_X5_addReading N n h19 _) (cwV 3 ht (in_V mw_406 mw_407 mw_408 mw_138 mw_394) rfl rfl rfl pd_X5_addReading ⟨Nat.le_of_ble_eq_true rfl, Nat.le_of_ble_eq_true rfl⟩) ⟨q_blind, va_recv hK hI.1 (ci := 4) (q0 := 13) rfl rfl, q_to hI hK hN hZ hA⟩ rfl rfl hl.1 rfl (lv_room (Nat.le_of_ble_eq_true rfl)) dX5_become_158 (by decide)) (fun H locs hI => ?_)
    refine lv_goto (tgt := 339) hx hb dX5_become_161 (by decide) ?_
    exact hR _ _ _ _ _ hm hI dX5_become_339
  have hm := (if_neg c16).symm.trans hm
  by_cases c20 : (σ 6 (ix p1)) = 10
  · have hm := (if_pos c20).symm.trans hm
    refine lv_tableIn (off := 140) (tgt := 164) hx hb dX5_become_24 (by (rw [c20]; decide)) (by (rw [c20]; decide)) (by (rw [c20]; rfl)) (by decide) ?_
    refine lv_aload_n hx hb dX5_become_164 rfl (lv_at hl 2 rfl) ?_
    refine lv_iconst (v := 3) hx hb dX5_become_165 (by decide) ?_
    refine lv_iconst (v := (-1)) hx hb dX5_become_166 (by decide) ?_
    refine lv_iload hx hb dX5_become_167 (lv_at hl 0 rfl) ?_
    refine lv_iconst (v := 1) hx hb dX5_become_169 (by decide) ?_
    refine lv_isub hx hb dX5_become_170 ?_
    obtain ⟨r21, σ22, h23, hm⟩ := bd_some hm
    refine k_v hI hA (va_runV (As := [.int 3, .int (-1), .int ((p2 + (σ 8 (ix p1))) - 1)]) (rest := []) hX (c_X5_addReading N n h23 _) (cwV 3 ht (in_V mw_406 mw_407 mw_408 mw_138 mw_394) rfl rfl rfl pd_X5_addReading ⟨Nat.le_of_ble_eq_true rfl, Nat.le_of_ble_eq_true rfl⟩) ⟨q_blind, va_recv hK hI.1 (ci := 4) (q0 := 13) rfl rfl, q_to hI hK hN hZ hA⟩ rfl rfl hl.1 rfl (lv_room (Nat.le_of_ble_eq_true rfl)) dX5_become_171 (by decide)) (fun H locs hI => ?_)
    refine lv_aload_n hx hb dX5_become_174 rfl (lv_at hl 2 rfl) ?_
    refine lv_iload hx hb dX5_become_175 (lv_at hl 0 rfl) ?_
    refine lv_iconst (v := 2) hx hb dX5_become_177 (by decide) ?_
    refine lv_isub hx hb dX5_become_178 ?_
    obtain ⟨r24, σ25, h26, hm⟩ := bd_some hm
    refine k_v hI hA (va_runV (As := [.int ((p2 + (σ 8 (ix p1))) - 2)]) (rest := []) hX (c_X5_addRead N n h26 _) (cwV 1 ht (in_V mw_398 mw_399 mw_400 mw_138 mw_393) rfl rfl rfl pd_X5_addRead ⟨Nat.le_of_ble_eq_true rfl, Nat.le_of_ble_eq_true rfl⟩) ⟨q_blind, va_recv hK hI.1 (ci := 4) (q0 := 13) rfl rfl, q_to hI hK hN hZ hA⟩ rfl rfl hl.1 rfl (lv_room (Nat.le_of_ble_eq_true rfl)) dX5_become_179 (by decide)) (fun H locs hI => ?_)
    refine lv_goto (tgt := 339) hx hb dX5_become_182 (by decide) ?_
    exact hR _ _ _ _ _ hm hI dX5_become_339
  have hm := (if_neg c20).symm.trans hm
  by_cases c27 : (σ 6 (ix p1)) = 11
  · have hm := (if_pos c27).symm.trans hm
    refine lv_tableIn (off := 161) (tgt := 185) hx hb dX5_become_24 (by (rw [c27]; decide)) (by (rw [c27]; decide)) (by (rw [c27]; rfl)) (by decide) ?_
    refine lv_goto (tgt := 339) hx hb dX5_become_185 (by decide) ?_
    exact hR _ _ _ _ _ hm hI dX5_become_339
  have hm := (if_neg c27).symm.trans hm
  by_cases c28 : (σ 6 (ix p1)) = 12
  · have hm := (if_pos c28).symm.trans hm
    refine lv_tableIn (off := 164) (tgt := 188) hx hb dX5_become_24 (by (rw [c28]; decide)) (by (rw [c28]; decide)) (by (rw [c28]; rfl)) (by decide) ?_
    refine lv_aload_n hx hb dX5_become_188 rfl (lv_at hl 2 rfl) ?_
    refine lv_iconst (v := 4) hx hb dX5_become_189 (by decide) ?_
    refine lv_iconst (v := (-1)) hx hb dX5_become_190 (by decide) ?_
    refine lv_iconst (v := 0) hx hb dX5_become_191 (by decide) ?_
    obtain ⟨r29, σ30, h31, hm⟩ := bd_some hm
    refine k_v hI hA (va_runV (As := [.int 4, .int (-1), .int 0]) (rest := []) hX (c_X5_add N n h31 _) (cwV 3 ht (in_V mw_395 mw_396 mw_397 mw_138 mw_392) rfl rfl rfl pd_X5_add ⟨Nat.le_of_ble_eq_true rfl, Nat.le_of_ble_eq_true rfl⟩) ⟨q_blind, va_recv hK hI.1 (ci := 4) (q0 := 13) rfl rfl, q_to hI hK hN hZ hA⟩ rfl rfl hl.1 rfl (lv_room (Nat.le_of_ble_eq_true rfl)) dX5_become_192 (by decide)) (fun H locs hI => ?_)
    refine lv_aload_n hx hb dX5_become_195 rfl (lv_at hl 2 rfl) ?_
    refine gf_13_2 hx hb ht hK hI mw_387 (fun _ h9 => h9) hown dX5_become_196 ?_
    refine lv_aload_n hx hb dX5_become_199 rfl (lv_at hl 2 rfl) ?_
    refine gf_13_6 hx hb ht hK hI (v := σ30 13 6) rfl mw_173 (fun _ h9 => h9) hown dX5_become_200 ?_
    refine lv_iconst (v := 1) hx hb dX5_become_203 (by decide) ?_
    refine lv_isub hx hb dX5_become_204 ?_
    refine lv_iload hx hb dX5_become_205 (lv_at hl 1 rfl) ?_
    obtain ⟨g32, hm⟩ := gb_some hm
    refine sv_16 hx hb hK hI g32 dX5_become_207 (fun H locs hI => ?_)
    refine lv_goto (tgt := 339) hx hb dX5_become_208 (by decide) ?_
    exact hR _ _ _ _ _ hm hI dX5_become_339
  have hm := (if_neg c28).symm.trans hm
  by_cases c33 : (σ 6 (ix p1)) = 13
  · have hm := (if_pos c33).symm.trans hm
    refine lv_tableIn (off := 187) (tgt := 211) hx hb dX5_become_24 (by (rw [c33]; decide)) (by (rw [c33]; decide)) (by (rw [c33]; rfl)) (by decide) ?_
    refine lv_aload_n hx hb dX5_become_211 rfl (lv_at hl 2 rfl) ?_
    refine lv_iconst (v := 5) hx hb dX5_become_212 (by decide) ?_
    refine lv_iconst (v := (-1)) hx hb dX5_become_213 (by decide) ?_
    refine lv_iload hx hb dX5_become_214 (lv_at hl 0 rfl) ?_
    refine lv_iconst (v := 1) hx hb dX5_become_216 (by decide) ?_
    refine lv_isub hx hb dX5_become_217 ?_
    obtain ⟨r34, σ35, h36, hm⟩ := bd_some hm
    refine k_v hI hA (va_runV (As := [.int 5, .int (-1), .int ((p2 + (σ 8 (ix p1))) - 1)]) (rest := []) hX (c_X5_addReading N n h36 _) (cwV 3 ht (in_V mw_406 mw_407 mw_408 mw_138 mw_394) rfl rfl rfl pd_X5_addReading ⟨Nat.le_of_ble_eq_true rfl, Nat.le_of_ble_eq_true rfl⟩) ⟨q_blind, va_recv hK hI.1 (ci := 4) (q0 := 13) rfl rfl, q_to hI hK hN hZ hA⟩ rfl rfl hl.1 rfl (lv_room (Nat.le_of_ble_eq_true rfl)) dX5_become_218 (by decide)) (fun H locs hI => ?_)
    refine lv_aload_n hx hb dX5_become_221 rfl (lv_at hl 2 rfl) ?_
    refine gf_13_2 hx hb ht hK hI mw_387 (fun _ h9 => h9) hown dX5_become_222 ?_
    refine lv_aload_n hx hb dX5_become_225 rfl (lv_at hl 2 rfl) ?_
    refine gf_13_6 hx hb ht hK hI (v := σ35 13 6) rfl mw_173 (fun _ h9 => h9) hown dX5_become_226 ?_
    refine lv_iconst (v := 1) hx hb dX5_become_229 (by decide) ?_
    refine lv_isub hx hb dX5_become_230 ?_
    refine lv_iload hx hb dX5_become_231 (lv_at hl 1 rfl) ?_
    obtain ⟨g37, hm⟩ := gb_some hm
    refine sv_16 hx hb hK hI g37 dX5_become_233 (fun H locs hI => ?_)
    refine lv_goto (tgt := 339) hx hb dX5_become_234 (by decide) ?_
    exact hR _ _ _ _ _ hm hI dX5_become_339
  have hm := (if_neg c33).symm.trans hm
  by_cases c38 : (σ 6 (ix p1)) = 14
  · have hm := (if_pos c38).symm.trans hm
    refine lv_tableIn (off := 213) (tgt := 237) hx hb dX5_become_24 (by (rw [c38]; decide)) (by (rw [c38]; decide)) (by (rw [c38]; rfl)) (by decide) ?_
    refine lv_aload_n hx hb dX5_become_237 rfl (lv_at hl 2 rfl) ?_
    refine lv_iload hx hb dX5_become_238 (lv_at hl 1 rfl) ?_
    refine lv_iload hx hb dX5_become_240 (lv_at hl 0 rfl) ?_
    refine lv_aload_n hx hb dX5_become_242 rfl (lv_at hl 3 rfl) ?_
    refine gf_1_0 hx hb ht hK hI mw_405 (fun _ h9 => h9) hown dX5_become_243 ?_
    refine lv_iload hx hb dX5_become_246 (lv_at hl 1 rfl) ?_
    obtain ⟨g39, hm⟩ := gb_some hm
    refine ld_2 hx hb hK hI g39 (v := σ 2 (ix (σ 7 (ix p1)))) rfl dX5_become_248 ?_
    obtain ⟨r40, σ41, h42, hm⟩ := bd_some hm
    refine k_v hI hA (va_runV (As := [.int (σ 7 (ix p1)), .int (p2 + (σ 8 (ix p1))), .int (σ 2 (ix (σ 7 (ix p1))))]) (rest := []) hX (c_X5_addCall N n h42 _) (cwV 3 ht (in_V mw_409 mw_410 mw_411 mw_138 mw_401) rfl rfl rfl pd_X5_addCall ⟨Nat.le_of_ble_eq_true rfl, Nat.le_of_ble_eq_true rfl⟩) ⟨q_blind, va_recv hK hI.1 (ci := 4) (q0 := 13) rfl rfl, q_to hI hK hN hZ hA⟩ rfl rfl hl.1 rfl (lv_room (Nat.le_of_ble_eq_true rfl)) dX5_become_249 (by decide)) (fun H locs hI => ?_)
    refine lv_goto (tgt := 339) hx hb dX5_become_252 (by decide) ?_
    exact hR _ _ _ _ _ hm hI dX5_become_339
  have hm := (if_neg c38).symm.trans hm
  by_cases c43 : (σ 6 (ix p1)) = 15
  · have hm := (if_pos c43).symm.trans hm
    refine lv_tableIn (off := 231) (tgt := 255) hx hb dX5_become_24 (by (rw [c43]; decide)) (by (rw [c43]; decide)) (by (rw [c43]; rfl)) (by decide) ?_
    refine lv_aload_n hx hb dX5_become_255 rfl (lv_at hl 2 rfl) ?_
    refine lv_bipush (v := 6) hx hb dX5_become_256 (by decide) ?_
    refine lv_iconst (v := (-1)) hx hb dX5_become_258 (by decide) ?_
    refine lv_iload hx hb dX5_become_259 (lv_at hl 0 rfl) ?_
    refine lv_iconst (v := 1) hx hb dX5_become_261 (by decide) ?_
    refine lv_isub hx hb dX5_become_262 ?_
    obtain ⟨r44, σ45, h46, hm⟩ := bd_some hm
    refine k_v hI hA (va_runV (As := [.int 6, .int (-1), .int ((p2 + (σ 8 (ix p1))) - 1)]) (rest := []) hX (c_X5_addReading N n h46 _) (cwV 3 ht (in_V mw_406 mw_407 mw_408 mw_138 mw_394) rfl rfl rfl pd_X5_addReading ⟨Nat.le_of_ble_eq_true rfl, Nat.le_of_ble_eq_true rfl⟩) ⟨q_blind, va_recv hK hI.1 (ci := 4) (q0 := 13) rfl rfl, q_to hI hK hN hZ hA⟩ rfl rfl hl.1 rfl (lv_room (Nat.le_of_ble_eq_true rfl)) dX5_become_263 (by decide)) (fun H locs hI => ?_)
    refine lv_goto (tgt := 339) hx hb dX5_become_266 (by decide) ?_
    exact hR _ _ _ _ _ hm hI dX5_become_339
  have hm := (if_neg c43).symm.trans hm
  by_cases c47 : (σ 6 (ix p1)) = 16
  · have hm := (if_pos c47).symm.trans hm
    refine lv_tableIn (off := 245) (tgt := 269) hx hb dX5_become_24 (by (rw [c47]; decide)) (by (rw [c47]; decide)) (by (rw [c47]; rfl)) (by decide) ?_
    refine lv_aload_n hx hb dX5_become_269 rfl (lv_at hl 2 rfl) ?_
    refine lv_bipush (v := 7) hx hb dX5_become_270 (by decide) ?_
    refine lv_iload hx hb dX5_become_272 (lv_at hl 0 rfl) ?_
    refine lv_iconst (v := 1) hx hb dX5_become_274 (by decide) ?_
    refine lv_isub hx hb dX5_become_275 ?_
    refine lv_iload hx hb dX5_become_276 (lv_at hl 0 rfl) ?_
    refine lv_iconst (v := 1) hx hb dX5_become_278 (by decide) ?_
    refine lv_isub hx hb dX5_become_279 ?_
    obtain ⟨r48, σ49, h50, hm⟩ := bd_some hm
    refine k_v hI hA (va_runV (As := [.int 7, .int ((p2 + (σ 8 (ix p1))) - 1), .int ((p2 + (σ 8 (ix p1))) - 1)]) (rest := []) hX (c_X5_addReading N n h50 _) (cwV 3 ht (in_V mw_406 mw_407 mw_408 mw_138 mw_394) rfl rfl rfl pd_X5_addReading ⟨Nat.le_of_ble_eq_true rfl, Nat.le_of_ble_eq_true rfl⟩) ⟨q_blind, va_recv hK hI.1 (ci := 4) (q0 := 13) rfl rfl, q_to hI hK hN hZ hA⟩ rfl rfl hl.1 rfl (lv_room (Nat.le_of_ble_eq_true rfl)) dX5_become_280 (by decide)) (fun H locs hI => ?_)
    refine lv_goto (tgt := 339) hx hb dX5_become_283 (by decide) ?_
    exact hR _ _ _ _ _ hm hI dX5_become_339
  have hm := (if_neg c47).symm.trans hm
  by_cases c51 : (σ 6 (ix p1)) = 17
  · have hm := (if_pos c51).symm.trans hm
    refine lv_tableIn (off := 262) (tgt := 286) hx hb dX5_become_24 (by (rw [c51]; decide)) (by (rw [c51]; decide)) (by (rw [c51]; rfl)) (by decide) ?_
    refine lv_aload_n hx hb dX5_become_286 rfl (lv_at hl 2 rfl) ?_
    refine lv_bipush (v := 8) hx hb dX5_become_287 (by decide) ?_
    refine lv_iconst (v := (-1)) hx hb dX5_become_289 (by decide) ?_
    refine lv_iload hx hb dX5_become_290 (lv_at hl 0 rfl) ?_
    refine lv_iconst (v := 1) hx hb dX5_become_292 (by decide) ?_
    refine lv_isub hx hb dX5_become_293 ?_
    obtain ⟨r52, σ53, h54, hm⟩ := bd_some hm
    refine k_v hI hA (va_runV (As := [.int 8, .int (-1), .int ((p2 + (σ 8 (ix p1))) - 1)]) (rest := []) hX (c_X5_addReading N n h54 _) (cwV 3 ht (in_V mw_406 mw_407 mw_408 mw_138 mw_394) rfl rfl rfl pd_X5_addReading ⟨Nat.le_of_ble_eq_true rfl, Nat.le_of_ble_eq_true rfl⟩) ⟨q_blind, va_recv hK hI.1 (ci := 4) (q0 := 13) rfl rfl, q_to hI hK hN hZ hA⟩ rfl rfl hl.1 rfl (lv_room (Nat.le_of_ble_eq_true rfl)) dX5_become_294 (by decide)) (fun H locs hI => ?_)
    refine lv_aload_n hx hb dX5_become_297 rfl (lv_at hl 2 rfl) ?_
    refine lv_iload hx hb dX5_become_298 (lv_at hl 0 rfl) ?_
    refine lv_iconst (v := 2) hx hb dX5_become_300 (by decide) ?_
    refine lv_isub hx hb dX5_become_301 ?_
    obtain ⟨r55, σ56, h57, hm⟩ := bd_some hm
    refine k_v hI hA (va_runV (As := [.int ((p2 + (σ 8 (ix p1))) - 2)]) (rest := []) hX (c_X5_addRead N n h57 _) (cwV 1 ht (in_V mw_398 mw_399 mw_400 mw_138 mw_393) rfl rfl rfl pd_X5_addRead ⟨Nat.le_of_ble_eq_true rfl, Nat.le_of_ble_eq_true rfl⟩) ⟨q_blind, va_recv hK hI.1 (ci := 4) (q0 := 13) rfl rfl, q_to hI hK hN hZ hA⟩ rfl rfl hl.1 rfl (lv_room (Nat.le_of_ble_eq_true rfl)) dX5_become_302 (by decide)) (fun H locs hI => ?_)
    refine lv_goto (tgt := 339) hx hb dX5_become_305 (by decide) ?_
    exact hR _ _ _ _ _ hm hI dX5_become_339
  have hm := (if_neg c51).symm.trans hm
  refine sw_d (tgt := 308) hx hb [0, 1, 2, 9, 10, 11, 12, 13, 14, 15, 16, 17] dX5_become_24 (by decide) (by decide) (ne_c (lv_neT c4 (by decide)) (ne_c (lv_neT c8 (by decide)) (ne_c (lv_neT c12 (by decide)) (ne_c (lv_neT c16 (by decide)) (ne_c (lv_neT c20 (by decide)) (ne_c (lv_neT c27 (by decide)) (ne_c (lv_neT c28 (by decide)) (ne_c (lv_neT c33 (by decide)) (ne_c (lv_neT c38 (by decide)) (ne_c (lv_neT c43 (by decide)) (ne_c (lv_neT c47 (by decide)) (ne_c (lv_neT c51 (by decide)) ne_n)))))))))))) (by decide) ?_
  refine lv_aload_n hx hb dX5_become_308 rfl (lv_at hl 2 rfl) ?_
  refine lv_iconst (v := 2) hx hb dX5_become_309 (by decide) ?_
  refine lv_iload hx hb dX5_become_310 (lv_at hl 0 rfl) ?_
  refine lv_iconst (v := 2) hx hb dX5_become_312 (by decide) ?_
  refine lv_isub hx hb dX5_become_313 ?_
  refine lv_aload_n hx hb dX5_become_314 rfl (lv_at hl 3 rfl) ?_
  refine gf_1_4 hx hb ht hK hI mw_404 (fun _ h9 => h9) hown dX5_become_315 ?_
  refine lv_iload_n hx hb dX5_become_318 rfl (lv_at hl 4 rfl) ?_
  obtain ⟨g58, hm⟩ := gb_some hm
  refine ld_6 hx hb hK hI g58 (v := σ 6 (ix p1)) rfl dX5_become_319 ?_
  obtain ⟨r59, σ60, h61, hm⟩ := bd_some hm
  refine k_v hI hA (va_runV (As := [.int 2, .int ((p2 + (σ 8 (ix p1))) - 2), .int (σ 6 (ix p1))]) (rest := []) hX (c_X5_add N n h61 _) (cwV 3 ht (in_V mw_395 mw_396 mw_397 mw_138 mw_392) rfl rfl rfl pd_X5_add ⟨Nat.le_of_ble_eq_true rfl, Nat.le_of_ble_eq_true rfl⟩) ⟨q_blind, va_recv hK hI.1 (ci := 4) (q0 := 13) rfl rfl, q_to hI hK hN hZ hA⟩ rfl rfl hl.1 rfl (lv_room (Nat.le_of_ble_eq_true rfl)) dX5_become_320 (by decide)) (fun H locs hI => ?_)
  refine lv_aload_n hx hb dX5_become_323 rfl (lv_at hl 2 rfl) ?_
  refine lv_iload hx hb dX5_become_324 (lv_at hl 0 rfl) ?_
  refine lv_iconst (v := 2) hx hb dX5_become_326 (by decide) ?_
  refine lv_isub hx hb dX5_become_327 ?_
  obtain ⟨r62, σ63, h64, hm⟩ := bd_some hm
  refine k_v hI hA (va_runV (As := [.int ((p2 + (σ 8 (ix p1))) - 2)]) (rest := []) hX (c_X5_addRead N n h64 _) (cwV 1 ht (in_V mw_398 mw_399 mw_400 mw_138 mw_393) rfl rfl rfl pd_X5_addRead ⟨Nat.le_of_ble_eq_true rfl, Nat.le_of_ble_eq_true rfl⟩) ⟨q_blind, va_recv hK hI.1 (ci := 4) (q0 := 13) rfl rfl, q_to hI hK hN hZ hA⟩ rfl rfl hl.1 rfl (lv_room (Nat.le_of_ble_eq_true rfl)) dX5_become_328 (by decide)) (fun H locs hI => ?_)
  refine lv_aload_n hx hb dX5_become_331 rfl (lv_at hl 2 rfl) ?_
  refine lv_iload hx hb dX5_become_332 (lv_at hl 0 rfl) ?_
  refine lv_iconst (v := 1) hx hb dX5_become_334 (by decide) ?_
  refine lv_isub hx hb dX5_become_335 ?_
  obtain ⟨r65, σ66, h67, hm⟩ := bd_some hm
  refine k_v hI hA (va_runV (As := [.int ((p2 + (σ 8 (ix p1))) - 1)]) (rest := []) hX (c_X5_addRead N n h67 _) (cwV 1 ht (in_V mw_398 mw_399 mw_400 mw_138 mw_393) rfl rfl rfl pd_X5_addRead ⟨Nat.le_of_ble_eq_true rfl, Nat.le_of_ble_eq_true rfl⟩) ⟨q_blind, va_recv hK hI.1 (ci := 4) (q0 := 13) rfl rfl, q_to hI hK hN hZ hA⟩ rfl rfl hl.1 rfl (lv_room (Nat.le_of_ble_eq_true rfl)) dX5_become_336 (by decide)) (fun H locs hI => ?_)
  exact hR _ _ _ _ _ hm hI dX5_become_339
def lb_X5_build_15 (N n : Nat) (u2 : Int32) (u3 : Int32) (K71 : (Sg → Int32 → Option (Int32 × Sg))) (rec : (Sg → Int32 → Option (Int32 × Sg))) (σ : Sg) (v4 : Int32) : Option (Int32 × Sg) := gb u2 12 (if (σ 5 (ix u2)) ≤ v4 then (K71 σ v4) else (gb v4 300 (gb (u3 + v4) 300 (if (σ 8 (ix (u3 + v4))) = (-1) then (rec (sg σ 26 (ix v4) (σ 13 6)) (v4 + 1)) else (gb u2 12 (bd (f_X5_become N n (sg σ 26 (ix v4) (σ 13 6)) (u3 + v4) (σ 3 (ix u2))) (fun r8 σ9 => rec σ9 (v4 + 1))))))))
def lf_X5_build_15 (N n : Nat) (u2 : Int32) (u3 : Int32) (K71 : (Sg → Int32 → Option (Int32 × Sg))) : Nat → (Sg → Int32 → Option (Int32 × Sg))
  | 0 => fun _ _ => none
  | k + 1 => lb_X5_build_15 N n u2 u3 K71 (lf_X5_build_15 N n u2 u3 K71 k)
def f_X5_build (N n : Nat) (σ : Sg) (p1 : Int32) : Option (Int32 × Sg) := gb p1 12 (lf_X5_build_15 N n p1 (σ 4 (ix p1)) (fun σ11 w12 => bd (f_X5_aimAnew N n σ11 ) (fun r13 σ14 => some (0, σ14))) N (sg σ 13 6 0) 0)
set_option maxHeartbeats 4000000 in
set_option maxRecDepth 100000 in
theorem lp_X5_build_15 {p : Program} {l : Launch} {e : Env} {s : State} {m : MethodId} {args : Array Value} {below : List Frame} {meth : Method} {c : Code} {Q : State → Prop} {A : Nat → Prop} {g : GG} {q N n : Nat} {out : Int32 × Sg} {u2 : Int32} {u3 : Int32} {K71 : (Sg → Int32 → Option (Int32 × Sg))}
    (hC : CXv p l e (qR 3 72) s m args below meth c cX5_build 5 RX5 g q n A Q (some out)) :
    ∀ (k : Nat) (σ : Sg) (v4 : Int32) (H : Heap) (locs : List Loc) (ls : Array Slot), lf_X5_build_15 N n u2 u3 K71 k σ v4 = some out → wI g q n σ A s.heap H locs → lv_has ls 5 [(0, .ref (ga g 13)), (1, .ref (ga g 1)), (2, .int u2), (3, .int u3), (4, .int v4)] → (∀ (σ : Sg) (v4 : Int32) (H : Heap) (locs : List Loc) (ls : Array Slot), K71 σ v4 = some out → wI g q n σ A s.heap H locs → lv_has ls 5 [(0, .ref (ga g 13))] → W p l e (qR 3 72) s m args below meth c H locs 0 0 Q (F0 m 71 ls [])) → W p l e (qR 3 72) s m args below meth c H locs 0 0 Q (F0 m 15 ls []) := by
  obtain ⟨hX, hK, hN, hZ, hA, hR⟩ := id hC
  have hx : p.tables.exec = Jvm.exec := hX.1
  have hb : c.code = cX5_build := hX.2.1
  have hml : c.maxLocals = 5 := hX.2.2.1
  have hown : s.vm.findClass RX5 = some m.cls := hX.2.2.2.1
  have ht : ∀ w ∈ BIG, w.before args s = true := hX.2.2.2.2
  intro k
  induction k with
  | zero =>
    intro σ v4 H locs ls hm
    have hm : none = some out := hm
    exact nomatch hm
  | succ k ih =>
    intro σ v4 H locs ls hm hI hl hx71
    have hm : lb_X5_build_15 N n u2 u3 K71 (lf_X5_build_15 N n u2 u3 K71 k) σ v4 = some out := hm
    unfold lb_X5_build_15 at hm
    refine lv_iload hx hb dX5_build_15 (lv_at hl 4 rfl) ?_
    refine lv_aload_n hx hb dX5_build_17 rfl (lv_at hl 1 rfl) ?_
    refine gf_1_3 hx hb ht hK hI mw_416 (fun _ h9 => h9) hown dX5_build_18 ?_
    refine lv_iload_n hx hb dX5_build_21 rfl (lv_at hl 2 rfl) ?_
    obtain ⟨g2, hm⟩ := gb_some hm
    refine ld_5 hx hb hK hI g2 (v := σ 5 (ix u2)) rfl dX5_build_22 ?_
    refine lv_icmp_ge (tgt := 71) hx hb dX5_build_23 (by decide) (fun c3 => ?_) (fun c3 => ?_)
    · have hm := (if_pos c3).symm.trans hm
      exact hx71 σ v4 _ _ _ hm hI (lv_sub hl [0] rfl)
    · have hm := (if_neg c3).symm.trans hm
      refine lv_aload_n hx hb dX5_build_26 rfl (lv_at hl 0 rfl) ?_
      refine gf_13_7 hx hb ht hK hI mw_389 (fun _ h9 => h9) hown dX5_build_27 ?_
      refine lv_iload hx hb dX5_build_30 (lv_at hl 4 rfl) ?_
      refine lv_aload_n hx hb dX5_build_32 rfl (lv_at hl 0 rfl) ?_
      refine gf_13_6 hx hb ht hK hI (v := σ 13 6) rfl mw_173 (fun _ h9 => h9) hown dX5_build_33 ?_
      obtain ⟨g4, hm⟩ := gb_some hm
      refine sv_26 hx hb hK hI g4 dX5_build_36 (fun H locs hI => ?_)
      refine lv_aload_n hx hb dX5_build_37 rfl (lv_at hl 1 rfl) ?_
      refine gf_1_6 hx hb ht hK hI mw_403 (fun _ h9 => h9) hown dX5_build_38 ?_
      refine lv_iload_n hx hb dX5_build_41 rfl (lv_at hl 3 rfl) ?_
      refine lv_iload hx hb dX5_build_42 (lv_at hl 4 rfl) ?_
      refine lv_iadd hx hb dX5_build_44 ?_
      obtain ⟨g5, hm⟩ := gb_some hm
      refine ld_8 hx hb hK hI g5 (v := σ 8 (ix (u3 + v4))) rfl dX5_build_45 ?_
      refine lv_iconst (v := (-1)) hx hb dX5_build_46 (by decide) ?_
      refine lv_icmp_eq (tgt := 65) hx hb dX5_build_47 (by decide) (fun c6 => ?_) (fun c6 => ?_)
      · have hm := (if_pos c6).symm.trans hm
        refine lv_iinc (v := v4 + 1) (lv' := [(4, .int (v4 + 1)), (0, .ref (ga g 13)), (1, .ref (ga g 1)), (2, .int u2), (3, .int u3)]) hx hb dX5_build_65 hl (k := 4) rfl (congrArg (fun z => v4 + z) (show Int32.ofInt 1 = 1 by decide)) (by decide) rfl (fun ls hl => ?_)
        refine lv_goto (tgt := 15) hx hb dX5_build_68 (by decide) ?_
        exact ih (sg σ 26 (ix v4) (σ 13 6)) (v4 + 1) _ _ _ hm hI (lv_sub hl [1, 2, 3, 4, 0] rfl) hx71
      · have hm := (if_neg c6).symm.trans hm
        refine lv_aload_n hx hb dX5_build_50 rfl (lv_at hl 0 rfl) ?_
        refine lv_aload_n hx hb dX5_build_51 rfl (lv_at hl 1 rfl) ?_
        refine lv_iload_n hx hb dX5_build_52 rfl (lv_at hl 3 rfl) ?_
        refine lv_iload hx hb dX5_build_53 (lv_at hl 4 rfl) ?_
        refine lv_iadd hx hb dX5_build_55 ?_
        refine lv_aload_n hx hb dX5_build_56 rfl (lv_at hl 1 rfl) ?_
        refine gf_1_1 hx hb ht hK hI mw_417 (fun _ h9 => h9) hown dX5_build_57 ?_
        refine lv_iload_n hx hb dX5_build_60 rfl (lv_at hl 2 rfl) ?_
        obtain ⟨g7, hm⟩ := gb_some hm
        refine ld_3 hx hb hK hI g7 (v := σ 3 (ix u2)) rfl dX5_build_61 ?_
        obtain ⟨r8, σ9, h10, hm⟩ := bd_some hm
        refine k_v hI hA (va_runV (As := [.ref (ga g 1), .int (u3 + v4), .int (σ 3 (ix u2))]) (rest := []) hX (c_X5_become N n h10 _) (cwV 3 ht (in_V mw_418 mw_419 mw_420 mw_138 mw_412) rfl rfl rfl pd_X5_become ⟨Nat.le_of_ble_eq_true rfl, Nat.le_of_ble_eq_true rfl⟩) ⟨q_blind, va_recv hK hI.1 (ci := 4) (q0 := 13) rfl rfl, q_to hI hK hN hZ hA⟩ rfl rfl hl.1 rfl (lv_room (Nat.le_of_ble_eq_true rfl)) dX5_build_62 (by decide)) (fun H locs hI => ?_)
        refine lv_iinc (v := v4 + 1) (lv' := [(4, .int (v4 + 1)), (0, .ref (ga g 13)), (1, .ref (ga g 1)), (2, .int u2), (3, .int u3)]) hx hb dX5_build_65 hl (k := 4) rfl (congrArg (fun z => v4 + z) (show Int32.ofInt 1 = 1 by decide)) (by decide) rfl (fun ls hl => ?_)
        refine lv_goto (tgt := 15) hx hb dX5_build_68 (by decide) ?_
        exact ih σ9 (v4 + 1) _ _ _ hm hI (lv_sub hl [1, 2, 3, 4, 0] rfl) hx71
set_option maxHeartbeats 4000000 in
set_option maxRecDepth 100000 in
theorem c_X5_build {l : Launch} {g : GG} {q : Nat} (N n : Nat) {σ : Sg} {p1 : Int32} {r : Int32} {σ' : Sg} (hm : f_X5_build N n σ p1 = some (r, σ')) : CTv l yX5_build cX5_build 5 none 3 72 g q n [.ref (ga g 13), .ref (ga g 1), .int p1] σ σ' := by
  refine e_v (r := r) (by decide) (Nat.le_of_ble_eq_true rfl) ?_
  intro p e s m args below meth c A Q ls hC hl hI
  obtain ⟨hX, hK, hN, hZ, hA, hR⟩ := id hC
  have hx : p.tables.exec = Jvm.exec := hX.1
  have hb : c.code = cX5_build := hX.2.1
  have hml : c.maxLocals = 5 := hX.2.2.1
  have hown : s.vm.findClass RX5 = some m.cls := hX.2.2.2.1
  have ht : ∀ w ∈ BIG, w.before args s = true := hX.2.2.2.2
  have hl : lv_has ls 5 [(0, .ref (ga g 13)), (1, .ref (ga g 1)), (2, .int p1)] := hl
  unfold f_X5_build at hm
  refine lv_aload_n hx hb dX5_build_0 rfl (lv_at hl 0 rfl) ?_
  refine lv_iconst (v := 0) hx hb dX5_build_1 (by decide) ?_
  refine pf_13_6 hx hb ht hK hI mw_173 (fun _ h9 => h9) hown dX5_build_2 (fun H locs hI => ?_)
  refine lv_aload_n hx hb dX5_build_5 rfl (lv_at hl 1 rfl) ?_
  refine gf_1_2 hx hb ht hK hI mw_415 (fun _ h9 => h9) hown dX5_build_6 ?_
  refine lv_iload_n hx hb dX5_build_9 rfl (lv_at hl 2 rfl) ?_
  obtain ⟨g1, hm⟩ := gb_some hm
  refine ld_4 hx hb hK hI g1 (v := σ 4 (ix p1)) rfl dX5_build_10 ?_
  refine lv_istore_n (lv' := [(3, .int (σ 4 (ix p1))), (0, .ref (ga g 13)), (1, .ref (ga g 1)), (2, .int p1)]) hx hb dX5_build_11 rfl hl (by decide) rfl (fun ls hl => ?_)
  refine lv_iconst (v := 0) hx hb dX5_build_12 (by decide) ?_
  refine lv_istore (lv' := [(4, .int 0), (3, .int (σ 4 (ix p1))), (0, .ref (ga g 13)), (1, .ref (ga g 1)), (2, .int p1)]) hx hb dX5_build_13 hl (by decide) rfl (fun ls hl => ?_)
  refine lp_X5_build_15 hC N _ _ _ _ _ hm hI (lv_sub hl [2, 3, 4, 1, 0] rfl) ?_
  intro σ11 w12 H locs ls hm hI hl
  refine lv_aload_n hx hb dX5_build_71 rfl (lv_at hl 0 rfl) ?_
  obtain ⟨r13, σ14, h15, hm⟩ := bd_some hm
  refine k_v hI hA (va_runV (As := []) (rest := []) hX (c_X5_aimAnew N n h15 _) (cwV 0 ht (in_V mw_421 mw_422 mw_423 mw_138 mw_413) rfl rfl rfl pd_X5_aimAnew ⟨Nat.le_of_ble_eq_true rfl, Nat.le_of_ble_eq_true rfl⟩) ⟨q_blind, va_recv hK hI.1 (ci := 4) (q0 := 13) rfl rfl, q_to hI hK hN hZ hA⟩ rfl rfl hl.1 rfl (lv_room (Nat.le_of_ble_eq_true rfl)) dX5_build_72 (by decide)) (fun H locs hI => ?_)
  exact hR _ _ _ _ _ hm hI dX5_build_75
def lb_X5_copyPlace_62 (N n : Nat) (u1 : Int32) (u2 : Int32) (K94 : (Sg → Int32 → Option (Int32 × Sg))) (rec : (Sg → Int32 → Option (Int32 × Sg))) (σ : Sg) (v3 : Int32) : Option (Int32 × Sg) := gb u1 300 (if (σ 18 (ix u1)) ≤ v3 then (K94 σ v3) else (gb v3 6 (gb v3 6 (gb u1 300 (gb u2 300 (rec (sg σ 19 (ix u2 * 6 + ix v3) (σ 19 (ix u1 * 6 + ix v3))) (v3 + 1)))))))
def lf_X5_copyPlace_62 (N n : Nat) (u1 : Int32) (u2 : Int32) (K94 : (Sg → Int32 → Option (Int32 × Sg))) : Nat → (Sg → Int32 → Option (Int32 × Sg))
  | 0 => fun _ _ => none
  | k + 1 => lb_X5_copyPlace_62 N n u1 u2 K94 (lf_X5_copyPlace_62 N n u1 u2 K94 k)
def f_X5_copyPlace (N n : Nat) (σ : Sg) (p0 : Int32) (p1 : Int32) : Option (Int32 × Sg) := gb p0 300 (gb p1 300 (gb p0 300 (gb p1 300 (gb p0 300 (gb p1 300 (gb p0 300 (gb p1 300 (gb p0 300 (gb p1 300 (lf_X5_copyPlace_62 N n p0 p1 (fun σ17 w18 => some (0, σ17)) N (sg (sg (sg (sg (sg σ 14 (ix p1) (σ 14 (ix p0))) 15 (ix p1) (σ 15 (ix p0))) 16 (ix p1) (σ 16 (ix p0))) 17 (ix p1) (σ 17 (ix p0))) 18 (ix p1) (σ 18 (ix p0))) 0))))))))))
set_option maxHeartbeats 4000000 in
set_option maxRecDepth 100000 in
theorem lp_X5_copyPlace_62 {p : Program} {l : Launch} {e : Env} {s : State} {m : MethodId} {args : Array Value} {below : List Frame} {meth : Method} {c : Code} {Q : State → Prop} {A : Nat → Prop} {g : GG} {q N n : Nat} {out : Int32 × Sg} {u1 : Int32} {u2 : Int32} {K94 : (Sg → Int32 → Option (Int32 × Sg))}
    (hC : CXv p l e (qR 0 0) s m args below meth c cX5_copyPlace 4 RX5 g q n A Q (some out)) :
    ∀ (k : Nat) (σ : Sg) (v3 : Int32) (H : Heap) (locs : List Loc) (ls : Array Slot), lf_X5_copyPlace_62 N n u1 u2 K94 k σ v3 = some out → wI g q n σ A s.heap H locs → lv_has ls 4 [(0, .ref (ga g 13)), (1, .int u1), (2, .int u2), (3, .int v3)] → (∀ (σ : Sg) (v3 : Int32) (H : Heap) (locs : List Loc) (ls : Array Slot), K94 σ v3 = some out → wI g q n σ A s.heap H locs → lv_has ls 4 [] → W p l e (qR 0 0) s m args below meth c H locs 0 0 Q (F0 m 94 ls [])) → W p l e (qR 0 0) s m args below meth c H locs 0 0 Q (F0 m 62 ls []) := by
  obtain ⟨hX, hK, hN, hZ, hA, hR⟩ := id hC
  have hx : p.tables.exec = Jvm.exec := hX.1
  have hb : c.code = cX5_copyPlace := hX.2.1
  have hml : c.maxLocals = 4 := hX.2.2.1
  have hown : s.vm.findClass RX5 = some m.cls := hX.2.2.2.1
  have ht : ∀ w ∈ BIG, w.before args s = true := hX.2.2.2.2
  intro k
  induction k with
  | zero =>
    intro σ v3 H locs ls hm
    have hm : none = some out := hm
    exact nomatch hm
  | succ k ih =>
    intro σ v3 H locs ls hm hI hl hx94
    have hm : lb_X5_copyPlace_62 N n u1 u2 K94 (lf_X5_copyPlace_62 N n u1 u2 K94 k) σ v3 = some out := hm
    unfold lb_X5_copyPlace_62 at hm
    refine lv_iload_n hx hb dX5_copyPlace_62 rfl (lv_at hl 3 rfl) ?_
    refine lv_aload_n hx hb dX5_copyPlace_63 rfl (lv_at hl 0 rfl) ?_
    refine gf_13_4 hx hb ht hK hI mw_120 (fun _ h9 => h9) hown dX5_copyPlace_64 ?_
    refine lv_iload_n hx hb dX5_copyPlace_67 rfl (lv_at hl 1 rfl) ?_
    obtain ⟨g11, hm⟩ := gb_some hm
    refine ld_18 hx hb hK hI g11 (v := σ 18 (ix u1)) rfl dX5_copyPlace_68 ?_
    refine lv_icmp_ge (tgt := 94) hx hb dX5_copyPlace_69 (by decide) (fun c12 => ?_) (fun c12 => ?_)
    · have hm := (if_pos c12).symm.trans hm
      exact hx94 σ v3 _ _ _ hm hI (lv_sub hl [] rfl)
    · have hm := (if_neg c12).symm.trans hm
      refine lv_aload_n hx hb dX5_copyPlace_72 rfl (lv_at hl 0 rfl) ?_
      refine gf_13_5 hx hb ht hK hI mw_121 (fun _ h9 => h9) hown dX5_copyPlace_73 ?_
      refine lv_iload_n hx hb dX5_copyPlace_76 rfl (lv_at hl 3 rfl) ?_
      obtain ⟨g13, hm⟩ := gb_some hm
      refine ld_19 hx hb hK hI g13 dX5_copyPlace_77 ?_
      refine lv_iload_n hx hb dX5_copyPlace_78 rfl (lv_at hl 2 rfl) ?_
      refine lv_aload_n hx hb dX5_copyPlace_79 rfl (lv_at hl 0 rfl) ?_
      refine gf_13_5 hx hb ht hK hI mw_121 (fun _ h9 => h9) hown dX5_copyPlace_80 ?_
      refine lv_iload_n hx hb dX5_copyPlace_83 rfl (lv_at hl 3 rfl) ?_
      obtain ⟨g14, hm⟩ := gb_some hm
      refine ld_19 hx hb hK hI g14 dX5_copyPlace_84 ?_
      refine lv_iload_n hx hb dX5_copyPlace_85 rfl (lv_at hl 1 rfl) ?_
      obtain ⟨g15, hm⟩ := gb_some hm
      refine ld_rd hx hb hK hI g14 g15 (v := σ 19 (ix u1 * 6 + ix v3)) rfl dX5_copyPlace_86 ?_
      obtain ⟨g16, hm⟩ := gb_some hm
      refine sv_rd hx hb hK hI g13 g16 dX5_copyPlace_87 (fun H locs hI => ?_)
      refine lv_iinc (v := v3 + 1) (lv' := [(3, .int (v3 + 1)), (0, .ref (ga g 13)), (1, .int u1), (2, .int u2)]) hx hb dX5_copyPlace_88 hl (k := 3) rfl (congrArg (fun z => v3 + z) (show Int32.ofInt 1 = 1 by decide)) (by decide) rfl (fun ls hl => ?_)
      refine lv_goto (tgt := 62) hx hb dX5_copyPlace_91 (by decide) ?_
      exact ih (sg σ 19 (ix u2 * 6 + ix v3) (σ 19 (ix u1 * 6 + ix v3))) (v3 + 1) _ _ _ hm hI (lv_sub hl [1, 2, 3, 0] rfl) hx94
set_option maxHeartbeats 4000000 in
set_option maxRecDepth 100000 in
theorem c_X5_copyPlace {l : Launch} {g : GG} {q : Nat} (N n : Nat) {σ : Sg} {p0 : Int32} {p1 : Int32} {r : Int32} {σ' : Sg} (hm : f_X5_copyPlace N n σ p0 p1 = some (r, σ')) : CTv l yX5_copyPlace cX5_copyPlace 4 none 0 0 g q n [.ref (ga g 13), .int p0, .int p1] σ σ' := by
  refine e_v (r := r) (by decide) (Nat.le_of_ble_eq_true rfl) ?_
  intro p e s m args below meth c A Q ls hC hl hI
  obtain ⟨hX, hK, hN, hZ, hA, hR⟩ := id hC
  have hx : p.tables.exec = Jvm.exec := hX.1
  have hb : c.code = cX5_copyPlace := hX.2.1
  have hml : c.maxLocals = 4 := hX.2.2.1
  have hown : s.vm.findClass RX5 = some m.cls := hX.2.2.2.1
  have ht : ∀ w ∈ BIG, w.before args s = true := hX.2.2.2.2
  have hl : lv_has ls 4 [(0, .ref (ga g 13)), (1, .int p0), (2, .int p1)] := hl
  unfold f_X5_copyPlace at hm
  refine lv_aload_n hx hb dX5_copyPlace_0 rfl (lv_at hl 0 rfl) ?_
  refine gf_13_0 hx hb ht hK hI mw_133 (fun _ h9 => h9) hown dX5_copyPlace_1 ?_
  refine lv_iload_n hx hb dX5_copyPlace_4 rfl (lv_at hl 2 rfl) ?_
  refine lv_aload_n hx hb dX5_copyPlace_5 rfl (lv_at hl 0 rfl) ?_
  refine gf_13_0 hx hb ht hK hI mw_133 (fun _ h9 => h9) hown dX5_copyPlace_6 ?_
  refine lv_iload_n hx hb dX5_copyPlace_9 rfl (lv_at hl 1 rfl) ?_
  obtain ⟨g1, hm⟩ := gb_some hm
  refine ld_14 hx hb hK hI g1 (v := σ 14 (ix p0)) rfl dX5_copyPlace_10 ?_
  obtain ⟨g2, hm⟩ := gb_some hm
  refine sv_14 hx hb hK hI g2 dX5_copyPlace_11 (fun H locs hI => ?_)
  refine lv_aload_n hx hb dX5_copyPlace_12 rfl (lv_at hl 0 rfl) ?_
  refine gf_13_1 hx hb ht hK hI mw_386 (fun _ h9 => h9) hown dX5_copyPlace_13 ?_
  refine lv_iload_n hx hb dX5_copyPlace_16 rfl (lv_at hl 2 rfl) ?_
  refine lv_aload_n hx hb dX5_copyPlace_17 rfl (lv_at hl 0 rfl) ?_
  refine gf_13_1 hx hb ht hK hI mw_386 (fun _ h9 => h9) hown dX5_copyPlace_18 ?_
  refine lv_iload_n hx hb dX5_copyPlace_21 rfl (lv_at hl 1 rfl) ?_
  obtain ⟨g3, hm⟩ := gb_some hm
  refine ld_15 hx hb hK hI g3 (v := σ 15 (ix p0)) rfl dX5_copyPlace_22 ?_
  obtain ⟨g4, hm⟩ := gb_some hm
  refine sv_15 hx hb hK hI g4 dX5_copyPlace_23 (fun H locs hI => ?_)
  refine lv_aload_n hx hb dX5_copyPlace_24 rfl (lv_at hl 0 rfl) ?_
  refine gf_13_2 hx hb ht hK hI mw_387 (fun _ h9 => h9) hown dX5_copyPlace_25 ?_
  refine lv_iload_n hx hb dX5_copyPlace_28 rfl (lv_at hl 2 rfl) ?_
  refine lv_aload_n hx hb dX5_copyPlace_29 rfl (lv_at hl 0 rfl) ?_
  refine gf_13_2 hx hb ht hK hI mw_387 (fun _ h9 => h9) hown dX5_copyPlace_30 ?_
  refine lv_iload_n hx hb dX5_copyPlace_33 rfl (lv_at hl 1 rfl) ?_
  obtain ⟨g5, hm⟩ := gb_some hm
  refine ld_16 hx hb hK hI g5 (v := σ 16 (ix p0)) rfl dX5_copyPlace_34 ?_
  obtain ⟨g6, hm⟩ := gb_some hm
  refine sv_16 hx hb hK hI g6 dX5_copyPlace_35 (fun H locs hI => ?_)
  refine lv_aload_n hx hb dX5_copyPlace_36 rfl (lv_at hl 0 rfl) ?_
  refine gf_13_3 hx hb ht hK hI mw_134 (fun _ h9 => h9) hown dX5_copyPlace_37 ?_
  refine lv_iload_n hx hb dX5_copyPlace_40 rfl (lv_at hl 2 rfl) ?_
  refine lv_aload_n hx hb dX5_copyPlace_41 rfl (lv_at hl 0 rfl) ?_
  refine gf_13_3 hx hb ht hK hI mw_134 (fun _ h9 => h9) hown dX5_copyPlace_42 ?_
  refine lv_iload_n hx hb dX5_copyPlace_45 rfl (lv_at hl 1 rfl) ?_
  obtain ⟨g7, hm⟩ := gb_some hm
  refine ld_17 hx hb hK hI g7 (v := σ 17 (ix p0)) rfl dX5_copyPlace_46 ?_
  obtain ⟨g8, hm⟩ := gb_some hm
  refine sv_17 hx hb hK hI g8 dX5_copyPlace_47 (fun H locs hI => ?_)
  refine lv_aload_n hx hb dX5_copyPlace_48 rfl (lv_at hl 0 rfl) ?_
  refine gf_13_4 hx hb ht hK hI mw_120 (fun _ h9 => h9) hown dX5_copyPlace_49 ?_
  refine lv_iload_n hx hb dX5_copyPlace_52 rfl (lv_at hl 2 rfl) ?_
  refine lv_aload_n hx hb dX5_copyPlace_53 rfl (lv_at hl 0 rfl) ?_
  refine gf_13_4 hx hb ht hK hI mw_120 (fun _ h9 => h9) hown dX5_copyPlace_54 ?_
  refine lv_iload_n hx hb dX5_copyPlace_57 rfl (lv_at hl 1 rfl) ?_
  obtain ⟨g9, hm⟩ := gb_some hm
  refine ld_18 hx hb hK hI g9 (v := σ 18 (ix p0)) rfl dX5_copyPlace_58 ?_
  obtain ⟨g10, hm⟩ := gb_some hm
  refine sv_18 hx hb hK hI g10 dX5_copyPlace_59 (fun H locs hI => ?_)
  refine lv_iconst (v := 0) hx hb dX5_copyPlace_60 (by decide) ?_
  refine lv_istore_n (lv' := [(3, .int 0), (0, .ref (ga g 13)), (1, .int p0), (2, .int p1)]) hx hb dX5_copyPlace_61 rfl hl (by decide) rfl (fun ls hl => ?_)
  refine lp_X5_copyPlace_62 hC N _ _ _ _ _ hm hI (lv_sub hl [1, 2, 3, 0] rfl) ?_
  intro σ17 w18 H locs ls hm hI hl
  exact hR _ _ _ _ _ hm hI dX5_copyPlace_94
def f_X5_isUseless (N n : Nat) (σ : Sg) (p0 : Int32) : Option (Int32 × Sg) := gb p0 300 (if (σ 14 (ix p0)) = 0 then (gb p0 300 (if (σ 14 (ix p0)) = 1 then (gb p0 300 (gb 0 6 (gb p0 300 (if (σ 17 (ix p0)) = (σ 19 (ix p0 * 6 + ix 0)) then (some (1, σ)) else (gb p0 300 (gb p0 300 (if (((σ 31 (ix p0)) >>> ((σ 17 (ix p0)) &&& 31)) &&& 1) = 0 then (some (1, σ)) else (some (0, σ))))))))) else (gb p0 300 (gb p0 300 (if (((σ 31 (ix p0)) >>> ((σ 17 (ix p0)) &&& 31)) &&& 1) = 0 then (some (1, σ)) else (some (0, σ))))))) else (gb p0 300 (if (σ 14 (ix p0)) = 1 then (gb p0 300 (gb p0 300 (gb 0 6 (gb p0 300 (if (σ 17 (ix p0)) = (σ 19 (ix p0 * 6 + ix 0)) then (some (1, σ)) else (gb p0 300 (gb p0 300 (if (((σ 31 (ix p0)) >>> ((σ 17 (ix p0)) &&& 31)) &&& 1) = 0 then (some (1, σ)) else (some (0, σ)))))))))) else (some (0, σ)))))
set_option maxHeartbeats 4000000 in
set_option maxRecDepth 100000 in
theorem c_X5_isUseless {l : Launch} {g : GG} {q : Nat} (N n : Nat) {σ : Sg} {p0 : Int32} {r : Int32} {σ' : Sg} (hm : f_X5_isUseless N n σ p0 = some (r, σ')) : CTi l yX5_isUseless cX5_isUseless 4 (some .boolean) 0 0 g q n [.ref (ga g 13), .int p0, .ref (ga g 29)] σ r σ' := by
  refine e_z (r := r) (by decide) (Nat.le_of_ble_eq_true rfl) ?_
  intro p e s m args below meth c A Q ls hC hl hI
  obtain ⟨hX, hK, hN, hZ, hA, hR⟩ := id hC
  have hx : p.tables.exec = Jvm.exec := hX.1
  have hb : c.code = cX5_isUseless := hX.2.1
  have hml : c.maxLocals = 4 := hX.2.2.1
  have hown : s.vm.findClass RX5 = some m.cls := hX.2.2.2.1
  have ht : ∀ w ∈ BIG, w.before args s = true := hX.2.2.2.2
  have hl : lv_has ls 4 [(0, .ref (ga g 13)), (1, .int p0), (2, .ref (ga g 29))] := hl
  unfold f_X5_isUseless at hm
  refine lv_aload_n hx hb dX5_isUseless_0 rfl (lv_at hl 0 rfl) ?_
  refine gf_13_0 hx hb ht hK hI mw_133 (fun _ h9 => h9) hown dX5_isUseless_1 ?_
  refine lv_iload_n hx hb dX5_isUseless_4 rfl (lv_at hl 1 rfl) ?_
  obtain ⟨g1, hm⟩ := gb_some hm
  refine ld_14 hx hb hK hI g1 (v := σ 14 (ix p0)) rfl dX5_isUseless_5 ?_
  refine lv_if_eq (tgt := 21) hx hb dX5_isUseless_6 (by decide) (fun c2 => ?_) (fun c2 => ?_)
  · have hm := (if_pos c2).symm.trans hm
    refine lv_aload_n hx hb dX5_isUseless_21 rfl (lv_at hl 0 rfl) ?_
    refine gf_13_0 hx hb ht hK hI mw_133 (fun _ h9 => h9) hown dX5_isUseless_22 ?_
    refine lv_iload_n hx hb dX5_isUseless_25 rfl (lv_at hl 1 rfl) ?_
    obtain ⟨g3, hm⟩ := gb_some hm
    refine ld_14 hx hb hK hI g3 (v := σ 14 (ix p0)) rfl dX5_isUseless_26 ?_
    refine lv_iconst (v := 1) hx hb dX5_isUseless_27 (by decide) ?_
    refine lv_icmp_ne (tgt := 52) hx hb dX5_isUseless_28 (by decide) (fun c4 => ?_) (fun c4 => ?_)
    · have hm := (if_neg c4).symm.trans hm
      refine lv_iconst (v := 0) hx hb dX5_isUseless_52 (by decide) ?_
      refine lv_istore_n (lv' := [(3, .int 0), (0, .ref (ga g 13)), (1, .int p0), (2, .ref (ga g 29))]) hx hb dX5_isUseless_53 rfl hl (by decide) rfl (fun ls hl => ?_)
      refine lv_iload_n hx hb dX5_isUseless_54 rfl (lv_at hl 0 rfl) ?_
      refine lv_if_ne (tgt := 76) hx hb dX5_isUseless_55 (by decide) (fun h => absurd h (by decide)) (fun _ => ?_)
      refine lv_aload_n hx hb dX5_isUseless_58 rfl (lv_at hl 3 rfl) ?_
      refine gf_29_1 hx hb ht hK hI mw_441 (fun _ h9 => h9) hown dX5_isUseless_59 ?_
      refine lv_iload_n hx hb dX5_isUseless_62 rfl (lv_at hl 2 rfl) ?_
      obtain ⟨g5, hm⟩ := gb_some hm
      refine ld_31 hx hb hK hI g5 (v := σ 31 (ix p0)) rfl dX5_isUseless_63 ?_
      refine lv_aload_n hx hb dX5_isUseless_64 rfl (lv_at hl 1 rfl) ?_
      refine gf_13_3 hx hb ht hK hI mw_134 (fun _ h9 => h9) hown dX5_isUseless_65 ?_
      refine lv_iload_n hx hb dX5_isUseless_68 rfl (lv_at hl 2 rfl) ?_
      obtain ⟨g6, hm⟩ := gb_some hm
      refine ld_17 hx hb hK hI g6 (v := σ 17 (ix p0)) rfl dX5_isUseless_69 ?_
      refine lv_ishr hx hb dX5_isUseless_70 ?_
      refine lv_iconst (v := 1) hx hb dX5_isUseless_71 (by decide) ?_
      refine lv_iand hx hb dX5_isUseless_72 ?_
      refine lv_if_ne (tgt := 80) hx hb dX5_isUseless_73 (by decide) (fun c7 => ?_) (fun c7 => ?_)
      · have hm := (if_neg c7).symm.trans hm
        refine lv_iconst (v := 0) hx hb dX5_isUseless_80 (by decide) ?_
        exact hR _ _ _ _ _ _ hm hI (by decide) dX5_isUseless_81
      · have hm := (if_pos c7).symm.trans hm
        refine lv_iconst (v := 1) hx hb dX5_isUseless_76 (by decide) ?_
        refine lv_goto (tgt := 81) hx hb dX5_isUseless_77 (by decide) ?_
        exact hR _ _ _ _ _ _ hm hI (by decide) dX5_isUseless_81
    · have hm := (if_pos c4).symm.trans hm
      refine lv_aload_n hx hb dX5_isUseless_31 rfl (lv_at hl 0 rfl) ?_
      refine gf_13_3 hx hb ht hK hI mw_134 (fun _ h9 => h9) hown dX5_isUseless_32 ?_
      refine lv_iload_n hx hb dX5_isUseless_35 rfl (lv_at hl 1 rfl) ?_
      obtain ⟨g8, hm⟩ := gb_some hm
      refine ld_17 hx hb hK hI g8 (v := σ 17 (ix p0)) rfl dX5_isUseless_36 ?_
      refine lv_aload_n hx hb dX5_isUseless_37 rfl (lv_at hl 0 rfl) ?_
      refine gf_13_5 hx hb ht hK hI mw_121 (fun _ h9 => h9) hown dX5_isUseless_38 ?_
      refine lv_iconst (v := 0) hx hb dX5_isUseless_41 (by decide) ?_
      obtain ⟨g9, hm⟩ := gb_some hm
      refine ld_19 hx hb hK hI g9 dX5_isUseless_42 ?_
      refine lv_iload_n hx hb dX5_isUseless_43 rfl (lv_at hl 1 rfl) ?_
      obtain ⟨g10, hm⟩ := gb_some hm
      refine ld_rd hx hb hK hI g9 g10 (v := σ 19 (ix p0 * 6 + ix 0)) rfl dX5_isUseless_44 ?_
      refine lv_icmp_ne (tgt := 52) hx hb dX5_isUseless_45 (by decide) (fun c11 => ?_) (fun c11 => ?_)
      · have hm := (if_neg c11).symm.trans hm
        refine lv_iconst (v := 0) hx hb dX5_isUseless_52 (by decide) ?_
        refine lv_istore_n (lv' := [(3, .int 0), (0, .ref (ga g 13)), (1, .int p0), (2, .ref (ga g 29))]) hx hb dX5_isUseless_53 rfl hl (by decide) rfl (fun ls hl => ?_)
        refine lv_iload_n hx hb dX5_isUseless_54 rfl (lv_at hl 0 rfl) ?_
        refine lv_if_ne (tgt := 76) hx hb dX5_isUseless_55 (by decide) (fun h => absurd h (by decide)) (fun _ => ?_)
        refine lv_aload_n hx hb dX5_isUseless_58 rfl (lv_at hl 3 rfl) ?_
        refine gf_29_1 hx hb ht hK hI mw_441 (fun _ h9 => h9) hown dX5_isUseless_59 ?_
        refine lv_iload_n hx hb dX5_isUseless_62 rfl (lv_at hl 2 rfl) ?_
        obtain ⟨g12, hm⟩ := gb_some hm
        refine ld_31 hx hb hK hI g12 (v := σ 31 (ix p0)) rfl dX5_isUseless_63 ?_
        refine lv_aload_n hx hb dX5_isUseless_64 rfl (lv_at hl 1 rfl) ?_
        refine gf_13_3 hx hb ht hK hI mw_134 (fun _ h9 => h9) hown dX5_isUseless_65 ?_
        refine lv_iload_n hx hb dX5_isUseless_68 rfl (lv_at hl 2 rfl) ?_
        obtain ⟨g13, hm⟩ := gb_some hm
        refine ld_17 hx hb hK hI g13 (v := σ 17 (ix p0)) rfl dX5_isUseless_69 ?_
        refine lv_ishr hx hb dX5_isUseless_70 ?_
        refine lv_iconst (v := 1) hx hb dX5_isUseless_71 (by decide) ?_
        refine lv_iand hx hb dX5_isUseless_72 ?_
        refine lv_if_ne (tgt := 80) hx hb dX5_isUseless_73 (by decide) (fun c14 => ?_) (fun c14 => ?_)
        · have hm := (if_neg c14).symm.trans hm
          refine lv_iconst (v := 0) hx hb dX5_isUseless_80 (by decide) ?_
          exact hR _ _ _ _ _ _ hm hI (by decide) dX5_isUseless_81
        · have hm := (if_pos c14).symm.trans hm
          refine lv_iconst (v := 1) hx hb dX5_isUseless_76 (by decide) ?_
          refine lv_goto (tgt := 81) hx hb dX5_isUseless_77 (by decide) ?_
          exact hR _ _ _ _ _ _ hm hI (by decide) dX5_isUseless_81
      · have hm := (if_pos c11).symm.trans hm
        refine lv_iconst (v := 1) hx hb dX5_isUseless_48 (by decide) ?_
        refine lv_goto (tgt := 53) hx hb dX5_isUseless_49 (by decide) ?_
        refine lv_istore_n (lv' := [(3, .int 1), (0, .ref (ga g 13)), (1, .int p0), (2, .ref (ga g 29))]) hx hb dX5_isUseless_53 rfl hl (by decide) rfl (fun ls hl => ?_)
        refine lv_iload_n hx hb dX5_isUseless_54 rfl (lv_at hl 0 rfl) ?_
        refine lv_if_ne (tgt := 76) hx hb dX5_isUseless_55 (by decide) (fun _ => ?_) (fun h => absurd h (by decide))
        refine lv_iconst (v := 1) hx hb dX5_isUseless_76 (by decide) ?_
        refine lv_goto (tgt := 81) hx hb dX5_isUseless_77 (by decide) ?_
        exact hR _ _ _ _ _ _ hm hI (by decide) dX5_isUseless_81
  · have hm := (if_neg c2).symm.trans hm
    refine lv_aload_n hx hb dX5_isUseless_9 rfl (lv_at hl 0 rfl) ?_
    refine gf_13_0 hx hb ht hK hI mw_133 (fun _ h9 => h9) hown dX5_isUseless_10 ?_
    refine lv_iload_n hx hb dX5_isUseless_13 rfl (lv_at hl 1 rfl) ?_
    obtain ⟨g15, hm⟩ := gb_some hm
    refine ld_14 hx hb hK hI g15 (v := σ 14 (ix p0)) rfl dX5_isUseless_14 ?_
    refine lv_iconst (v := 1) hx hb dX5_isUseless_15 (by decide) ?_
    refine lv_icmp_eq (tgt := 21) hx hb dX5_isUseless_16 (by decide) (fun c16 => ?_) (fun c16 => ?_)
    · have hm := (if_pos c16).symm.trans hm
      refine lv_aload_n hx hb dX5_isUseless_21 rfl (lv_at hl 0 rfl) ?_
      refine gf_13_0 hx hb ht hK hI mw_133 (fun _ h9 => h9) hown dX5_isUseless_22 ?_
      refine lv_iload_n hx hb dX5_isUseless_25 rfl (lv_at hl 1 rfl) ?_
      obtain ⟨g17, hm⟩ := gb_some hm
      refine ld_14 hx hb hK hI g17 (v := σ 14 (ix p0)) rfl dX5_isUseless_26 ?_
      refine lv_iconst (v := 1) hx hb dX5_isUseless_27 (by decide) ?_
      refine lv_icmp_ne (tgt := 52) hx hb dX5_isUseless_28 (by decide) (fun h => absurd c16 h) (fun _ => ?_)
      refine lv_aload_n hx hb dX5_isUseless_31 rfl (lv_at hl 0 rfl) ?_
      refine gf_13_3 hx hb ht hK hI mw_134 (fun _ h9 => h9) hown dX5_isUseless_32 ?_
      refine lv_iload_n hx hb dX5_isUseless_35 rfl (lv_at hl 1 rfl) ?_
      obtain ⟨g18, hm⟩ := gb_some hm
      refine ld_17 hx hb hK hI g18 (v := σ 17 (ix p0)) rfl dX5_isUseless_36 ?_
      refine lv_aload_n hx hb dX5_isUseless_37 rfl (lv_at hl 0 rfl) ?_
      refine gf_13_5 hx hb ht hK hI mw_121 (fun _ h9 => h9) hown dX5_isUseless_38 ?_
      refine lv_iconst (v := 0) hx hb dX5_isUseless_41 (by decide) ?_
      obtain ⟨g19, hm⟩ := gb_some hm
      refine ld_19 hx hb hK hI g19 dX5_isUseless_42 ?_
      refine lv_iload_n hx hb dX5_isUseless_43 rfl (lv_at hl 1 rfl) ?_
      obtain ⟨g20, hm⟩ := gb_some hm
      refine ld_rd hx hb hK hI g19 g20 (v := σ 19 (ix p0 * 6 + ix 0)) rfl dX5_isUseless_44 ?_
      refine lv_icmp_ne (tgt := 52) hx hb dX5_isUseless_45 (by decide) (fun c21 => ?_) (fun c21 => ?_)
      · have hm := (if_neg c21).symm.trans hm
        refine lv_iconst (v := 0) hx hb dX5_isUseless_52 (by decide) ?_
        refine lv_istore_n (lv' := [(3, .int 0), (0, .ref (ga g 13)), (1, .int p0), (2, .ref (ga g 29))]) hx hb dX5_isUseless_53 rfl hl (by decide) rfl (fun ls hl => ?_)
        refine lv_iload_n hx hb dX5_isUseless_54 rfl (lv_at hl 0 rfl) ?_
        refine lv_if_ne (tgt := 76) hx hb dX5_isUseless_55 (by decide) (fun h => absurd h (by decide)) (fun _ => ?_)
        refine lv_aload_n hx hb dX5_isUseless_58 rfl (lv_at hl 3 rfl) ?_
        refine gf_29_1 hx hb ht hK hI mw_441 (fun _ h9 => h9) hown dX5_isUseless_59 ?_
        refine lv_iload_n hx hb dX5_isUseless_62 rfl (lv_at hl 2 rfl) ?_
        obtain ⟨g22, hm⟩ := gb_some hm
        refine ld_31 hx hb hK hI g22 (v := σ 31 (ix p0)) rfl dX5_isUseless_63 ?_
        refine lv_aload_n hx hb dX5_isUseless_64 rfl (lv_at hl 1 rfl) ?_
        refine gf_13_3 hx hb ht hK hI mw_134 (fun _ h9 => h9) hown dX5_isUseless_65 ?_
        refine lv_iload_n hx hb dX5_isUseless_68 rfl (lv_at hl 2 rfl) ?_
        obtain ⟨g23, hm⟩ := gb_some hm
        refine ld_17 hx hb hK hI g23 (v := σ 17 (ix p0)) rfl dX5_isUseless_69 ?_
        refine lv_ishr hx hb dX5_isUseless_70 ?_
        refine lv_iconst (v := 1) hx hb dX5_isUseless_71 (by decide) ?_
        refine lv_iand hx hb dX5_isUseless_72 ?_
        refine lv_if_ne (tgt := 80) hx hb dX5_isUseless_73 (by decide) (fun c24 => ?_) (fun c24 => ?_)
        · have hm := (if_neg c24).symm.trans hm
          refine lv_iconst (v := 0) hx hb dX5_isUseless_80 (by decide) ?_
          exact hR _ _ _ _ _ _ hm hI (by decide) dX5_isUseless_81
        · have hm := (if_pos c24).symm.trans hm
          refine lv_iconst (v := 1) hx hb dX5_isUseless_76 (by decide) ?_
          refine lv_goto (tgt := 81) hx hb dX5_isUseless_77 (by decide) ?_
          exact hR _ _ _ _ _ _ hm hI (by decide) dX5_isUseless_81
      · have hm := (if_pos c21).symm.trans hm
        refine lv_iconst (v := 1) hx hb dX5_isUseless_48 (by decide) ?_
        refine lv_goto (tgt := 53) hx hb dX5_isUseless_49 (by decide) ?_
        refine lv_istore_n (lv' := [(3, .int 1), (0, .ref (ga g 13)), (1, .int p0), (2, .ref (ga g 29))]) hx hb dX5_isUseless_53 rfl hl (by decide) rfl (fun ls hl => ?_)
        refine lv_iload_n hx hb dX5_isUseless_54 rfl (lv_at hl 0 rfl) ?_
        refine lv_if_ne (tgt := 76) hx hb dX5_isUseless_55 (by decide) (fun _ => ?_) (fun h => absurd h (by decide))
        refine lv_iconst (v := 1) hx hb dX5_isUseless_76 (by decide) ?_
        refine lv_goto (tgt := 81) hx hb dX5_isUseless_77 (by decide) ?_
        exact hR _ _ _ _ _ _ hm hI (by decide) dX5_isUseless_81
    · have hm := (if_neg c16).symm.trans hm
      refine lv_iconst (v := 0) hx hb dX5_isUseless_19 (by decide) ?_
      exact hR _ _ _ _ _ _ hm hI (by decide) dX5_isUseless_20
