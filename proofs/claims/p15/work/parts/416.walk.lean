def lb_X5_dropUseless_4 (N n : Nat)  (K43 : (Sg → Int32 → Int32 → Option (Int32 × Sg))) (rec : (Sg → Int32 → Int32 → Option (Int32 × Sg))) (σ : Sg) (v2 : Int32) (v3 : Int32) : Option (Int32 × Sg) := if (σ 13 6) ≤ v3 then (K43 σ v2 v3) else (gb v3 300 (bd (f_X5_isUseless N n (sg σ 26 (ix v3) v2) v3) (fun r3 σ4 => if r3 = 0 then (bd (f_X5_copyPlace N n σ4 v3 v2) (fun r7 σ8 => rec σ8 (v2 + 1) (v3 + 1))) else (rec σ4 v2 (v3 + 1)))))
def lf_X5_dropUseless_4 (N n : Nat)  (K43 : (Sg → Int32 → Int32 → Option (Int32 × Sg))) : Nat → (Sg → Int32 → Int32 → Option (Int32 × Sg))
  | 0 => fun _ _ _ => none
  | k + 1 => lb_X5_dropUseless_4 N n  K43 (lf_X5_dropUseless_4 N n  K43 k)
def f_X5_dropUseless (N n : Nat) (σ : Sg)  : Option (Int32 × Sg) := lf_X5_dropUseless_4 N n  (fun σ10 w11 w12 => if (σ10 13 6) ≤ w11 then (bd (f_X5_aimAnew N n (sg σ10 13 6 w11) ) (fun r14 σ15 => some (0, σ15))) else (bd (f_X5_aimAnew N n (sg σ10 13 6 w11) ) (fun r17 σ18 => some (1, σ18)))) N σ 0 0
set_option maxHeartbeats 4000000 in
set_option maxRecDepth 100000 in
theorem lp_X5_dropUseless_4 {p : Program} {l : Launch} {e : Env} {s : State} {m : MethodId} {args : Array Value} {below : List Frame} {meth : Method} {c : Code} {Q : State → Prop} {A : Nat → Prop} {g : GG} {q N n : Nat} {out : Int32 × Sg}  {K43 : (Sg → Int32 → Int32 → Option (Int32 × Sg))}
    (hC : CXz p l e (qR 2 42) s m args below meth c cX5_dropUseless 4 RX5 g q n A Q (some out)) :
    ∀ (k : Nat) (σ : Sg) (v2 : Int32) (v3 : Int32) (H : Heap) (locs : List Loc) (ls : Array Slot), lf_X5_dropUseless_4 N n  K43 k σ v2 v3 = some out → wI g q n σ A s.heap H locs → lv_has ls 4 [(0, .ref (ga g 13)), (1, .ref (ga g 29)), (2, .int v2), (3, .int v3)] → (∀ (σ : Sg) (v2 : Int32) (v3 : Int32) (H : Heap) (locs : List Loc) (ls : Array Slot), K43 σ v2 v3 = some out → wI g q n σ A s.heap H locs → lv_has ls 4 [(0, .ref (ga g 13)), (2, .int v2)] → W p l e (qR 2 42) s m args below meth c H locs 0 0 Q (F0 m 43 ls [])) → W p l e (qR 2 42) s m args below meth c H locs 0 0 Q (F0 m 4 ls []) := by
  obtain ⟨hX, hK, hN, hZ, hA, hR⟩ := id hC
  have hx : p.tables.exec = Jvm.exec := hX.1
  have hb : c.code = cX5_dropUseless := hX.2.1
  have hml : c.maxLocals = 4 := hX.2.2.1
  have hown : s.vm.findClass RX5 = some m.cls := hX.2.2.2.1
  have ht : ∀ w ∈ BIG, w.before args s = true := hX.2.2.2.2
  intro k
  induction k with
  | zero =>
    intro σ v2 v3 H locs ls hm
    have hm : none = some out := hm
    exact nomatch hm
  | succ k ih =>
    intro σ v2 v3 H locs ls hm hI hl hx43
    have hm : lb_X5_dropUseless_4 N n  K43 (lf_X5_dropUseless_4 N n  K43 k) σ v2 v3 = some out := hm
    unfold lb_X5_dropUseless_4 at hm
    refine lv_iload_n hx hb dX5_dropUseless_4 rfl (lv_at hl 3 rfl) ?_
    refine lv_aload_n hx hb dX5_dropUseless_5 rfl (lv_at hl 0 rfl) ?_
    refine gf_13_6 hx hb ht hK hI (v := σ 13 6) rfl mw_173 (fun _ h9 => h9) hown dX5_dropUseless_6 ?_
    refine lv_icmp_ge (tgt := 43) hx hb dX5_dropUseless_9 (by decide) (fun c1 => ?_) (fun c1 => ?_)
    · have hm := (if_pos c1).symm.trans hm
      exact hx43 σ v2 v3 _ _ _ hm hI (lv_sub hl [0, 2] rfl)
    · have hm := (if_neg c1).symm.trans hm
      refine lv_aload_n hx hb dX5_dropUseless_12 rfl (lv_at hl 0 rfl) ?_
      refine gf_13_7 hx hb ht hK hI mw_389 (fun _ h9 => h9) hown dX5_dropUseless_13 ?_
      refine lv_iload_n hx hb dX5_dropUseless_16 rfl (lv_at hl 3 rfl) ?_
      refine lv_iload_n hx hb dX5_dropUseless_17 rfl (lv_at hl 2 rfl) ?_
      obtain ⟨g2, hm⟩ := gb_some hm
      refine sv_26 hx hb hK hI g2 dX5_dropUseless_18 (fun H locs hI => ?_)
      refine lv_aload_n hx hb dX5_dropUseless_19 rfl (lv_at hl 0 rfl) ?_
      refine lv_iload_n hx hb dX5_dropUseless_20 rfl (lv_at hl 3 rfl) ?_
      refine lv_aload_n hx hb dX5_dropUseless_21 rfl (lv_at hl 1 rfl) ?_
      obtain ⟨r3, σ4, h5, hm⟩ := bd_some hm
      refine k_i hI hA (va_runV (As := [.int v3, .ref (ga g 29)]) (rest := []) hX (c_X5_isUseless N n h5 _) (cwV 2 ht (in_V mw_443 mw_444 mw_445 mw_138 mw_440) rfl rfl rfl pd_X5_isUseless ⟨Nat.le_of_ble_eq_true rfl, Nat.le_of_ble_eq_true rfl⟩) ⟨q_blind, va_recv hK hI.1 (ci := 4) (q0 := 13) rfl rfl, q_to hI hK hN hZ hA⟩ rfl rfl hl.1 rfl (lv_room (Nat.le_of_ble_eq_true rfl)) dX5_dropUseless_22 (by decide)) (fun H locs hI => ?_)
      refine lv_if_ne (tgt := 37) hx hb dX5_dropUseless_25 (by decide) (fun c6 => ?_) (fun c6 => ?_)
      · have hm := (if_neg c6).symm.trans hm
        refine lv_iinc (v := v3 + 1) (lv' := [(3, .int (v3 + 1)), (0, .ref (ga g 13)), (1, .ref (ga g 29)), (2, .int v2)]) hx hb dX5_dropUseless_37 hl (k := 3) rfl (congrArg (fun z => v3 + z) (show Int32.ofInt 1 = 1 by decide)) (by decide) rfl (fun ls hl => ?_)
        refine lv_goto (tgt := 4) hx hb dX5_dropUseless_40 (by decide) ?_
        exact ih σ4 v2 (v3 + 1) _ _ _ hm hI (lv_sub hl [1, 2, 3, 0] rfl) hx43
      · have hm := (if_pos c6).symm.trans hm
        refine lv_aload_n hx hb dX5_dropUseless_28 rfl (lv_at hl 0 rfl) ?_
        refine lv_iload_n hx hb dX5_dropUseless_29 rfl (lv_at hl 3 rfl) ?_
        refine lv_iload_n hx hb dX5_dropUseless_30 rfl (lv_at hl 2 rfl) ?_
        obtain ⟨r7, σ8, h9, hm⟩ := bd_some hm
        refine k_v hI hA (va_runV (As := [.int v3, .int v2]) (rest := []) hX (c_X5_copyPlace N n h9 _) (cwV 2 ht (in_V mw_446 mw_447 mw_448 mw_138 mw_442) rfl rfl rfl pd_X5_copyPlace ⟨Nat.le_of_ble_eq_true rfl, Nat.le_of_ble_eq_true rfl⟩) ⟨q_blind, va_recv hK hI.1 (ci := 4) (q0 := 13) rfl rfl, q_to hI hK hN hZ hA⟩ rfl rfl hl.1 rfl (lv_room (Nat.le_of_ble_eq_true rfl)) dX5_dropUseless_31 (by decide)) (fun H locs hI => ?_)
        refine lv_iinc (v := v2 + 1) (lv' := [(2, .int (v2 + 1)), (0, .ref (ga g 13)), (1, .ref (ga g 29)), (3, .int v3)]) hx hb dX5_dropUseless_34 hl (k := 2) rfl (congrArg (fun z => v2 + z) (show Int32.ofInt 1 = 1 by decide)) (by decide) rfl (fun ls hl => ?_)
        refine lv_iinc (v := v3 + 1) (lv' := [(3, .int (v3 + 1)), (2, .int (v2 + 1)), (0, .ref (ga g 13)), (1, .ref (ga g 29))]) hx hb dX5_dropUseless_37 hl (k := 3) rfl (congrArg (fun z => v3 + z) (show Int32.ofInt 1 = 1 by decide)) (by decide) rfl (fun ls hl => ?_)
        refine lv_goto (tgt := 4) hx hb dX5_dropUseless_40 (by decide) ?_
        exact ih σ8 (v2 + 1) (v3 + 1) _ _ _ hm hI (lv_sub hl [2, 3, 1, 0] rfl) hx43
set_option maxHeartbeats 4000000 in
set_option maxRecDepth 100000 in
theorem c_X5_dropUseless {l : Launch} {g : GG} {q : Nat} (N n : Nat) {σ : Sg}  {r : Int32} {σ' : Sg} (hm : f_X5_dropUseless N n σ  = some (r, σ')) : CTi l yX5_dropUseless cX5_dropUseless 4 (some .boolean) 2 42 g q n [.ref (ga g 13), .ref (ga g 29)] σ r σ' := by
  refine e_z (r := r) (by decide) (Nat.le_of_ble_eq_true rfl) ?_
  intro p e s m args below meth c A Q ls hC hl hI
  obtain ⟨hX, hK, hN, hZ, hA, hR⟩ := id hC
  have hx : p.tables.exec = Jvm.exec := hX.1
  have hb : c.code = cX5_dropUseless := hX.2.1
  have hml : c.maxLocals = 4 := hX.2.2.1
  have hown : s.vm.findClass RX5 = some m.cls := hX.2.2.2.1
  have ht : ∀ w ∈ BIG, w.before args s = true := hX.2.2.2.2
  have hl : lv_has ls 4 [(0, .ref (ga g 13)), (1, .ref (ga g 29))] := hl
  unfold f_X5_dropUseless at hm
  refine lv_iconst (v := 0) hx hb dX5_dropUseless_0 (by decide) ?_
  refine lv_istore_n (lv' := [(2, .int 0), (0, .ref (ga g 13)), (1, .ref (ga g 29))]) hx hb dX5_dropUseless_1 rfl hl (by decide) rfl (fun ls hl => ?_)
  refine lv_iconst (v := 0) hx hb dX5_dropUseless_2 (by decide) ?_
  refine lv_istore_n (lv' := [(3, .int 0), (2, .int 0), (0, .ref (ga g 13)), (1, .ref (ga g 29))]) hx hb dX5_dropUseless_3 rfl hl (by decide) rfl (fun ls hl => ?_)
  refine lp_X5_dropUseless_4 hC N _ _ _ _ _ _ hm hI (lv_sub hl [2, 3, 1, 0] rfl) ?_
  intro σ10 w11 w12 H locs ls hm hI hl
  refine lv_iload_n hx hb dX5_dropUseless_43 rfl (lv_at hl 1 rfl) ?_
  refine lv_aload_n hx hb dX5_dropUseless_44 rfl (lv_at hl 0 rfl) ?_
  refine gf_13_6 hx hb ht hK hI (v := σ10 13 6) rfl mw_173 (fun _ h9 => h9) hown dX5_dropUseless_45 ?_
  refine lv_icmp_ge (tgt := 55) hx hb dX5_dropUseless_48 (by decide) (fun c13 => ?_) (fun c13 => ?_)
  · have hm := (if_pos c13).symm.trans hm
    refine lv_iconst (v := 0) hx hb dX5_dropUseless_55 (by decide) ?_
    refine lv_istore_n (lv' := [(3, .int 0), (0, .ref (ga g 13)), (2, .int w11)]) hx hb dX5_dropUseless_56 rfl hl (by decide) rfl (fun ls hl => ?_)
    refine lv_aload_n hx hb dX5_dropUseless_57 rfl (lv_at hl 1 rfl) ?_
    refine lv_iload_n hx hb dX5_dropUseless_58 rfl (lv_at hl 2 rfl) ?_
    refine pf_13_6 hx hb ht hK hI mw_173 (fun _ h9 => h9) hown dX5_dropUseless_59 (fun H locs hI => ?_)
    refine lv_aload_n hx hb dX5_dropUseless_62 rfl (lv_at hl 1 rfl) ?_
    obtain ⟨r14, σ15, h16, hm⟩ := bd_some hm
    refine k_v hI hA (va_runV (As := []) (rest := []) hX (c_X5_aimAnew N n h16 _) (cwV 0 ht (in_V mw_421 mw_422 mw_423 mw_138 mw_413) rfl rfl rfl pd_X5_aimAnew ⟨Nat.le_of_ble_eq_true rfl, Nat.le_of_ble_eq_true rfl⟩) ⟨q_blind, va_recv hK hI.1 (ci := 4) (q0 := 13) rfl rfl, q_to hI hK hN hZ hA⟩ rfl rfl hl.1 rfl (lv_room (Nat.le_of_ble_eq_true rfl)) dX5_dropUseless_63 (by decide)) (fun H locs hI => ?_)
    refine lv_iload_n hx hb dX5_dropUseless_66 rfl (lv_at hl 0 rfl) ?_
    exact hR _ _ _ _ _ _ hm hI (by decide) dX5_dropUseless_67
  · have hm := (if_neg c13).symm.trans hm
    refine lv_iconst (v := 1) hx hb dX5_dropUseless_51 (by decide) ?_
    refine lv_goto (tgt := 56) hx hb dX5_dropUseless_52 (by decide) ?_
    refine lv_istore_n (lv' := [(3, .int 1), (0, .ref (ga g 13)), (2, .int w11)]) hx hb dX5_dropUseless_56 rfl hl (by decide) rfl (fun ls hl => ?_)
    refine lv_aload_n hx hb dX5_dropUseless_57 rfl (lv_at hl 1 rfl) ?_
    refine lv_iload_n hx hb dX5_dropUseless_58 rfl (lv_at hl 2 rfl) ?_
    refine pf_13_6 hx hb ht hK hI mw_173 (fun _ h9 => h9) hown dX5_dropUseless_59 (fun H locs hI => ?_)
    refine lv_aload_n hx hb dX5_dropUseless_62 rfl (lv_at hl 1 rfl) ?_
    obtain ⟨r17, σ18, h19, hm⟩ := bd_some hm
    refine k_v hI hA (va_runV (As := []) (rest := []) hX (c_X5_aimAnew N n h19 _) (cwV 0 ht (in_V mw_421 mw_422 mw_423 mw_138 mw_413) rfl rfl rfl pd_X5_aimAnew ⟨Nat.le_of_ble_eq_true rfl, Nat.le_of_ble_eq_true rfl⟩) ⟨q_blind, va_recv hK hI.1 (ci := 4) (q0 := 13) rfl rfl, q_to hI hK hN hZ hA⟩ rfl rfl hl.1 rfl (lv_room (Nat.le_of_ble_eq_true rfl)) dX5_dropUseless_63 (by decide)) (fun H locs hI => ?_)
    refine lv_iload_n hx hb dX5_dropUseless_66 rfl (lv_at hl 0 rfl) ?_
    exact hR _ _ _ _ _ _ hm hI (by decide) dX5_dropUseless_67
def lb_X5_forgetWritten_2 (N n : Nat) (u1 : Int32) (K62 : (Sg → Int32 → Option (Int32 × Sg))) (rec : (Sg → Int32 → Option (Int32 × Sg))) (σ : Sg) (v2 : Int32) : Option (Int32 × Sg) := if 22 ≤ v2 then (K62 σ v2) else (if ((u1 >>> (v2 &&& 31)) &&& 1) = 0 then (gb v2 22 (if (σ 28 (ix v2)) = (-1) then (rec σ (v2 + 1)) else (gb v2 22 (if ((u1 >>> ((σ 28 (ix v2)) &&& 31)) &&& 1) = 0 then (rec σ (v2 + 1)) else (gb v2 22 (rec (sg σ 28 (ix v2) (-1)) (v2 + 1))))))) else (gb v2 22 (rec (sg σ 28 (ix v2) (-1)) (v2 + 1))))
def lf_X5_forgetWritten_2 (N n : Nat) (u1 : Int32) (K62 : (Sg → Int32 → Option (Int32 × Sg))) : Nat → (Sg → Int32 → Option (Int32 × Sg))
  | 0 => fun _ _ => none
  | k + 1 => lb_X5_forgetWritten_2 N n u1 K62 (lf_X5_forgetWritten_2 N n u1 K62 k)
def f_X5_forgetWritten (N n : Nat) (σ : Sg) (p0 : Int32) : Option (Int32 × Sg) := lf_X5_forgetWritten_2 N n p0 (fun σ9 w10 => some (0, σ9)) N σ 0
set_option maxHeartbeats 4000000 in
set_option maxRecDepth 100000 in
theorem lp_X5_forgetWritten_2 {p : Program} {l : Launch} {e : Env} {s : State} {m : MethodId} {args : Array Value} {below : List Frame} {meth : Method} {c : Code} {Q : State → Prop} {A : Nat → Prop} {g : GG} {q N n : Nat} {out : Int32 × Sg} {u1 : Int32} {K62 : (Sg → Int32 → Option (Int32 × Sg))}
    (hC : CXv p l e (qR 0 0) s m args below meth c cX5_forgetWritten 4 RX5 g q n A Q (some out)) :
    ∀ (k : Nat) (σ : Sg) (v2 : Int32) (H : Heap) (locs : List Loc) (ls : Array Slot), lf_X5_forgetWritten_2 N n u1 K62 k σ v2 = some out → wI g q n σ A s.heap H locs → lv_has ls 4 [(0, .ref (ga g 13)), (1, .int u1), (2, .int v2)] → (∀ (σ : Sg) (v2 : Int32) (H : Heap) (locs : List Loc) (ls : Array Slot), K62 σ v2 = some out → wI g q n σ A s.heap H locs → lv_has ls 4 [] → W p l e (qR 0 0) s m args below meth c H locs 0 0 Q (F0 m 62 ls [])) → W p l e (qR 0 0) s m args below meth c H locs 0 0 Q (F0 m 2 ls []) := by
  obtain ⟨hX, hK, hN, hZ, hA, hR⟩ := id hC
  have hx : p.tables.exec = Jvm.exec := hX.1
  have hb : c.code = cX5_forgetWritten := hX.2.1
  have hml : c.maxLocals = 4 := hX.2.2.1
  have hown : s.vm.findClass RX5 = some m.cls := hX.2.2.2.1
  have ht : ∀ w ∈ BIG, w.before args s = true := hX.2.2.2.2
  intro k
  induction k with
  | zero =>
    intro σ v2 H locs ls hm
    have hm : none = some out := hm
    exact nomatch hm
  | succ k ih =>
    intro σ v2 H locs ls hm hI hl hx62
    have hm : lb_X5_forgetWritten_2 N n u1 K62 (lf_X5_forgetWritten_2 N n u1 K62 k) σ v2 = some out := hm
    unfold lb_X5_forgetWritten_2 at hm
    refine lv_iload_n hx hb dX5_forgetWritten_2 rfl (lv_at hl 2 rfl) ?_
    refine lv_bipush (v := 22) hx hb dX5_forgetWritten_3 (by decide) ?_
    refine lv_icmp_ge (tgt := 62) hx hb dX5_forgetWritten_5 (by decide) (fun c1 => ?_) (fun c1 => ?_)
    · have hm := (if_pos c1).symm.trans hm
      exact hx62 σ v2 _ _ _ hm hI (lv_sub hl [] rfl)
    · have hm := (if_neg c1).symm.trans hm
      refine lv_iload_n hx hb dX5_forgetWritten_8 rfl (lv_at hl 1 rfl) ?_
      refine lv_iload_n hx hb dX5_forgetWritten_9 rfl (lv_at hl 2 rfl) ?_
      refine lv_ishr hx hb dX5_forgetWritten_10 ?_
      refine lv_iconst (v := 1) hx hb dX5_forgetWritten_11 (by decide) ?_
      refine lv_iand hx hb dX5_forgetWritten_12 ?_
      refine lv_if_eq (tgt := 20) hx hb dX5_forgetWritten_13 (by decide) (fun c2 => ?_) (fun c2 => ?_)
      · have hm := (if_pos c2).symm.trans hm
        refine lv_iconst (v := 0) hx hb dX5_forgetWritten_20 (by decide) ?_
        refine lv_istore_n (lv' := [(3, .int 0), (0, .ref (ga g 13)), (1, .int u1), (2, .int v2)]) hx hb dX5_forgetWritten_21 rfl hl (by decide) rfl (fun ls hl => ?_)
        refine lv_iload_n hx hb dX5_forgetWritten_22 rfl (lv_at hl 0 rfl) ?_
        refine lv_if_ne (tgt := 49) hx hb dX5_forgetWritten_23 (by decide) (fun h => absurd h (by decide)) (fun _ => ?_)
        refine lv_aload_n hx hb dX5_forgetWritten_26 rfl (lv_at hl 1 rfl) ?_
        refine gf_13_9 hx hb ht hK hI mw_391 (fun _ h9 => h9) hown dX5_forgetWritten_27 ?_
        refine lv_iload_n hx hb dX5_forgetWritten_30 rfl (lv_at hl 3 rfl) ?_
        obtain ⟨g3, hm⟩ := gb_some hm
        refine ld_28 hx hb hK hI g3 (v := σ 28 (ix v2)) rfl dX5_forgetWritten_31 ?_
        refine lv_iconst (v := (-1)) hx hb dX5_forgetWritten_32 (by decide) ?_
        refine lv_icmp_eq (tgt := 56) hx hb dX5_forgetWritten_33 (by decide) (fun c4 => ?_) (fun c4 => ?_)
        · have hm := (if_pos c4).symm.trans hm
          refine lv_iinc (v := v2 + 1) (lv' := [(2, .int (v2 + 1)), (3, .int 0), (0, .ref (ga g 13)), (1, .int u1)]) hx hb dX5_forgetWritten_56 hl (k := 3) rfl (congrArg (fun z => v2 + z) (show Int32.ofInt 1 = 1 by decide)) (by decide) rfl (fun ls hl => ?_)
          refine lv_goto (tgt := 2) hx hb dX5_forgetWritten_59 (by decide) ?_
          exact ih σ (v2 + 1) _ _ _ hm hI (lv_sub hl [2, 3, 0] rfl) hx62
        · have hm := (if_neg c4).symm.trans hm
          refine lv_iload_n hx hb dX5_forgetWritten_36 rfl (lv_at hl 2 rfl) ?_
          refine lv_aload_n hx hb dX5_forgetWritten_37 rfl (lv_at hl 1 rfl) ?_
          refine gf_13_9 hx hb ht hK hI mw_391 (fun _ h9 => h9) hown dX5_forgetWritten_38 ?_
          refine lv_iload_n hx hb dX5_forgetWritten_41 rfl (lv_at hl 3 rfl) ?_
          obtain ⟨g5, hm⟩ := gb_some hm
          refine ld_28 hx hb hK hI g5 (v := σ 28 (ix v2)) rfl dX5_forgetWritten_42 ?_
          refine lv_ishr hx hb dX5_forgetWritten_43 ?_
          refine lv_iconst (v := 1) hx hb dX5_forgetWritten_44 (by decide) ?_
          refine lv_iand hx hb dX5_forgetWritten_45 ?_
          refine lv_if_eq (tgt := 56) hx hb dX5_forgetWritten_46 (by decide) (fun c6 => ?_) (fun c6 => ?_)
          · have hm := (if_pos c6).symm.trans hm
            refine lv_iinc (v := v2 + 1) (lv' := [(2, .int (v2 + 1)), (3, .int 0), (0, .ref (ga g 13)), (1, .int u1)]) hx hb dX5_forgetWritten_56 hl (k := 3) rfl (congrArg (fun z => v2 + z) (show Int32.ofInt 1 = 1 by decide)) (by decide) rfl (fun ls hl => ?_)
            refine lv_goto (tgt := 2) hx hb dX5_forgetWritten_59 (by decide) ?_
            exact ih σ (v2 + 1) _ _ _ hm hI (lv_sub hl [2, 3, 0] rfl) hx62
          · have hm := (if_neg c6).symm.trans hm
            refine lv_aload_n hx hb dX5_forgetWritten_49 rfl (lv_at hl 1 rfl) ?_
            refine gf_13_9 hx hb ht hK hI mw_391 (fun _ h9 => h9) hown dX5_forgetWritten_50 ?_
            refine lv_iload_n hx hb dX5_forgetWritten_53 rfl (lv_at hl 3 rfl) ?_
            refine lv_iconst (v := (-1)) hx hb dX5_forgetWritten_54 (by decide) ?_
            obtain ⟨g7, hm⟩ := gb_some hm
            refine sv_28 hx hb hK hI g7 dX5_forgetWritten_55 (fun H locs hI => ?_)
            refine lv_iinc (v := v2 + 1) (lv' := [(2, .int (v2 + 1)), (3, .int 0), (0, .ref (ga g 13)), (1, .int u1)]) hx hb dX5_forgetWritten_56 hl (k := 3) rfl (congrArg (fun z => v2 + z) (show Int32.ofInt 1 = 1 by decide)) (by decide) rfl (fun ls hl => ?_)
            refine lv_goto (tgt := 2) hx hb dX5_forgetWritten_59 (by decide) ?_
            exact ih (sg σ 28 (ix v2) (-1)) (v2 + 1) _ _ _ hm hI (lv_sub hl [2, 3, 0] rfl) hx62
      · have hm := (if_neg c2).symm.trans hm
        refine lv_iconst (v := 1) hx hb dX5_forgetWritten_16 (by decide) ?_
        refine lv_goto (tgt := 21) hx hb dX5_forgetWritten_17 (by decide) ?_
        refine lv_istore_n (lv' := [(3, .int 1), (0, .ref (ga g 13)), (1, .int u1), (2, .int v2)]) hx hb dX5_forgetWritten_21 rfl hl (by decide) rfl (fun ls hl => ?_)
        refine lv_iload_n hx hb dX5_forgetWritten_22 rfl (lv_at hl 0 rfl) ?_
        refine lv_if_ne (tgt := 49) hx hb dX5_forgetWritten_23 (by decide) (fun _ => ?_) (fun h => absurd h (by decide))
        refine lv_aload_n hx hb dX5_forgetWritten_49 rfl (lv_at hl 1 rfl) ?_
        refine gf_13_9 hx hb ht hK hI mw_391 (fun _ h9 => h9) hown dX5_forgetWritten_50 ?_
        refine lv_iload_n hx hb dX5_forgetWritten_53 rfl (lv_at hl 3 rfl) ?_
        refine lv_iconst (v := (-1)) hx hb dX5_forgetWritten_54 (by decide) ?_
        obtain ⟨g8, hm⟩ := gb_some hm
        refine sv_28 hx hb hK hI g8 dX5_forgetWritten_55 (fun H locs hI => ?_)
        refine lv_iinc (v := v2 + 1) (lv' := [(2, .int (v2 + 1)), (3, .int 1), (0, .ref (ga g 13)), (1, .int u1)]) hx hb dX5_forgetWritten_56 hl (k := 3) rfl (congrArg (fun z => v2 + z) (show Int32.ofInt 1 = 1 by decide)) (by decide) rfl (fun ls hl => ?_)
        refine lv_goto (tgt := 2) hx hb dX5_forgetWritten_59 (by decide) ?_
        exact ih (sg σ 28 (ix v2) (-1)) (v2 + 1) _ _ _ hm hI (lv_sub hl [2, 3, 0] rfl) hx62
set_option maxHeartbeats 4000000 in
set_option maxRecDepth 100000 in
theorem c_X5_forgetWritten {l : Launch} {g : GG} {q : Nat} (N n : Nat) {σ : Sg} {p0 : Int32} {r : Int32} {σ' : Sg} (hm : f_X5_forgetWritten N n σ p0 = some (r, σ')) : CTv l yX5_forgetWritten cX5_forgetWritten 4 none 0 0 g q n [.ref (ga g 13), .int p0] σ σ' := by
  refine e_v (r := r) (by decide) (Nat.le_of_ble_eq_true rfl) ?_
  intro p e s m args below meth c A Q ls hC hl hI
  obtain ⟨hX, hK, hN, hZ, hA, hR⟩ := id hC
  have hx : p.tables.exec = Jvm.exec := hX.1
  have hb : c.code = cX5_forgetWritten := hX.2.1
  have hml : c.maxLocals = 4 := hX.2.2.1
  have hown : s.vm.findClass RX5 = some m.cls := hX.2.2.2.1
  have ht : ∀ w ∈ BIG, w.before args s = true := hX.2.2.2.2
  have hl : lv_has ls 4 [(0, .ref (ga g 13)), (1, .int p0)] := hl
  unfold f_X5_forgetWritten at hm
  refine lv_iconst (v := 0) hx hb dX5_forgetWritten_0 (by decide) ?_
  refine lv_istore_n (lv' := [(2, .int 0), (0, .ref (ga g 13)), (1, .int p0)]) hx hb dX5_forgetWritten_1 rfl hl (by decide) rfl (fun ls hl => ?_)
  refine lp_X5_forgetWritten_2 hC N _ _ _ _ _ hm hI (lv_sub hl [1, 2, 0] rfl) ?_
  intro σ9 w10 H locs ls hm hI hl
  exact hR _ _ _ _ _ hm hI dX5_forgetWritten_62
def lb_X5_markBlockStarts_2 (N n : Nat)  (K54 : (Sg → Int32 → Option (Int32 × Sg))) (rec : (Sg → Int32 → Option (Int32 × Sg))) (σ : Sg) (v1 : Int32) : Option (Int32 × Sg) := if (σ 13 6) ≤ v1 then (K54 σ v1) else (if v1 = 0 then (gb v1 300 (rec (sg σ 27 (ix v1) 1) (v1 + 1))) else (bd (f_X5_jumps N n σ (v1 - 1)) (fun r4 σ5 => if r4 = 0 then (gb (v1 - 1) 300 (if (σ5 14 (ix (v1 - 1))) = 6 then (gb v1 300 (rec (sg σ5 27 (ix v1) 1) (v1 + 1))) else (gb v1 300 (rec (sg σ5 27 (ix v1) 0) (v1 + 1))))) else (gb v1 300 (rec (sg σ5 27 (ix v1) 1) (v1 + 1))))))
def lf_X5_markBlockStarts_2 (N n : Nat)  (K54 : (Sg → Int32 → Option (Int32 × Sg))) : Nat → (Sg → Int32 → Option (Int32 × Sg))
  | 0 => fun _ _ => none
  | k + 1 => lb_X5_markBlockStarts_2 N n  K54 (lf_X5_markBlockStarts_2 N n  K54 k)
def lb_X5_markBlockStarts_56 (N n : Nat)  (K90 : (Sg → Int32 → Option (Int32 × Sg))) (rec : (Sg → Int32 → Option (Int32 × Sg))) (σ : Sg) (v1 : Int32) : Option (Int32 × Sg) := if (σ 13 6) ≤ v1 then (K90 σ v1) else (bd (f_X5_jumps N n σ v1) (fun r16 σ17 => if r16 = 0 then (rec σ17 (v1 + 1)) else (gb v1 300 (gb (σ17 16 (ix v1)) 300 (rec (sg σ17 27 (ix (σ17 16 (ix v1))) 1) (v1 + 1))))))
def lf_X5_markBlockStarts_56 (N n : Nat)  (K90 : (Sg → Int32 → Option (Int32 × Sg))) : Nat → (Sg → Int32 → Option (Int32 × Sg))
  | 0 => fun _ _ => none
  | k + 1 => lb_X5_markBlockStarts_56 N n  K90 (lf_X5_markBlockStarts_56 N n  K90 k)
def f_X5_markBlockStarts (N n : Nat) (σ : Sg)  : Option (Int32 × Sg) := lf_X5_markBlockStarts_2 N n  (fun σ13 w14 => lf_X5_markBlockStarts_56 N n  (fun σ22 w23 => some (0, σ22)) N σ13 0) N σ 0
set_option maxHeartbeats 4000000 in
set_option maxRecDepth 100000 in
theorem lp_X5_markBlockStarts_2 {p : Program} {l : Launch} {e : Env} {s : State} {m : MethodId} {args : Array Value} {below : List Frame} {meth : Method} {c : Code} {Q : State → Prop} {A : Nat → Prop} {g : GG} {q N n : Nat} {out : Int32 × Sg}  {K54 : (Sg → Int32 → Option (Int32 × Sg))}
    (hC : CXv p l e (qR 1 21) s m args below meth c cX5_markBlockStarts 2 RX5 g q n A Q (some out)) :
    ∀ (k : Nat) (σ : Sg) (v1 : Int32) (H : Heap) (locs : List Loc) (ls : Array Slot), lf_X5_markBlockStarts_2 N n  K54 k σ v1 = some out → wI g q n σ A s.heap H locs → lv_has ls 2 [(0, .ref (ga g 13)), (1, .int v1)] → (∀ (σ : Sg) (v1 : Int32) (H : Heap) (locs : List Loc) (ls : Array Slot), K54 σ v1 = some out → wI g q n σ A s.heap H locs → lv_has ls 2 [(0, .ref (ga g 13))] → W p l e (qR 1 21) s m args below meth c H locs 0 0 Q (F0 m 54 ls [])) → W p l e (qR 1 21) s m args below meth c H locs 0 0 Q (F0 m 2 ls []) := by
  obtain ⟨hX, hK, hN, hZ, hA, hR⟩ := id hC
  have hx : p.tables.exec = Jvm.exec := hX.1
  have hb : c.code = cX5_markBlockStarts := hX.2.1
  have hml : c.maxLocals = 2 := hX.2.2.1
  have hown : s.vm.findClass RX5 = some m.cls := hX.2.2.2.1
  have ht : ∀ w ∈ BIG, w.before args s = true := hX.2.2.2.2
  intro k
  induction k with
  | zero =>
    intro σ v1 H locs ls hm
    have hm : none = some out := hm
    exact nomatch hm
  | succ k ih =>
    intro σ v1 H locs ls hm hI hl hx54
    have hm : lb_X5_markBlockStarts_2 N n  K54 (lf_X5_markBlockStarts_2 N n  K54 k) σ v1 = some out := hm
    unfold lb_X5_markBlockStarts_2 at hm
    refine lv_iload_n hx hb dX5_markBlockStarts_2 rfl (lv_at hl 1 rfl) ?_
    refine lv_aload_n hx hb dX5_markBlockStarts_3 rfl (lv_at hl 0 rfl) ?_
    refine gf_13_6 hx hb ht hK hI (v := σ 13 6) rfl mw_173 (fun _ h9 => h9) hown dX5_markBlockStarts_4 ?_
    refine lv_icmp_ge (tgt := 54) hx hb dX5_markBlockStarts_7 (by decide) (fun c1 => ?_) (fun c1 => ?_)
    · have hm := (if_pos c1).symm.trans hm
      exact hx54 σ v1 _ _ _ hm hI (lv_sub hl [0] rfl)
    · have hm := (if_neg c1).symm.trans hm
      refine lv_aload_n hx hb dX5_markBlockStarts_10 rfl (lv_at hl 0 rfl) ?_
      refine gf_13_8 hx hb ht hK hI mw_390 (fun _ h9 => h9) hown dX5_markBlockStarts_11 ?_
      refine lv_iload_n hx hb dX5_markBlockStarts_14 rfl (lv_at hl 1 rfl) ?_
      refine lv_iload_n hx hb dX5_markBlockStarts_15 rfl (lv_at hl 1 rfl) ?_
      refine lv_if_eq (tgt := 42) hx hb dX5_markBlockStarts_16 (by decide) (fun c2 => ?_) (fun c2 => ?_)
      · have hm := (if_pos c2).symm.trans hm
        refine lv_iconst (v := 1) hx hb dX5_markBlockStarts_42 (by decide) ?_
        refine lv_goto (tgt := 47) hx hb dX5_markBlockStarts_43 (by decide) ?_
        obtain ⟨g3, hm⟩ := gb_some hm
        refine sv_27 hx hb hK hI g3 (by decide) dX5_markBlockStarts_47 (fun H locs hI => ?_)
        refine lv_iinc (v := v1 + 1) (lv' := [(1, .int (v1 + 1)), (0, .ref (ga g 13))]) hx hb dX5_markBlockStarts_48 hl (k := 1) rfl (congrArg (fun z => v1 + z) (show Int32.ofInt 1 = 1 by decide)) (by decide) rfl (fun ls hl => ?_)
        refine lv_goto (tgt := 2) hx hb dX5_markBlockStarts_51 (by decide) ?_
        exact ih (sg σ 27 (ix v1) 1) (v1 + 1) _ _ _ hm hI (lv_sub hl [1, 0] rfl) hx54
      · have hm := (if_neg c2).symm.trans hm
        refine lv_aload_n hx hb dX5_markBlockStarts_19 rfl (lv_at hl 0 rfl) ?_
        refine lv_iload_n hx hb dX5_markBlockStarts_20 rfl (lv_at hl 1 rfl) ?_
        refine lv_iconst (v := 1) hx hb dX5_markBlockStarts_21 (by decide) ?_
        refine lv_isub hx hb dX5_markBlockStarts_22 ?_
        obtain ⟨r4, σ5, h6, hm⟩ := bd_some hm
        refine k_i hI hA (va_runV (As := [.int (v1 - 1)]) (rest := [.int v1, .ref (ga g 27)]) hX (c_X5_jumps N n h6 _) (cwV 1 ht (in_V mw_414 mw_181 mw_182 mw_138 mw_174) rfl rfl rfl pd_X5_jumps ⟨Nat.le_of_ble_eq_true rfl, Nat.le_of_ble_eq_true rfl⟩) ⟨q_blind, va_recv hK hI.1 (ci := 4) (q0 := 13) rfl rfl, q_to hI hK hN hZ hA⟩ rfl rfl hl.1 rfl (lv_room (Nat.le_of_ble_eq_true rfl)) dX5_markBlockStarts_23 (by decide)) (fun H locs hI => ?_)
        refine lv_if_ne (tgt := 42) hx hb dX5_markBlockStarts_26 (by decide) (fun c7 => ?_) (fun c7 => ?_)
        · have hm := (if_neg c7).symm.trans hm
          refine lv_iconst (v := 1) hx hb dX5_markBlockStarts_42 (by decide) ?_
          refine lv_goto (tgt := 47) hx hb dX5_markBlockStarts_43 (by decide) ?_
          obtain ⟨g8, hm⟩ := gb_some hm
          refine sv_27 hx hb hK hI g8 (by decide) dX5_markBlockStarts_47 (fun H locs hI => ?_)
          refine lv_iinc (v := v1 + 1) (lv' := [(1, .int (v1 + 1)), (0, .ref (ga g 13))]) hx hb dX5_markBlockStarts_48 hl (k := 1) rfl (congrArg (fun z => v1 + z) (show Int32.ofInt 1 = 1 by decide)) (by decide) rfl (fun ls hl => ?_)
          refine lv_goto (tgt := 2) hx hb dX5_markBlockStarts_51 (by decide) ?_
          exact ih (sg σ5 27 (ix v1) 1) (v1 + 1) _ _ _ hm hI (lv_sub hl [1, 0] rfl) hx54
        · have hm := (if_pos c7).symm.trans hm
          refine lv_aload_n hx hb dX5_markBlockStarts_29 rfl (lv_at hl 0 rfl) ?_
          refine gf_13_0 hx hb ht hK hI mw_133 (fun _ h9 => h9) hown dX5_markBlockStarts_30 ?_
          refine lv_iload_n hx hb dX5_markBlockStarts_33 rfl (lv_at hl 1 rfl) ?_
          refine lv_iconst (v := 1) hx hb dX5_markBlockStarts_34 (by decide) ?_
          refine lv_isub hx hb dX5_markBlockStarts_35 ?_
          obtain ⟨g9, hm⟩ := gb_some hm
          refine ld_14 hx hb hK hI g9 (v := σ5 14 (ix (v1 - 1))) rfl dX5_markBlockStarts_36 ?_
          refine lv_bipush (v := 6) hx hb dX5_markBlockStarts_37 (by decide) ?_
          refine lv_icmp_ne (tgt := 46) hx hb dX5_markBlockStarts_39 (by decide) (fun c10 => ?_) (fun c10 => ?_)
          · have hm := (if_neg c10).symm.trans hm
            refine lv_iconst (v := 0) hx hb dX5_markBlockStarts_46 (by decide) ?_
            obtain ⟨g11, hm⟩ := gb_some hm
            refine sv_27 hx hb hK hI g11 (by decide) dX5_markBlockStarts_47 (fun H locs hI => ?_)
            refine lv_iinc (v := v1 + 1) (lv' := [(1, .int (v1 + 1)), (0, .ref (ga g 13))]) hx hb dX5_markBlockStarts_48 hl (k := 1) rfl (congrArg (fun z => v1 + z) (show Int32.ofInt 1 = 1 by decide)) (by decide) rfl (fun ls hl => ?_)
            refine lv_goto (tgt := 2) hx hb dX5_markBlockStarts_51 (by decide) ?_
            exact ih (sg σ5 27 (ix v1) 0) (v1 + 1) _ _ _ hm hI (lv_sub hl [1, 0] rfl) hx54
          · have hm := (if_pos c10).symm.trans hm
            refine lv_iconst (v := 1) hx hb dX5_markBlockStarts_42 (by decide) ?_
            refine lv_goto (tgt := 47) hx hb dX5_markBlockStarts_43 (by decide) ?_
            obtain ⟨g12, hm⟩ := gb_some hm
            refine sv_27 hx hb hK hI g12 (by decide) dX5_markBlockStarts_47 (fun H locs hI => ?_)
            refine lv_iinc (v := v1 + 1) (lv' := [(1, .int (v1 + 1)), (0, .ref (ga g 13))]) hx hb dX5_markBlockStarts_48 hl (k := 1) rfl (congrArg (fun z => v1 + z) (show Int32.ofInt 1 = 1 by decide)) (by decide) rfl (fun ls hl => ?_)
            refine lv_goto (tgt := 2) hx hb dX5_markBlockStarts_51 (by decide) ?_
            exact ih (sg σ5 27 (ix v1) 1) (v1 + 1) _ _ _ hm hI (lv_sub hl [1, 0] rfl) hx54
set_option maxHeartbeats 4000000 in
set_option maxRecDepth 100000 in
theorem lp_X5_markBlockStarts_56 {p : Program} {l : Launch} {e : Env} {s : State} {m : MethodId} {args : Array Value} {below : List Frame} {meth : Method} {c : Code} {Q : State → Prop} {A : Nat → Prop} {g : GG} {q N n : Nat} {out : Int32 × Sg}  {K90 : (Sg → Int32 → Option (Int32 × Sg))}
    (hC : CXv p l e (qR 1 21) s m args below meth c cX5_markBlockStarts 2 RX5 g q n A Q (some out)) :
    ∀ (k : Nat) (σ : Sg) (v1 : Int32) (H : Heap) (locs : List Loc) (ls : Array Slot), lf_X5_markBlockStarts_56 N n  K90 k σ v1 = some out → wI g q n σ A s.heap H locs → lv_has ls 2 [(0, .ref (ga g 13)), (1, .int v1)] → (∀ (σ : Sg) (v1 : Int32) (H : Heap) (locs : List Loc) (ls : Array Slot), K90 σ v1 = some out → wI g q n σ A s.heap H locs → lv_has ls 2 [] → W p l e (qR 1 21) s m args below meth c H locs 0 0 Q (F0 m 90 ls [])) → W p l e (qR 1 21) s m args below meth c H locs 0 0 Q (F0 m 56 ls []) := by
  obtain ⟨hX, hK, hN, hZ, hA, hR⟩ := id hC
  have hx : p.tables.exec = Jvm.exec := hX.1
  have hb : c.code = cX5_markBlockStarts := hX.2.1
  have hml : c.maxLocals = 2 := hX.2.2.1
  have hown : s.vm.findClass RX5 = some m.cls := hX.2.2.2.1
  have ht : ∀ w ∈ BIG, w.before args s = true := hX.2.2.2.2
  intro k
  induction k with
  | zero =>
    intro σ v1 H locs ls hm
    have hm : none = some out := hm
    exact nomatch hm
  | succ k ih =>
    intro σ v1 H locs ls hm hI hl hx90
    have hm : lb_X5_markBlockStarts_56 N n  K90 (lf_X5_markBlockStarts_56 N n  K90 k) σ v1 = some out := hm
    unfold lb_X5_markBlockStarts_56 at hm
    refine lv_iload_n hx hb dX5_markBlockStarts_56 rfl (lv_at hl 1 rfl) ?_
    refine lv_aload_n hx hb dX5_markBlockStarts_57 rfl (lv_at hl 0 rfl) ?_
    refine gf_13_6 hx hb ht hK hI (v := σ 13 6) rfl mw_173 (fun _ h9 => h9) hown dX5_markBlockStarts_58 ?_
    refine lv_icmp_ge (tgt := 90) hx hb dX5_markBlockStarts_61 (by decide) (fun c15 => ?_) (fun c15 => ?_)
    · have hm := (if_pos c15).symm.trans hm
      exact hx90 σ v1 _ _ _ hm hI (lv_sub hl [] rfl)
    · have hm := (if_neg c15).symm.trans hm
      refine lv_aload_n hx hb dX5_markBlockStarts_64 rfl (lv_at hl 0 rfl) ?_
      refine lv_iload_n hx hb dX5_markBlockStarts_65 rfl (lv_at hl 1 rfl) ?_
      obtain ⟨r16, σ17, h18, hm⟩ := bd_some hm
      refine k_i hI hA (va_runV (As := [.int v1]) (rest := []) hX (c_X5_jumps N n h18 _) (cwV 1 ht (in_V mw_414 mw_181 mw_182 mw_138 mw_174) rfl rfl rfl pd_X5_jumps ⟨Nat.le_of_ble_eq_true rfl, Nat.le_of_ble_eq_true rfl⟩) ⟨q_blind, va_recv hK hI.1 (ci := 4) (q0 := 13) rfl rfl, q_to hI hK hN hZ hA⟩ rfl rfl hl.1 rfl (lv_room (Nat.le_of_ble_eq_true rfl)) dX5_markBlockStarts_66 (by decide)) (fun H locs hI => ?_)
      refine lv_if_eq (tgt := 84) hx hb dX5_markBlockStarts_69 (by decide) (fun c19 => ?_) (fun c19 => ?_)
      · have hm := (if_pos c19).symm.trans hm
        refine lv_iinc (v := v1 + 1) (lv' := [(1, .int (v1 + 1)), (0, .ref (ga g 13))]) hx hb dX5_markBlockStarts_84 hl (k := 1) rfl (congrArg (fun z => v1 + z) (show Int32.ofInt 1 = 1 by decide)) (by decide) rfl (fun ls hl => ?_)
        refine lv_goto (tgt := 56) hx hb dX5_markBlockStarts_87 (by decide) ?_
        exact ih σ17 (v1 + 1) _ _ _ hm hI (lv_sub hl [1, 0] rfl) hx90
      · have hm := (if_neg c19).symm.trans hm
        refine lv_aload_n hx hb dX5_markBlockStarts_72 rfl (lv_at hl 0 rfl) ?_
        refine gf_13_8 hx hb ht hK hI mw_390 (fun _ h9 => h9) hown dX5_markBlockStarts_73 ?_
        refine lv_aload_n hx hb dX5_markBlockStarts_76 rfl (lv_at hl 0 rfl) ?_
        refine gf_13_2 hx hb ht hK hI mw_387 (fun _ h9 => h9) hown dX5_markBlockStarts_77 ?_
        refine lv_iload_n hx hb dX5_markBlockStarts_80 rfl (lv_at hl 1 rfl) ?_
        obtain ⟨g20, hm⟩ := gb_some hm
        refine ld_16 hx hb hK hI g20 (v := σ17 16 (ix v1)) rfl dX5_markBlockStarts_81 ?_
        refine lv_iconst (v := 1) hx hb dX5_markBlockStarts_82 (by decide) ?_
        obtain ⟨g21, hm⟩ := gb_some hm
        refine sv_27 hx hb hK hI g21 (by decide) dX5_markBlockStarts_83 (fun H locs hI => ?_)
        refine lv_iinc (v := v1 + 1) (lv' := [(1, .int (v1 + 1)), (0, .ref (ga g 13))]) hx hb dX5_markBlockStarts_84 hl (k := 1) rfl (congrArg (fun z => v1 + z) (show Int32.ofInt 1 = 1 by decide)) (by decide) rfl (fun ls hl => ?_)
        refine lv_goto (tgt := 56) hx hb dX5_markBlockStarts_87 (by decide) ?_
        exact ih (sg σ17 27 (ix (σ17 16 (ix v1))) 1) (v1 + 1) _ _ _ hm hI (lv_sub hl [1, 0] rfl) hx90
set_option maxHeartbeats 4000000 in
set_option maxRecDepth 100000 in
theorem c_X5_markBlockStarts {l : Launch} {g : GG} {q : Nat} (N n : Nat) {σ : Sg}  {r : Int32} {σ' : Sg} (hm : f_X5_markBlockStarts N n σ  = some (r, σ')) : CTv l yX5_markBlockStarts cX5_markBlockStarts 2 none 1 21 g q n [.ref (ga g 13)] σ σ' := by
  refine e_v (r := r) (by decide) (Nat.le_of_ble_eq_true rfl) ?_
  intro p e s m args below meth c A Q ls hC hl hI
  obtain ⟨hX, hK, hN, hZ, hA, hR⟩ := id hC
  have hx : p.tables.exec = Jvm.exec := hX.1
  have hb : c.code = cX5_markBlockStarts := hX.2.1
  have hml : c.maxLocals = 2 := hX.2.2.1
  have hown : s.vm.findClass RX5 = some m.cls := hX.2.2.2.1
  have ht : ∀ w ∈ BIG, w.before args s = true := hX.2.2.2.2
  have hl : lv_has ls 2 [(0, .ref (ga g 13))] := hl
  unfold f_X5_markBlockStarts at hm
  refine lv_iconst (v := 0) hx hb dX5_markBlockStarts_0 (by decide) ?_
  refine lv_istore_n (lv' := [(1, .int 0), (0, .ref (ga g 13))]) hx hb dX5_markBlockStarts_1 rfl hl (by decide) rfl (fun ls hl => ?_)
  refine lp_X5_markBlockStarts_2 hC N _ _ _ _ _ hm hI (lv_sub hl [1, 0] rfl) ?_
  intro σ13 w14 H locs ls hm hI hl
  refine lv_iconst (v := 0) hx hb dX5_markBlockStarts_54 (by decide) ?_
  refine lv_istore_n (lv' := [(1, .int 0), (0, .ref (ga g 13))]) hx hb dX5_markBlockStarts_55 rfl hl (by decide) rfl (fun ls hl => ?_)
  refine lp_X5_markBlockStarts_56 hC N _ _ _ _ _ hm hI (lv_sub hl [1, 0] rfl) ?_
  intro σ22 w23 H locs ls hm hI hl
  exact hR _ _ _ _ _ hm hI dX5_markBlockStarts_90
def lb_X5_forwardReads_13 (N n : Nat) (u1 : Int32) (K57 : (Sg → Int32 → Option (Int32 × Sg))) (rec : (Sg → Int32 → Option (Int32 × Sg))) (σ : Sg) (v2 : Int32) : Option (Int32 × Sg) := gb u1 300 (if (σ 18 (ix u1)) ≤ v2 then (K57 σ v2) else (gb v2 6 (gb u1 300 (gb (σ 19 (ix u1 * 6 + ix v2)) 22 (if (σ 28 (ix (σ 19 (ix u1 * 6 + ix v2)))) = (-1) then (rec σ (v2 + 1)) else (gb v2 6 (gb u1 300 (rec (sg σ 19 (ix u1 * 6 + ix v2) (σ 28 (ix (σ 19 (ix u1 * 6 + ix v2))))) (v2 + 1)))))))))
def lf_X5_forwardReads_13 (N n : Nat) (u1 : Int32) (K57 : (Sg → Int32 → Option (Int32 × Sg))) : Nat → (Sg → Int32 → Option (Int32 × Sg))
  | 0 => fun _ _ => none
  | k + 1 => lb_X5_forwardReads_13 N n u1 K57 (lf_X5_forwardReads_13 N n u1 K57 k)
def f_X5_forwardReads (N n : Nat) (σ : Sg) (p0 : Int32) : Option (Int32 × Sg) := gb p0 300 (if (σ 14 (ix p0)) = 3 then (some (0, σ)) else (lf_X5_forwardReads_13 N n p0 (fun σ11 w12 => some (0, σ11)) N σ 0))
set_option maxHeartbeats 4000000 in
set_option maxRecDepth 100000 in
theorem lp_X5_forwardReads_13 {p : Program} {l : Launch} {e : Env} {s : State} {m : MethodId} {args : Array Value} {below : List Frame} {meth : Method} {c : Code} {Q : State → Prop} {A : Nat → Prop} {g : GG} {q N n : Nat} {out : Int32 × Sg} {u1 : Int32} {K57 : (Sg → Int32 → Option (Int32 × Sg))}
    (hC : CXv p l e (qR 0 0) s m args below meth c cX5_forwardReads 4 RX5 g q n A Q (some out)) :
    ∀ (k : Nat) (σ : Sg) (v2 : Int32) (H : Heap) (locs : List Loc) (ls : Array Slot), lf_X5_forwardReads_13 N n u1 K57 k σ v2 = some out → wI g q n σ A s.heap H locs → lv_has ls 4 [(0, .ref (ga g 13)), (1, .int u1), (2, .int v2)] → (∀ (σ : Sg) (v2 : Int32) (H : Heap) (locs : List Loc) (ls : Array Slot), K57 σ v2 = some out → wI g q n σ A s.heap H locs → lv_has ls 4 [] → W p l e (qR 0 0) s m args below meth c H locs 0 0 Q (F0 m 57 ls [])) → W p l e (qR 0 0) s m args below meth c H locs 0 0 Q (F0 m 13 ls []) := by
  obtain ⟨hX, hK, hN, hZ, hA, hR⟩ := id hC
  have hx : p.tables.exec = Jvm.exec := hX.1
  have hb : c.code = cX5_forwardReads := hX.2.1
  have hml : c.maxLocals = 4 := hX.2.2.1
  have hown : s.vm.findClass RX5 = some m.cls := hX.2.2.2.1
  have ht : ∀ w ∈ BIG, w.before args s = true := hX.2.2.2.2
  intro k
  induction k with
  | zero =>
    intro σ v2 H locs ls hm
    have hm : none = some out := hm
    exact nomatch hm
  | succ k ih =>
    intro σ v2 H locs ls hm hI hl hx57
    have hm : lb_X5_forwardReads_13 N n u1 K57 (lf_X5_forwardReads_13 N n u1 K57 k) σ v2 = some out := hm
    unfold lb_X5_forwardReads_13 at hm
    refine lv_iload_n hx hb dX5_forwardReads_13 rfl (lv_at hl 2 rfl) ?_
    refine lv_aload_n hx hb dX5_forwardReads_14 rfl (lv_at hl 0 rfl) ?_
    refine gf_13_4 hx hb ht hK hI mw_120 (fun _ h9 => h9) hown dX5_forwardReads_15 ?_
    refine lv_iload_n hx hb dX5_forwardReads_18 rfl (lv_at hl 1 rfl) ?_
    obtain ⟨g3, hm⟩ := gb_some hm
    refine ld_18 hx hb hK hI g3 (v := σ 18 (ix u1)) rfl dX5_forwardReads_19 ?_
    refine lv_icmp_ge (tgt := 57) hx hb dX5_forwardReads_20 (by decide) (fun c4 => ?_) (fun c4 => ?_)
    · have hm := (if_pos c4).symm.trans hm
      exact hx57 σ v2 _ _ _ hm hI (lv_sub hl [] rfl)
    · have hm := (if_neg c4).symm.trans hm
      refine lv_aload_n hx hb dX5_forwardReads_23 rfl (lv_at hl 0 rfl) ?_
      refine gf_13_9 hx hb ht hK hI mw_391 (fun _ h9 => h9) hown dX5_forwardReads_24 ?_
      refine lv_aload_n hx hb dX5_forwardReads_27 rfl (lv_at hl 0 rfl) ?_
      refine gf_13_5 hx hb ht hK hI mw_121 (fun _ h9 => h9) hown dX5_forwardReads_28 ?_
      refine lv_iload_n hx hb dX5_forwardReads_31 rfl (lv_at hl 2 rfl) ?_
      obtain ⟨g5, hm⟩ := gb_some hm
      refine ld_19 hx hb hK hI g5 dX5_forwardReads_32 ?_
      refine lv_iload_n hx hb dX5_forwardReads_33 rfl (lv_at hl 1 rfl) ?_
      obtain ⟨g6, hm⟩ := gb_some hm
      refine ld_rd hx hb hK hI g5 g6 (v := σ 19 (ix u1 * 6 + ix v2)) rfl dX5_forwardReads_34 ?_
      obtain ⟨g7, hm⟩ := gb_some hm
      refine ld_28 hx hb hK hI g7 (v := σ 28 (ix (σ 19 (ix u1 * 6 + ix v2)))) rfl dX5_forwardReads_35 ?_
      refine lv_istore_n (lv' := [(3, .int (σ 28 (ix (σ 19 (ix u1 * 6 + ix v2))))), (0, .ref (ga g 13)), (1, .int u1), (2, .int v2)]) hx hb dX5_forwardReads_36 rfl hl (by decide) rfl (fun ls hl => ?_)
      refine lv_iload_n hx hb dX5_forwardReads_37 rfl (lv_at hl 0 rfl) ?_
      refine lv_iconst (v := (-1)) hx hb dX5_forwardReads_38 (by decide) ?_
      refine lv_icmp_eq (tgt := 51) hx hb dX5_forwardReads_39 (by decide) (fun c8 => ?_) (fun c8 => ?_)
      · have hm := (if_pos c8).symm.trans hm
        refine lv_iinc (v := v2 + 1) (lv' := [(2, .int (v2 + 1)), (3, .int (σ 28 (ix (σ 19 (ix u1 * 6 + ix v2))))), (0, .ref (ga g 13)), (1, .int u1)]) hx hb dX5_forwardReads_51 hl (k := 3) rfl (congrArg (fun z => v2 + z) (show Int32.ofInt 1 = 1 by decide)) (by decide) rfl (fun ls hl => ?_)
        refine lv_goto (tgt := 13) hx hb dX5_forwardReads_54 (by decide) ?_
        exact ih σ (v2 + 1) _ _ _ hm hI (lv_sub hl [2, 3, 0] rfl) hx57
      · have hm := (if_neg c8).symm.trans hm
        refine lv_aload_n hx hb dX5_forwardReads_42 rfl (lv_at hl 1 rfl) ?_
        refine gf_13_5 hx hb ht hK hI mw_121 (fun _ h9 => h9) hown dX5_forwardReads_43 ?_
        refine lv_iload_n hx hb dX5_forwardReads_46 rfl (lv_at hl 3 rfl) ?_
        obtain ⟨g9, hm⟩ := gb_some hm
        refine ld_19 hx hb hK hI g9 dX5_forwardReads_47 ?_
        refine lv_iload_n hx hb dX5_forwardReads_48 rfl (lv_at hl 2 rfl) ?_
        refine lv_iload_n hx hb dX5_forwardReads_49 rfl (lv_at hl 0 rfl) ?_
        obtain ⟨g10, hm⟩ := gb_some hm
        refine sv_rd hx hb hK hI g9 g10 dX5_forwardReads_50 (fun H locs hI => ?_)
        refine lv_iinc (v := v2 + 1) (lv' := [(2, .int (v2 + 1)), (3, .int (σ 28 (ix (σ 19 (ix u1 * 6 + ix v2))))), (0, .ref (ga g 13)), (1, .int u1)]) hx hb dX5_forwardReads_51 hl (k := 3) rfl (congrArg (fun z => v2 + z) (show Int32.ofInt 1 = 1 by decide)) (by decide) rfl (fun ls hl => ?_)
        refine lv_goto (tgt := 13) hx hb dX5_forwardReads_54 (by decide) ?_
        exact ih (sg σ 19 (ix u1 * 6 + ix v2) (σ 28 (ix (σ 19 (ix u1 * 6 + ix v2))))) (v2 + 1) _ _ _ hm hI (lv_sub hl [2, 3, 0] rfl) hx57
set_option maxHeartbeats 4000000 in
set_option maxRecDepth 100000 in
theorem c_X5_forwardReads {l : Launch} {g : GG} {q : Nat} (N n : Nat) {σ : Sg} {p0 : Int32} {r : Int32} {σ' : Sg} (hm : f_X5_forwardReads N n σ p0 = some (r, σ')) : CTv l yX5_forwardReads cX5_forwardReads 4 none 0 0 g q n [.ref (ga g 13), .int p0] σ σ' := by
  refine e_v (r := r) (by decide) (Nat.le_of_ble_eq_true rfl) ?_
  intro p e s m args below meth c A Q ls hC hl hI
  obtain ⟨hX, hK, hN, hZ, hA, hR⟩ := id hC
  have hx : p.tables.exec = Jvm.exec := hX.1
  have hb : c.code = cX5_forwardReads := hX.2.1
  have hml : c.maxLocals = 4 := hX.2.2.1
  have hown : s.vm.findClass RX5 = some m.cls := hX.2.2.2.1
  have ht : ∀ w ∈ BIG, w.before args s = true := hX.2.2.2.2
  have hl : lv_has ls 4 [(0, .ref (ga g 13)), (1, .int p0)] := hl
  unfold f_X5_forwardReads at hm
  refine lv_aload_n hx hb dX5_forwardReads_0 rfl (lv_at hl 0 rfl) ?_
  refine gf_13_0 hx hb ht hK hI mw_133 (fun _ h9 => h9) hown dX5_forwardReads_1 ?_
  refine lv_iload_n hx hb dX5_forwardReads_4 rfl (lv_at hl 1 rfl) ?_
  obtain ⟨g1, hm⟩ := gb_some hm
  refine ld_14 hx hb hK hI g1 (v := σ 14 (ix p0)) rfl dX5_forwardReads_5 ?_
  refine lv_iconst (v := 3) hx hb dX5_forwardReads_6 (by decide) ?_
  refine lv_icmp_ne (tgt := 11) hx hb dX5_forwardReads_7 (by decide) (fun c2 => ?_) (fun c2 => ?_)
  · have hm := (if_neg c2).symm.trans hm
    refine lv_iconst (v := 0) hx hb dX5_forwardReads_11 (by decide) ?_
    refine lv_istore_n (lv' := [(2, .int 0), (0, .ref (ga g 13)), (1, .int p0)]) hx hb dX5_forwardReads_12 rfl hl (by decide) rfl (fun ls hl => ?_)
    refine lp_X5_forwardReads_13 hC N _ _ _ _ _ hm hI (lv_sub hl [1, 2, 0] rfl) ?_
    intro σ11 w12 H locs ls hm hI hl
    exact hR _ _ _ _ _ hm hI dX5_forwardReads_57
  · have hm := (if_pos c2).symm.trans hm
    exact hR _ _ _ _ _ hm hI dX5_forwardReads_10
def lb_X5_forward_6 (N n : Nat)  (K97 : (Sg → Int32 → Option (Int32 × Sg))) (rec : (Sg → Int32 → Option (Int32 × Sg))) (σ : Sg) (v1 : Int32) : Option (Int32 × Sg) := if (σ 13 6) ≤ v1 then (K97 σ v1) else (gb v1 300 (if (σ 27 (ix v1)) = 0 then (bd (f_X5_forwardReads N n σ v1) (fun r7 σ8 => bd (f_X5_writtenSet N n σ8 v1) (fun r10 σ11 => bd (f_X5_forgetWritten N n σ11 r10) (fun r13 σ14 => gb v1 300 (if (σ14 14 (ix v1)) = 1 then (gb v1 300 (gb 0 6 (gb v1 300 (if (σ14 17 (ix v1)) = (σ14 19 (ix v1 * 6 + ix 0)) then (rec σ14 (v1 + 1)) else (gb v1 300 (gb 0 6 (gb v1 300 (gb (σ14 17 (ix v1)) 22 (rec (sg σ14 28 (ix (σ14 17 (ix v1))) (σ14 19 (ix v1 * 6 + ix 0))) (v1 + 1)))))))))) else (rec σ14 (v1 + 1))))))) else (bd (f_J7_fill_53178_28 N n σ (-1)) (fun r26 σ27 => bd (f_X5_forwardReads N n σ27 v1) (fun r29 σ30 => bd (f_X5_writtenSet N n σ30 v1) (fun r32 σ33 => bd (f_X5_forgetWritten N n σ33 r32) (fun r35 σ36 => gb v1 300 (if (σ36 14 (ix v1)) = 1 then (gb v1 300 (gb 0 6 (gb v1 300 (if (σ36 17 (ix v1)) = (σ36 19 (ix v1 * 6 + ix 0)) then (rec σ36 (v1 + 1)) else (gb v1 300 (gb 0 6 (gb v1 300 (gb (σ36 17 (ix v1)) 22 (rec (sg σ36 28 (ix (σ36 17 (ix v1))) (σ36 19 (ix v1 * 6 + ix 0))) (v1 + 1)))))))))) else (rec σ36 (v1 + 1))))))))))
def lf_X5_forward_6 (N n : Nat)  (K97 : (Sg → Int32 → Option (Int32 × Sg))) : Nat → (Sg → Int32 → Option (Int32 × Sg))
  | 0 => fun _ _ => none
  | k + 1 => lb_X5_forward_6 N n  K97 (lf_X5_forward_6 N n  K97 k)
def f_X5_forward (N n : Nat) (σ : Sg)  : Option (Int32 × Sg) := bd (f_X5_markBlockStarts N n σ ) (fun r1 σ2 => lf_X5_forward_6 N n  (fun σ48 w49 => some (0, σ48)) N σ2 0)
set_option maxHeartbeats 4000000 in
set_option maxRecDepth 100000 in
theorem lp_X5_forward_6 {p : Program} {l : Launch} {e : Env} {s : State} {m : MethodId} {args : Array Value} {below : List Frame} {meth : Method} {c : Code} {Q : State → Prop} {A : Nat → Prop} {g : GG} {q N n : Nat} {out : Int32 × Sg}  {K97 : (Sg → Int32 → Option (Int32 × Sg))}
    (hC : CXv p l e (qR 2 44) s m args below meth c cX5_forward 2 RX5 g q n A Q (some out)) :
    ∀ (k : Nat) (σ : Sg) (v1 : Int32) (H : Heap) (locs : List Loc) (ls : Array Slot), lf_X5_forward_6 N n  K97 k σ v1 = some out → wI g q n σ A s.heap H locs → lv_has ls 2 [(0, .ref (ga g 13)), (1, .int v1)] → (∀ (σ : Sg) (v1 : Int32) (H : Heap) (locs : List Loc) (ls : Array Slot), K97 σ v1 = some out → wI g q n σ A s.heap H locs → lv_has ls 2 [] → W p l e (qR 2 44) s m args below meth c H locs 0 0 Q (F0 m 97 ls [])) → W p l e (qR 2 44) s m args below meth c H locs 0 0 Q (F0 m 6 ls []) := by
  obtain ⟨hX, hK, hN, hZ, hA, hR⟩ := id hC
  have hx : p.tables.exec = Jvm.exec := hX.1
  have hb : c.code = cX5_forward := hX.2.1
  have hml : c.maxLocals = 2 := hX.2.2.1
  have hown : s.vm.findClass RX5 = some m.cls := hX.2.2.2.1
  have ht : ∀ w ∈ BIG, w.before args s = true := hX.2.2.2.2
  intro k
  induction k with
  | zero =>
    intro σ v1 H locs ls hm
    have hm : none = some out := hm
    exact nomatch hm
  | succ k ih =>
    intro σ v1 H locs ls hm hI hl hx97
    have hm : lb_X5_forward_6 N n  K97 (lf_X5_forward_6 N n  K97 k) σ v1 = some out := hm
    unfold lb_X5_forward_6 at hm
    refine lv_iload_n hx hb dX5_forward_6 rfl (lv_at hl 1 rfl) ?_
    refine lv_aload_n hx hb dX5_forward_7 rfl (lv_at hl 0 rfl) ?_
    refine gf_13_6 hx hb ht hK hI (v := σ 13 6) rfl mw_173 (fun _ h9 => h9) hown dX5_forward_8 ?_
    refine lv_icmp_ge (tgt := 97) hx hb dX5_forward_11 (by decide) (fun c4 => ?_) (fun c4 => ?_)
    · have hm := (if_pos c4).symm.trans hm
      exact hx97 σ v1 _ _ _ hm hI (lv_sub hl [] rfl)
    · have hm := (if_neg c4).symm.trans hm
      refine lv_aload_n hx hb dX5_forward_14 rfl (lv_at hl 0 rfl) ?_
      refine gf_13_8 hx hb ht hK hI mw_390 (fun _ h9 => h9) hown dX5_forward_15 ?_
      refine lv_iload_n hx hb dX5_forward_18 rfl (lv_at hl 1 rfl) ?_
      obtain ⟨g5, hm⟩ := gb_some hm
      refine ld_27 hx hb hK hI g5 (v := σ 27 (ix v1)) rfl dX5_forward_19 ?_
      refine lv_if_eq (tgt := 31) hx hb dX5_forward_20 (by decide) (fun c6 => ?_) (fun c6 => ?_)
      · have hm := (if_pos c6).symm.trans hm
        refine lv_aload_n hx hb dX5_forward_31 rfl (lv_at hl 0 rfl) ?_
        refine lv_iload_n hx hb dX5_forward_32 rfl (lv_at hl 1 rfl) ?_
        obtain ⟨r7, σ8, h9, hm⟩ := bd_some hm
        refine k_v hI hA (va_runV (As := [.int v1]) (rest := []) hX (c_X5_forwardReads N n h9 _) (cwV 1 ht (in_V mw_432 mw_433 mw_434 mw_138 mw_426) rfl rfl rfl pd_X5_forwardReads ⟨Nat.le_of_ble_eq_true rfl, Nat.le_of_ble_eq_true rfl⟩) ⟨q_blind, va_recv hK hI.1 (ci := 4) (q0 := 13) rfl rfl, q_to hI hK hN hZ hA⟩ rfl rfl hl.1 rfl (lv_room (Nat.le_of_ble_eq_true rfl)) dX5_forward_33 (by decide)) (fun H locs hI => ?_)
        refine lv_aload_n hx hb dX5_forward_36 rfl (lv_at hl 0 rfl) ?_
        refine lv_aload_n hx hb dX5_forward_37 rfl (lv_at hl 0 rfl) ?_
        refine lv_iload_n hx hb dX5_forward_38 rfl (lv_at hl 1 rfl) ?_
        obtain ⟨r10, σ11, h12, hm⟩ := bd_some hm
        refine k_i hI hA (va_runV (As := [.int v1]) (rest := [.ref (ga g 13)]) hX (c_X5_writtenSet N n h12 _) (cwV 1 ht (in_V mw_435 mw_157 mw_158 mw_138 mw_132) rfl rfl rfl pd_X5_writtenSet ⟨Nat.le_of_ble_eq_true rfl, Nat.le_of_ble_eq_true rfl⟩) ⟨q_blind, va_recv hK hI.1 (ci := 4) (q0 := 13) rfl rfl, q_to hI hK hN hZ hA⟩ rfl rfl hl.1 rfl (lv_room (Nat.le_of_ble_eq_true rfl)) dX5_forward_39 (by decide)) (fun H locs hI => ?_)
        obtain ⟨r13, σ14, h15, hm⟩ := bd_some hm
        refine k_v hI hA (va_runV (As := [.int r10]) (rest := []) hX (c_X5_forgetWritten N n h15 _) (cwV 1 ht (in_V mw_436 mw_437 mw_438 mw_138 mw_427) rfl rfl rfl pd_X5_forgetWritten ⟨Nat.le_of_ble_eq_true rfl, Nat.le_of_ble_eq_true rfl⟩) ⟨q_blind, va_recv hK hI.1 (ci := 4) (q0 := 13) rfl rfl, q_to hI hK hN hZ hA⟩ rfl rfl hl.1 rfl (lv_room (Nat.le_of_ble_eq_true rfl)) dX5_forward_42 (by decide)) (fun H locs hI => ?_)
        refine lv_aload_n hx hb dX5_forward_45 rfl (lv_at hl 0 rfl) ?_
        refine gf_13_0 hx hb ht hK hI mw_133 (fun _ h9 => h9) hown dX5_forward_46 ?_
        refine lv_iload_n hx hb dX5_forward_49 rfl (lv_at hl 1 rfl) ?_
        obtain ⟨g16, hm⟩ := gb_some hm
        refine ld_14 hx hb hK hI g16 (v := σ14 14 (ix v1)) rfl dX5_forward_50 ?_
        refine lv_iconst (v := 1) hx hb dX5_forward_51 (by decide) ?_
        refine lv_icmp_ne (tgt := 91) hx hb dX5_forward_52 (by decide) (fun c17 => ?_) (fun c17 => ?_)
        · have hm := (if_neg c17).symm.trans hm
          refine lv_iinc (v := v1 + 1) (lv' := [(1, .int (v1 + 1)), (0, .ref (ga g 13))]) hx hb dX5_forward_91 hl (k := 1) rfl (congrArg (fun z => v1 + z) (show Int32.ofInt 1 = 1 by decide)) (by decide) rfl (fun ls hl => ?_)
          refine lv_goto (tgt := 6) hx hb dX5_forward_94 (by decide) ?_
          exact ih σ14 (v1 + 1) _ _ _ hm hI (lv_sub hl [1, 0] rfl) hx97
        · have hm := (if_pos c17).symm.trans hm
          refine lv_aload_n hx hb dX5_forward_55 rfl (lv_at hl 0 rfl) ?_
          refine gf_13_3 hx hb ht hK hI mw_134 (fun _ h9 => h9) hown dX5_forward_56 ?_
          refine lv_iload_n hx hb dX5_forward_59 rfl (lv_at hl 1 rfl) ?_
          obtain ⟨g18, hm⟩ := gb_some hm
          refine ld_17 hx hb hK hI g18 (v := σ14 17 (ix v1)) rfl dX5_forward_60 ?_
          refine lv_aload_n hx hb dX5_forward_61 rfl (lv_at hl 0 rfl) ?_
          refine gf_13_5 hx hb ht hK hI mw_121 (fun _ h9 => h9) hown dX5_forward_62 ?_
          refine lv_iconst (v := 0) hx hb dX5_forward_65 (by decide) ?_
          obtain ⟨g19, hm⟩ := gb_some hm
          refine ld_19 hx hb hK hI g19 dX5_forward_66 ?_
          refine lv_iload_n hx hb dX5_forward_67 rfl (lv_at hl 1 rfl) ?_
          obtain ⟨g20, hm⟩ := gb_some hm
          refine ld_rd hx hb hK hI g19 g20 (v := σ14 19 (ix v1 * 6 + ix 0)) rfl dX5_forward_68 ?_
          refine lv_icmp_eq (tgt := 91) hx hb dX5_forward_69 (by decide) (fun c21 => ?_) (fun c21 => ?_)
          · have hm := (if_pos c21).symm.trans hm
            refine lv_iinc (v := v1 + 1) (lv' := [(1, .int (v1 + 1)), (0, .ref (ga g 13))]) hx hb dX5_forward_91 hl (k := 1) rfl (congrArg (fun z => v1 + z) (show Int32.ofInt 1 = 1 by decide)) (by decide) rfl (fun ls hl => ?_)
            refine lv_goto (tgt := 6) hx hb dX5_forward_94 (by decide) ?_
            exact ih σ14 (v1 + 1) _ _ _ hm hI (lv_sub hl [1, 0] rfl) hx97
          · have hm := (if_neg c21).symm.trans hm
            refine lv_aload_n hx hb dX5_forward_72 rfl (lv_at hl 0 rfl) ?_
            refine gf_13_9 hx hb ht hK hI mw_391 (fun _ h9 => h9) hown dX5_forward_73 ?_
            refine lv_aload_n hx hb dX5_forward_76 rfl (lv_at hl 0 rfl) ?_
            refine gf_13_3 hx hb ht hK hI mw_134 (fun _ h9 => h9) hown dX5_forward_77 ?_
            refine lv_iload_n hx hb dX5_forward_80 rfl (lv_at hl 1 rfl) ?_
            obtain ⟨g22, hm⟩ := gb_some hm
            refine ld_17 hx hb hK hI g22 (v := σ14 17 (ix v1)) rfl dX5_forward_81 ?_
            refine lv_aload_n hx hb dX5_forward_82 rfl (lv_at hl 0 rfl) ?_
            refine gf_13_5 hx hb ht hK hI mw_121 (fun _ h9 => h9) hown dX5_forward_83 ?_
            refine lv_iconst (v := 0) hx hb dX5_forward_86 (by decide) ?_
            obtain ⟨g23, hm⟩ := gb_some hm
            refine ld_19 hx hb hK hI g23 dX5_forward_87 ?_
            refine lv_iload_n hx hb dX5_forward_88 rfl (lv_at hl 1 rfl) ?_
            obtain ⟨g24, hm⟩ := gb_some hm
            refine ld_rd hx hb hK hI g23 g24 (v := σ14 19 (ix v1 * 6 + ix 0)) rfl dX5_forward_89 ?_
            obtain ⟨g25, hm⟩ := gb_some hm
            refine sv_28 hx hb hK hI g25 dX5_forward_90 (fun H locs hI => ?_)
            refine lv_iinc (v := v1 + 1) (lv' := [(1, .int (v1 + 1)), (0, .ref (ga g 13))]) hx hb dX5_forward_91 hl (k := 1) rfl (congrArg (fun z => v1 + z) (show Int32.ofInt 1 = 1 by decide)) (by decide) rfl (fun ls hl => ?_)
            refine lv_goto (tgt := 6) hx hb dX5_forward_94 (by decide) ?_
            exact ih (sg σ14 28 (ix (σ14 17 (ix v1))) (σ14 19 (ix v1 * 6 + ix 0))) (v1 + 1) _ _ _ hm hI (lv_sub hl [1, 0] rfl) hx97
      · have hm := (if_neg c6).symm.trans hm
        refine lv_aload_n hx hb dX5_forward_23 rfl (lv_at hl 0 rfl) ?_
        refine gf_13_9 hx hb ht hK hI mw_391 (fun _ h9 => h9) hown dX5_forward_24 ?_
        refine lv_iconst (v := (-1)) hx hb dX5_forward_27 (by decide) ?_
        obtain ⟨r26, σ27, h28, hm⟩ := bd_some hm
        refine k_v hI hA (va_runS (As := [.ref (ga g 28), .int (-1)]) (rest := []) hX (c_J7_fill_53178_28 N n h28 _) (va_cwS 2 ht (in_S mw_431 mw_118 mw_88 mw_115) rfl rfl rfl pd_J7_fill_53178 ⟨Nat.le_of_ble_eq_true rfl, Nat.le_of_ble_eq_true rfl⟩) ⟨q_blind, q_to hI hK hN hZ hA⟩ rfl rfl hl.1 rfl (lv_room (Nat.le_of_ble_eq_true rfl)) dX5_forward_28 (by decide)) (fun H locs hI => ?_)
        refine lv_aload_n hx hb dX5_forward_31 rfl (lv_at hl 0 rfl) ?_
        refine lv_iload_n hx hb dX5_forward_32 rfl (lv_at hl 1 rfl) ?_
        obtain ⟨r29, σ30, h31, hm⟩ := bd_some hm
        refine k_v hI hA (va_runV (As := [.int v1]) (rest := []) hX (c_X5_forwardReads N n h31 _) (cwV 1 ht (in_V mw_432 mw_433 mw_434 mw_138 mw_426) rfl rfl rfl pd_X5_forwardReads ⟨Nat.le_of_ble_eq_true rfl, Nat.le_of_ble_eq_true rfl⟩) ⟨q_blind, va_recv hK hI.1 (ci := 4) (q0 := 13) rfl rfl, q_to hI hK hN hZ hA⟩ rfl rfl hl.1 rfl (lv_room (Nat.le_of_ble_eq_true rfl)) dX5_forward_33 (by decide)) (fun H locs hI => ?_)
        refine lv_aload_n hx hb dX5_forward_36 rfl (lv_at hl 0 rfl) ?_
        refine lv_aload_n hx hb dX5_forward_37 rfl (lv_at hl 0 rfl) ?_
        refine lv_iload_n hx hb dX5_forward_38 rfl (lv_at hl 1 rfl) ?_
        obtain ⟨r32, σ33, h34, hm⟩ := bd_some hm
        refine k_i hI hA (va_runV (As := [.int v1]) (rest := [.ref (ga g 13)]) hX (c_X5_writtenSet N n h34 _) (cwV 1 ht (in_V mw_435 mw_157 mw_158 mw_138 mw_132) rfl rfl rfl pd_X5_writtenSet ⟨Nat.le_of_ble_eq_true rfl, Nat.le_of_ble_eq_true rfl⟩) ⟨q_blind, va_recv hK hI.1 (ci := 4) (q0 := 13) rfl rfl, q_to hI hK hN hZ hA⟩ rfl rfl hl.1 rfl (lv_room (Nat.le_of_ble_eq_true rfl)) dX5_forward_39 (by decide)) (fun H locs hI => ?_)
        obtain ⟨r35, σ36, h37, hm⟩ := bd_some hm
        refine k_v hI hA (va_runV (As := [.int r32]) (rest := []) hX (c_X5_forgetWritten N n h37 _) (cwV 1 ht (in_V mw_436 mw_437 mw_438 mw_138 mw_427) rfl rfl rfl pd_X5_forgetWritten ⟨Nat.le_of_ble_eq_true rfl, Nat.le_of_ble_eq_true rfl⟩) ⟨q_blind, va_recv hK hI.1 (ci := 4) (q0 := 13) rfl rfl, q_to hI hK hN hZ hA⟩ rfl rfl hl.1 rfl (lv_room (Nat.le_of_ble_eq_true rfl)) dX5_forward_42 (by decide)) (fun H locs hI => ?_)
        refine lv_aload_n hx hb dX5_forward_45 rfl (lv_at hl 0 rfl) ?_
        refine gf_13_0 hx hb ht hK hI mw_133 (fun _ h9 => h9) hown dX5_forward_46 ?_
        refine lv_iload_n hx hb dX5_forward_49 rfl (lv_at hl 1 rfl) ?_
        obtain ⟨g38, hm⟩ := gb_some hm
        refine ld_14 hx hb hK hI g38 (v := σ36 14 (ix v1)) rfl dX5_forward_50 ?_
        refine lv_iconst (v := 1) hx hb dX5_forward_51 (by decide) ?_
        refine lv_icmp_ne (tgt := 91) hx hb dX5_forward_52 (by decide) (fun c39 => ?_) (fun c39 => ?_)
        · have hm := (if_neg c39).symm.trans hm
          refine lv_iinc (v := v1 + 1) (lv' := [(1, .int (v1 + 1)), (0, .ref (ga g 13))]) hx hb dX5_forward_91 hl (k := 1) rfl (congrArg (fun z => v1 + z) (show Int32.ofInt 1 = 1 by decide)) (by decide) rfl (fun ls hl => ?_)
          refine lv_goto (tgt := 6) hx hb dX5_forward_94 (by decide) ?_
          exact ih σ36 (v1 + 1) _ _ _ hm hI (lv_sub hl [1, 0] rfl) hx97
        · have hm := (if_pos c39).symm.trans hm
          refine lv_aload_n hx hb dX5_forward_55 rfl (lv_at hl 0 rfl) ?_
          refine gf_13_3 hx hb ht hK hI mw_134 (fun _ h9 => h9) hown dX5_forward_56 ?_
          refine lv_iload_n hx hb dX5_forward_59 rfl (lv_at hl 1 rfl) ?_
          obtain ⟨g40, hm⟩ := gb_some hm
          refine ld_17 hx hb hK hI g40 (v := σ36 17 (ix v1)) rfl dX5_forward_60 ?_
          refine lv_aload_n hx hb dX5_forward_61 rfl (lv_at hl 0 rfl) ?_
          refine gf_13_5 hx hb ht hK hI mw_121 (fun _ h9 => h9) hown dX5_forward_62 ?_
          refine lv_iconst (v := 0) hx hb dX5_forward_65 (by decide) ?_
          obtain ⟨g41, hm⟩ := gb_some hm
          refine ld_19 hx hb hK hI g41 dX5_forward_66 ?_
          refine lv_iload_n hx hb dX5_forward_67 rfl (lv_at hl 1 rfl) ?_
          obtain ⟨g42, hm⟩ := gb_some hm
          refine ld_rd hx hb hK hI g41 g42 (v := σ36 19 (ix v1 * 6 + ix 0)) rfl dX5_forward_68 ?_
          refine lv_icmp_eq (tgt := 91) hx hb dX5_forward_69 (by decide) (fun c43 => ?_) (fun c43 => ?_)
          · have hm := (if_pos c43).symm.trans hm
            refine lv_iinc (v := v1 + 1) (lv' := [(1, .int (v1 + 1)), (0, .ref (ga g 13))]) hx hb dX5_forward_91 hl (k := 1) rfl (congrArg (fun z => v1 + z) (show Int32.ofInt 1 = 1 by decide)) (by decide) rfl (fun ls hl => ?_)
            refine lv_goto (tgt := 6) hx hb dX5_forward_94 (by decide) ?_
            exact ih σ36 (v1 + 1) _ _ _ hm hI (lv_sub hl [1, 0] rfl) hx97
          · have hm := (if_neg c43).symm.trans hm
            refine lv_aload_n hx hb dX5_forward_72 rfl (lv_at hl 0 rfl) ?_
            refine gf_13_9 hx hb ht hK hI mw_391 (fun _ h9 => h9) hown dX5_forward_73 ?_
            refine lv_aload_n hx hb dX5_forward_76 rfl (lv_at hl 0 rfl) ?_
            refine gf_13_3 hx hb ht hK hI mw_134 (fun _ h9 => h9) hown dX5_forward_77 ?_
            refine lv_iload_n hx hb dX5_forward_80 rfl (lv_at hl 1 rfl) ?_
            obtain ⟨g44, hm⟩ := gb_some hm
            refine ld_17 hx hb hK hI g44 (v := σ36 17 (ix v1)) rfl dX5_forward_81 ?_
            refine lv_aload_n hx hb dX5_forward_82 rfl (lv_at hl 0 rfl) ?_
            refine gf_13_5 hx hb ht hK hI mw_121 (fun _ h9 => h9) hown dX5_forward_83 ?_
            refine lv_iconst (v := 0) hx hb dX5_forward_86 (by decide) ?_
            obtain ⟨g45, hm⟩ := gb_some hm
            refine ld_19 hx hb hK hI g45 dX5_forward_87 ?_
            refine lv_iload_n hx hb dX5_forward_88 rfl (lv_at hl 1 rfl) ?_
            obtain ⟨g46, hm⟩ := gb_some hm
            refine ld_rd hx hb hK hI g45 g46 (v := σ36 19 (ix v1 * 6 + ix 0)) rfl dX5_forward_89 ?_
            obtain ⟨g47, hm⟩ := gb_some hm
            refine sv_28 hx hb hK hI g47 dX5_forward_90 (fun H locs hI => ?_)
            refine lv_iinc (v := v1 + 1) (lv' := [(1, .int (v1 + 1)), (0, .ref (ga g 13))]) hx hb dX5_forward_91 hl (k := 1) rfl (congrArg (fun z => v1 + z) (show Int32.ofInt 1 = 1 by decide)) (by decide) rfl (fun ls hl => ?_)
            refine lv_goto (tgt := 6) hx hb dX5_forward_94 (by decide) ?_
            exact ih (sg σ36 28 (ix (σ36 17 (ix v1))) (σ36 19 (ix v1 * 6 + ix 0))) (v1 + 1) _ _ _ hm hI (lv_sub hl [1, 0] rfl) hx97
set_option maxHeartbeats 4000000 in
set_option maxRecDepth 100000 in
theorem c_X5_forward {l : Launch} {g : GG} {q : Nat} (N n : Nat) {σ : Sg}  {r : Int32} {σ' : Sg} (hm : f_X5_forward N n σ  = some (r, σ')) : CTv l yX5_forward cX5_forward 2 none 2 44 g q n [.ref (ga g 13)] σ σ' := by
  refine e_v (r := r) (by decide) (Nat.le_of_ble_eq_true rfl) ?_
  intro p e s m args below meth c A Q ls hC hl hI
  obtain ⟨hX, hK, hN, hZ, hA, hR⟩ := id hC
  have hx : p.tables.exec = Jvm.exec := hX.1
  have hb : c.code = cX5_forward := hX.2.1
  have hml : c.maxLocals = 2 := hX.2.2.1
  have hown : s.vm.findClass RX5 = some m.cls := hX.2.2.2.1
  have ht : ∀ w ∈ BIG, w.before args s = true := hX.2.2.2.2
  have hl : lv_has ls 2 [(0, .ref (ga g 13))] := hl
  unfold f_X5_forward at hm
  refine lv_aload_n hx hb dX5_forward_0 rfl (lv_at hl 0 rfl) ?_
  obtain ⟨r1, σ2, h3, hm⟩ := bd_some hm
  refine k_v hI hA (va_runV (As := []) (rest := []) hX (c_X5_markBlockStarts N n h3 _) (cwV 0 ht (in_V mw_428 mw_429 mw_430 mw_138 mw_425) rfl rfl rfl pd_X5_markBlockStarts ⟨Nat.le_of_ble_eq_true rfl, Nat.le_of_ble_eq_true rfl⟩) ⟨q_blind, va_recv hK hI.1 (ci := 4) (q0 := 13) rfl rfl, q_to hI hK hN hZ hA⟩ rfl rfl hl.1 rfl (lv_room (Nat.le_of_ble_eq_true rfl)) dX5_forward_1 (by decide)) (fun H locs hI => ?_)
  refine lv_iconst (v := 0) hx hb dX5_forward_4 (by decide) ?_
  refine lv_istore_n (lv' := [(1, .int 0), (0, .ref (ga g 13))]) hx hb dX5_forward_5 rfl hl (by decide) rfl (fun ls hl => ?_)
  refine lp_X5_forward_6 hC N _ _ _ _ _ hm hI (lv_sub hl [1, 0] rfl) ?_
  intro σ48 w49 H locs ls hm hI hl
  exact hR _ _ _ _ _ hm hI dX5_forward_97
def f_X9_begin (N n : Nat) (σ : Sg) (p0 : Int32) : Option (Int32 × Sg) := some (0, sg (sg σ 11 7 p0) 39 2 0)
set_option maxHeartbeats 4000000 in
set_option maxRecDepth 100000 in
theorem c_X9_begin {l : Launch} {g : GG} {q : Nat} (N n : Nat) {σ : Sg} {p0 : Int32} {r : Int32} {σ' : Sg} (hm : f_X9_begin N n σ p0 = some (r, σ')) : CTv l yX9_begin cX9_begin 2 none 0 0 g q n [.ref (ga g 11), .int p0] σ σ' := by
  refine e_v (r := r) (by decide) (Nat.le_of_ble_eq_true rfl) ?_
  intro p e s m args below meth c A Q ls hC hl hI
  obtain ⟨hX, hK, hN, hZ, hA, hR⟩ := id hC
  have hx : p.tables.exec = Jvm.exec := hX.1
  have hb : c.code = cX9_begin := hX.2.1
  have hml : c.maxLocals = 2 := hX.2.2.1
  have hown : s.vm.findClass RX9 = some m.cls := hX.2.2.2.1
  have ht : ∀ w ∈ BIG, w.before args s = true := hX.2.2.2.2
  have hl : lv_has ls 2 [(0, .ref (ga g 11)), (1, .int p0)] := hl
  unfold f_X9_begin at hm
  refine lv_aload_n hx hb dX9_begin_0 rfl (lv_at hl 0 rfl) ?_
  refine lv_iload_n hx hb dX9_begin_1 rfl (lv_at hl 1 rfl) ?_
  refine pf_11_7 hx hb ht hK hI mw_523 (fun _ h9 => h9) hown dX9_begin_2 (fun H locs hI => ?_)
  refine lv_aload_n hx hb dX9_begin_5 rfl (lv_at hl 0 rfl) ?_
  refine gf_11_4 hx hb ht hK hI mw_500 (fun _ h9 => h9) hown dX9_begin_6 ?_
  refine lv_iconst (v := 0) hx hb dX9_begin_9 (by decide) ?_
  refine pf_39_2 hx hb ht hK hI mw_524 (fun _ h9 => h9) hown dX9_begin_10 (fun H locs hI => ?_)
  exact hR _ _ _ _ _ hm hI dX9_begin_13
def lb_X9_leaveOut_12 (N n : Nat) (u1 : Int32) (K49 : (Sg → Int32 → Option (Int32 × Sg))) (rec : (Sg → Int32 → Option (Int32 × Sg))) (σ : Sg) (v2 : Int32) : Option (Int32 × Sg) := if u1 ≤ v2 then (K49 σ v2) else (bd (f_X3_find N n σ ) (fun r2 σ3 => bd (f_X5_dropUseless N n σ3 ) (fun r5 σ6 => if r5 = 0 then (some (0, σ6)) else (rec σ6 (v2 + 1)))))
def lf_X9_leaveOut_12 (N n : Nat) (u1 : Int32) (K49 : (Sg → Int32 → Option (Int32 × Sg))) : Nat → (Sg → Int32 → Option (Int32 × Sg))
  | 0 => fun _ _ => none
  | k + 1 => lb_X9_leaveOut_12 N n u1 K49 (lf_X9_leaveOut_12 N n u1 K49 k)
def f_X9_leaveOut (N n : Nat) (σ : Sg)  : Option (Int32 × Sg) := lf_X9_leaveOut_12 N n ((σ 13 6) + 1) (fun σ9 w10 => some (0, σ9)) N σ 0
set_option maxHeartbeats 4000000 in
set_option maxRecDepth 100000 in
theorem lp_X9_leaveOut_12 {p : Program} {l : Launch} {e : Env} {s : State} {m : MethodId} {args : Array Value} {below : List Frame} {meth : Method} {c : Code} {Q : State → Prop} {A : Nat → Prop} {g : GG} {q N n : Nat} {out : Int32 × Sg} {u1 : Int32} {K49 : (Sg → Int32 → Option (Int32 × Sg))}
    (hC : CXv p l e (qR 4 92) s m args below meth c cX9_leaveOut 3 RX9 g q n A Q (some out)) :
    ∀ (k : Nat) (σ : Sg) (v2 : Int32) (H : Heap) (locs : List Loc) (ls : Array Slot), lf_X9_leaveOut_12 N n u1 K49 k σ v2 = some out → wI g q n σ A s.heap H locs → lv_has ls 3 [(0, .ref (ga g 11)), (1, .int u1), (2, .int v2)] → (∀ (σ : Sg) (v2 : Int32) (H : Heap) (locs : List Loc) (ls : Array Slot), K49 σ v2 = some out → wI g q n σ A s.heap H locs → lv_has ls 3 [] → W p l e (qR 4 92) s m args below meth c H locs 0 0 Q (F0 m 49 ls [])) → W p l e (qR 4 92) s m args below meth c H locs 0 0 Q (F0 m 12 ls []) := by
  obtain ⟨hX, hK, hN, hZ, hA, hR⟩ := id hC
  have hx : p.tables.exec = Jvm.exec := hX.1
  have hb : c.code = cX9_leaveOut := hX.2.1
  have hml : c.maxLocals = 3 := hX.2.2.1
  have hown : s.vm.findClass RX9 = some m.cls := hX.2.2.2.1
  have ht : ∀ w ∈ BIG, w.before args s = true := hX.2.2.2.2
  intro k
  induction k with
  | zero =>
    intro σ v2 H locs ls hm
    have hm : none = some out := hm
    exact nomatch hm
  | succ k ih =>
    intro σ v2 H locs ls hm hI hl hx49
    have hm : lb_X9_leaveOut_12 N n u1 K49 (lf_X9_leaveOut_12 N n u1 K49 k) σ v2 = some out := hm
    unfold lb_X9_leaveOut_12 at hm
    refine lv_iload_n hx hb dX9_leaveOut_12 rfl (lv_at hl 2 rfl) ?_
    refine lv_iload_n hx hb dX9_leaveOut_13 rfl (lv_at hl 1 rfl) ?_
    refine lv_icmp_ge (tgt := 49) hx hb dX9_leaveOut_14 (by decide) (fun c1 => ?_) (fun c1 => ?_)
    · have hm := (if_pos c1).symm.trans hm
      exact hx49 σ v2 _ _ _ hm hI (lv_sub hl [] rfl)
    · have hm := (if_neg c1).symm.trans hm
      refine lv_aload_n hx hb dX9_leaveOut_17 rfl (lv_at hl 0 rfl) ?_
      refine gf_11_2 hx hb ht hK hI mw_494 (fun _ h9 => h9) hown dX9_leaveOut_18 ?_
      refine lv_aload_n hx hb dX9_leaveOut_21 rfl (lv_at hl 0 rfl) ?_
      refine gf_11_1 hx hb ht hK hI mw_491 (fun _ h9 => h9) hown dX9_leaveOut_22 ?_
      obtain ⟨r2, σ3, h4, hm⟩ := bd_some hm
      refine k_v hI hA (va_runV (As := [.ref (ga g 13)]) (rest := []) hX (c_X3_find N n h4 _) (cwV 1 ht (in_V mw_526 mw_527 mw_528 mw_190 mw_191) rfl rfl rfl pd_X3_find ⟨Nat.le_of_ble_eq_true rfl, Nat.le_of_ble_eq_true rfl⟩) ⟨q_blind, va_recv hK hI.1 (ci := 3) (q0 := 29) rfl rfl, q_to hI hK hN hZ hA⟩ rfl rfl hl.1 rfl (lv_room (Nat.le_of_ble_eq_true rfl)) dX9_leaveOut_25 (by decide)) (fun H locs hI => ?_)
      refine lv_aload_n hx hb dX9_leaveOut_28 rfl (lv_at hl 0 rfl) ?_
      refine gf_11_1 hx hb ht hK hI mw_491 (fun _ h9 => h9) hown dX9_leaveOut_29 ?_
      refine lv_aload_n hx hb dX9_leaveOut_32 rfl (lv_at hl 0 rfl) ?_
      refine gf_11_2 hx hb ht hK hI mw_494 (fun _ h9 => h9) hown dX9_leaveOut_33 ?_
      obtain ⟨r5, σ6, h7, hm⟩ := bd_some hm
      refine k_i hI hA (va_runV (As := [.ref (ga g 29)]) (rest := []) hX (c_X5_dropUseless N n h7 _) (cwV 1 ht (in_V mw_529 mw_530 mw_531 mw_138 mw_449) rfl rfl rfl pd_X5_dropUseless ⟨Nat.le_of_ble_eq_true rfl, Nat.le_of_ble_eq_true rfl⟩) ⟨q_blind, va_recv hK hI.1 (ci := 4) (q0 := 13) rfl rfl, q_to hI hK hN hZ hA⟩ rfl rfl hl.1 rfl (lv_room (Nat.le_of_ble_eq_true rfl)) dX9_leaveOut_36 (by decide)) (fun H locs hI => ?_)
      refine lv_if_ne (tgt := 43) hx hb dX9_leaveOut_39 (by decide) (fun c8 => ?_) (fun c8 => ?_)
      · have hm := (if_neg c8).symm.trans hm
        refine lv_iinc (v := v2 + 1) (lv' := [(2, .int (v2 + 1)), (0, .ref (ga g 11)), (1, .int u1)]) hx hb dX9_leaveOut_43 hl (k := 2) rfl (congrArg (fun z => v2 + z) (show Int32.ofInt 1 = 1 by decide)) (by decide) rfl (fun ls hl => ?_)
        refine lv_goto (tgt := 12) hx hb dX9_leaveOut_46 (by decide) ?_
        exact ih σ6 (v2 + 1) _ _ _ hm hI (lv_sub hl [1, 2, 0] rfl) hx49
      · have hm := (if_pos c8).symm.trans hm
        exact hR _ _ _ _ _ hm hI dX9_leaveOut_42
set_option maxHeartbeats 4000000 in
set_option maxRecDepth 100000 in
theorem c_X9_leaveOut {l : Launch} {g : GG} {q : Nat} (N n : Nat) {σ : Sg}  {r : Int32} {σ' : Sg} (hm : f_X9_leaveOut N n σ  = some (r, σ')) : CTv l yX9_leaveOut cX9_leaveOut 3 none 4 92 g q n [.ref (ga g 11)] σ σ' := by
  refine e_v (r := r) (by decide) (Nat.le_of_ble_eq_true rfl) ?_
  intro p e s m args below meth c A Q ls hC hl hI
  obtain ⟨hX, hK, hN, hZ, hA, hR⟩ := id hC
  have hx : p.tables.exec = Jvm.exec := hX.1
  have hb : c.code = cX9_leaveOut := hX.2.1
  have hml : c.maxLocals = 3 := hX.2.2.1
  have hown : s.vm.findClass RX9 = some m.cls := hX.2.2.2.1
  have ht : ∀ w ∈ BIG, w.before args s = true := hX.2.2.2.2
  have hl : lv_has ls 3 [(0, .ref (ga g 11))] := hl
  unfold f_X9_leaveOut at hm
  refine lv_aload_n hx hb dX9_leaveOut_0 rfl (lv_at hl 0 rfl) ?_
  refine gf_11_1 hx hb ht hK hI mw_491 (fun _ h9 => h9) hown dX9_leaveOut_1 ?_
  refine gf_13_6 hx hb ht hK hI (v := σ 13 6) rfl mw_525 (fun _ h9 => h9) hown dX9_leaveOut_4 ?_
  refine lv_iconst (v := 1) hx hb dX9_leaveOut_7 (by decide) ?_
  refine lv_iadd hx hb dX9_leaveOut_8 ?_
  refine lv_istore_n (lv' := [(1, .int ((σ 13 6) + 1)), (0, .ref (ga g 11))]) hx hb dX9_leaveOut_9 rfl hl (by decide) rfl (fun ls hl => ?_)
  refine lv_iconst (v := 0) hx hb dX9_leaveOut_10 (by decide) ?_
  refine lv_istore_n (lv' := [(2, .int 0), (1, .int ((σ 13 6) + 1)), (0, .ref (ga g 11))]) hx hb dX9_leaveOut_11 rfl hl (by decide) rfl (fun ls hl => ?_)
  refine lp_X9_leaveOut_12 hC N _ _ _ _ _ hm hI (lv_sub hl [2, 1, 0] rfl) ?_
  intro σ9 w10 H locs ls hm hI hl
  exact hR _ _ _ _ _ hm hI dX9_leaveOut_49
