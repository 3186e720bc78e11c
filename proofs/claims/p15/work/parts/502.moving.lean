set_option maxHeartbeats 4000000 in
set_option maxRecDepth 100000 in
/-- parts = Arrays.copyOf(parts, nl) -/
theorem cp_open {p : Program} {l : Launch} {e : Env} {s : State} {m : MethodId} {args : Array Value} {below : List Frame} {meth : Method} {c : Code} {H : Heap} {locs : List Loc} {Q : State → Prop} {ls : Array Slot} {A : Nat → Prop} {g : GG} {q n n' : Nat} {σ : Sg} {out : Option (Int32 × Sg)} {nl : Int32}
    (hC : CXm p l e (qRc 2 82 (ix nl)) s m args below meth c cX1_open 4 RX1 g n' (ix nl) A Q out) (hI : wI g q n σ A s.heap H locs) (hls : ls.size = 4) (hg : gcp n nl = true)
    (kk : ∀ (q1 : Nat) (H1 : Heap) (locs1 : List Loc), wI g q1 (ix nl) (gw σ n) A s.heap H1 locs1 → W p l e (qRc 2 82 (ix nl)) s m args below meth c H1 locs1 (ix nl) (ix nl) Q (F0 m 46 ls [])) :
    W p l e (qRc 2 82 (ix nl)) s m args below meth c H locs 0 0 Q (F0 m 40 ls [.int nl, .ref q, .ref (ga g 39)]) := by
  obtain ⟨hX, hK, hN, hZ, hA, hR⟩ := id hC
  have hx : p.tables.exec = Jvm.exec := hX.1
  have hb : c.code = cX1_open := hX.2.1
  have hml : c.maxLocals = 4 := hX.2.2.1
  have hown : s.vm.findClass RX1 = some m.cls := hX.2.2.2.1
  have ht : ∀ w ∈ BIG, w.before args s = true := hX.2.2.2.2
  refine va_callr (va_runS (As := [.ref q, .int nl]) (rest := [.ref (ga g 39)]) hX (c_copyOf (l := l) (g := g) (q := q) (σ := σ) hg H.size) (va_cwS 2 ht (in_S mw_86 mw_87 mw_88 mw_74) rfl rfl rfl (by decide +kernel) ⟨Nat.le_of_ble_eq_true rfl, Nat.le_of_ble_eq_true rfl⟩) ⟨q_blind, q_to hI hK hN hZ hA⟩ rfl rfl hls rfl (lv_room (Nat.le_of_ble_eq_true rfl)) dX1_open_40 ⟨Nat.le_of_eq (Nat.zero_add _), Nat.le_of_eq (Nat.zero_add _)⟩) hI.2.2 (fun x _ h => q_free hI hA x h) (q_free hI hA) (fun u q1 t H1 l1 ht1 hvm hw hB hz1 hk1 hS => ?_)
  subst ht1
  obtain ⟨hP, hD⟩ := hB
  have hD : va_D A _ := ⟨hD.1, fun k x hk => q_free hI hA _ (hD.2 k x hk)⟩
  refine W.widen (k := ix nl) (n := ix nl) (Nat.le_of_eq (Nat.zero_add _)) (Nat.le_of_eq (Nat.zero_add _)) ?_
  refine va_put (D := g.1) (ci := 1) (v := .ref q1) (ty := .array .int) (C := RX1) (T := TX1) (N := 4) hx hb ht iu_X1 tyX1 tyX1_ok nmX1 hown hK hP hD hS 39 rfl rfl 3 (by decide) (ht _ mw_69) (fun _ h9 => h9) rfl (by decide +kernel) rfl rfl (Nat.le_of_ble_eq_true rfl) dX1_open_43 (fun H2 l2 hP hD hS => ?_)
  have hP9 := hP.sub (ws' := wA g q1 (ix nl) (gw σ n)) [0, 1, 2, 3, 4, 5, 6, 7, 8, 9, 10, 11, 12, 13, 14, 15, 16, 17, 18, 19, 20, 21, 22, 23, 24, 25, 26, 27, 28, 29, 30, 31, 32, 33, 34, 35, 36, 37, 38, 39, 40, 41, 103, 43, 44, 45, 46, 47, 48, 49, 50, 51, 52, 53, 54, 55, 56, 57, 58, 59, 60, 61, 62, 63, 64, 65, 66, 67, 68, 69, 70, 71, 72, 73, 74, 75, 76, 77, 78, 79, 80, 81, 82, 83, 84, 85, 86, 87, 88, 89, 90, 91, 92, 93, 94, 95, 96, 97, 98, 99, 100, 101, 102] rfl
  have hD9 := hD.sub (ws' := wA g q1 (ix nl) (gw σ n)) [0, 1, 2, 3, 4, 5, 6, 7, 8, 9, 10, 11, 12, 13, 14, 15, 16, 17, 18, 19, 20, 21, 22, 23, 24, 25, 26, 27, 28, 29, 30, 31, 32, 33, 34, 35, 36, 37, 38, 39, 40, 41, 103, 43, 44, 45, 46, 47, 48, 49, 50, 51, 52, 53, 54, 55, 56, 57, 58, 59, 60, 61, 62, 63, 64, 65, 66, 67, 68, 69, 70, 71, 72, 73, 74, 75, 76, 77, 78, 79, 80, 81, 82, 83, 84, 85, 86, 87, 88, 89, 90, 91, 92, 93, 94, 95, 96, 97, 98, 99, 100, 101, 102] (by decide) rfl
  exact kk q1 H2 l2 ⟨hP9, hD9, hS⟩
def f_X1_open (N n : Nat) (σ : Sg) (p0 : Int32) (p1 : Int32) : Option Mo := if ((((σ 39 2) + 20) + (p1 * 15)) * 5) ≤ (Int32.ofNat n) then (mv n 0 (gb p0 12 (gb p0 12 (some (0, sg (sg σ 40 (ix p0) (σ 39 2)) 41 (ix p0) 0))))) else (bif gcp n (if ((((σ 39 2) + 20) + (p1 * 15)) * 5) < ((Int32.ofNat n) * 2) then ((Int32.ofNat n) * 2) else ((((σ 39 2) + 20) + (p1 * 15)) * 5)) then mv (ix (if ((((σ 39 2) + 20) + (p1 * 15)) * 5) < ((Int32.ofNat n) * 2) then ((Int32.ofNat n) * 2) else ((((σ 39 2) + 20) + (p1 * 15)) * 5))) (ix (if ((((σ 39 2) + 20) + (p1 * 15)) * 5) < ((Int32.ofNat n) * 2) then ((Int32.ofNat n) * 2) else ((((σ 39 2) + 20) + (p1 * 15)) * 5))) (gb p0 12 (gb p0 12 (some (0, sg (sg (gw σ n) 40 (ix p0) ((gw σ n) 39 2)) 41 (ix p0) 0)))) else none)
set_option maxHeartbeats 4000000 in
set_option maxRecDepth 100000 in
theorem c_X1_open {l : Launch} {g : GG} {q : Nat} (N n : Nat) {σ : Sg} {p0 : Int32} {p1 : Int32} {r : Int32} {σ' : Sg} {n' d : Nat} (hm : f_X1_open N n σ p0 p1 = some (r, σ', n', d)) : CTm l yX1_open cX1_open 4 none 2 82 g q n [.ref (ga g 39), .int p0, .int p1] σ σ' n' d := by
  refine e_m (r := r) (by decide) (Nat.le_of_ble_eq_true rfl) ?_
  intro p e s m args below meth c A Q ls hC hl hI
  obtain ⟨hX, hK, hN, hZ, hA, hR⟩ := id hC
  have hx : p.tables.exec = Jvm.exec := hX.1
  have hb : c.code = cX1_open := hX.2.1
  have hml : c.maxLocals = 4 := hX.2.2.1
  have hown : s.vm.findClass RX1 = some m.cls := hX.2.2.2.1
  have ht : ∀ w ∈ BIG, w.before args s = true := hX.2.2.2.2
  have hl : lv_has ls 4 [(0, .ref (ga g 39)), (1, .int p0), (2, .int p1)] := hl
  unfold f_X1_open at hm
  refine lv_aload_n hx hb dX1_open_0 rfl (lv_at hl 0 rfl) ?_
  refine gf_39_2 hx hb ht hK hI (v := σ 39 2) rfl mw_83 (fun _ h9 => h9) hown dX1_open_1 ?_
  refine lv_bipush (v := 20) hx hb dX1_open_4 (by decide) ?_
  refine lv_iadd hx hb dX1_open_6 ?_
  refine lv_iload_n hx hb dX1_open_7 rfl (lv_at hl 2 rfl) ?_
  refine lv_bipush (v := 15) hx hb dX1_open_8 (by decide) ?_
  refine lv_imul hx hb dX1_open_10 ?_
  refine lv_iadd hx hb dX1_open_11 ?_
  refine lv_iconst (v := 5) hx hb dX1_open_12 (by decide) ?_
  refine lv_imul hx hb dX1_open_13 ?_
  refine lv_istore_n (lv' := [(3, .int ((((σ 39 2) + 20) + (p1 * 15)) * 5)), (0, .ref (ga g 39)), (1, .int p0), (2, .int p1)]) hx hb dX1_open_14 rfl hl (by decide) rfl (fun ls hl => ?_)
  refine lv_iload_n hx hb dX1_open_15 rfl (lv_at hl 0 rfl) ?_
  refine lv_aload_n hx hb dX1_open_16 rfl (lv_at hl 1 rfl) ?_
  refine gf_39_3 hx hb ht hK hI mw_69 (fun _ h9 => h9) hown dX1_open_17 ?_
  refine va_alen (v := Int32.ofNat n) hx hb hK hI.1 42 0 rfl rfl rfl dX1_open_20 ?_
  refine lv_icmp_le (tgt := 46) hx hb dX1_open_21 (by decide) (fun c1 => ?_) (fun c1 => ?_)
  · have hm := (if_pos c1).symm.trans hm
    obtain ⟨e1, e2, hk⟩ := mv_some hm
    have e1 := e1.symm
    have e2 := e2.symm
    subst e1
    subst e2
    have hm := hk
    refine lv_aload_n hx hb dX1_open_46 rfl (lv_at hl 1 rfl) ?_
    refine gf_39_0 hx hb ht hK hI mw_67 (fun _ h9 => h9) hown dX1_open_47 ?_
    refine lv_iload_n hx hb dX1_open_50 rfl (lv_at hl 2 rfl) ?_
    refine lv_aload_n hx hb dX1_open_51 rfl (lv_at hl 1 rfl) ?_
    refine gf_39_2 hx hb ht hK hI (v := σ 39 2) rfl mw_83 (fun _ h9 => h9) hown dX1_open_52 ?_
    obtain ⟨g2, hm⟩ := gb_some hm
    refine sv_40 hx hb hK hI g2 dX1_open_55 (fun H locs hI => ?_)
    refine lv_aload_n hx hb dX1_open_56 rfl (lv_at hl 1 rfl) ?_
    refine gf_39_1 hx hb ht hK hI mw_68 (fun _ h9 => h9) hown dX1_open_57 ?_
    refine lv_iload_n hx hb dX1_open_60 rfl (lv_at hl 2 rfl) ?_
    refine lv_iconst (v := 0) hx hb dX1_open_61 (by decide) ?_
    obtain ⟨g3, hm⟩ := gb_some hm
    refine sv_41 hx hb hK hI g3 dX1_open_62 (fun H locs hI => ?_)
    exact hR _ _ _ _ _ _ hm hI dX1_open_63
  · have hm := (if_neg c1).symm.trans hm
    refine lv_aload_n hx hb dX1_open_24 rfl (lv_at hl 1 rfl) ?_
    refine lv_aload_n hx hb dX1_open_25 rfl (lv_at hl 1 rfl) ?_
    refine gf_39_3 hx hb ht hK hI mw_69 (fun _ h9 => h9) hown dX1_open_26 ?_
    refine lv_iload_n hx hb dX1_open_29 rfl (lv_at hl 0 rfl) ?_
    refine lv_aload_n hx hb dX1_open_30 rfl (lv_at hl 1 rfl) ?_
    refine gf_39_3 hx hb ht hK hI mw_69 (fun _ h9 => h9) hown dX1_open_31 ?_
    refine va_alen (v := Int32.ofNat n) hx hb hK hI.1 42 0 rfl rfl rfl dX1_open_34 ?_
    refine lv_iconst (v := 2) hx hb dX1_open_35 (by decide) ?_
    refine lv_imul hx hb dX1_open_36 ?_
    refine va_mmax hx hb (hml.trans hl.1.symm) hown (ht _ mw_84) (ht _ mw_85) (ht _ mw_38) (show (Cond.code Lib.Math.max.name Lib.Math.max.code 2 (some .int)).before args s = true from ht _ mw_1088) (Nat.le_of_ble_eq_true rfl) (Nat.le_of_ble_eq_true rfl) (Nat.zero_le _) (Nat.zero_le _) dX1_open_37 ?_
    obtain ⟨hg, hm⟩ := gc_some hm
    obtain ⟨e1, e2, hk⟩ := mv_some hm
    have e1 := e1.symm
    have e2 := e2.symm
    subst e1
    subst e2
    have hm := hk
    refine cp_open hC hI hl.1 hg (fun q1 H locs hI => ?_)
    refine lv_aload_n hx hb dX1_open_46 rfl (lv_at hl 1 rfl) ?_
    refine gf_39_0 hx hb ht hK hI mw_67 (fun _ h9 => h9) hown dX1_open_47 ?_
    refine lv_iload_n hx hb dX1_open_50 rfl (lv_at hl 2 rfl) ?_
    refine lv_aload_n hx hb dX1_open_51 rfl (lv_at hl 1 rfl) ?_
    refine gf_39_2 hx hb ht hK hI (v := (gw σ n) 39 2) rfl mw_83 (fun _ h9 => h9) hown dX1_open_52 ?_
    obtain ⟨g4, hm⟩ := gb_some hm
    refine sv_40 hx hb hK hI g4 dX1_open_55 (fun H locs hI => ?_)
    refine lv_aload_n hx hb dX1_open_56 rfl (lv_at hl 1 rfl) ?_
    refine gf_39_1 hx hb ht hK hI mw_68 (fun _ h9 => h9) hown dX1_open_57 ?_
    refine lv_iload_n hx hb dX1_open_60 rfl (lv_at hl 2 rfl) ?_
    refine lv_iconst (v := 0) hx hb dX1_open_61 (by decide) ?_
    obtain ⟨g5, hm⟩ := gb_some hm
    refine sv_41 hx hb hK hI g5 dX1_open_62 (fun H locs hI => ?_)
    exact hR _ _ _ _ _ _ hm hI dX1_open_63

def f_X10_begin (N n : Nat) (σ : Sg) (p0 : Int32) (p1 : Int32) : Option Mo := bmv (f_X1_open N n (sg (sg (sg σ 43 4 p0) 43 5 (p1 - 2)) 43 6 (p1 - 1)) p0 (σ 13 6)) (fun r1 σ2 n4 => some (0, σ2))
set_option maxHeartbeats 4000000 in
set_option maxRecDepth 100000 in
theorem c_X10_begin {l : Launch} {g : GG} {q : Nat} (N n : Nat) {σ : Sg} {p0 : Int32} {p1 : Int32} {r : Int32} {σ' : Sg} {n' d : Nat} (hm : f_X10_begin N n σ p0 p1 = some (r, σ', n', d)) : CTm l yX10_begin cX10_begin 3 none 3 105 g q n [.ref (ga g 43), .int p0, .int p1] σ σ' n' d := by
  refine e_m (r := r) (by decide) (Nat.le_of_ble_eq_true rfl) ?_
  intro p e s m args below meth c A Q ls hC hl hI
  obtain ⟨hX, hK, hN, hZ, hA, hR⟩ := id hC
  have hx : p.tables.exec = Jvm.exec := hX.1
  have hb : c.code = cX10_begin := hX.2.1
  have hml : c.maxLocals = 3 := hX.2.2.1
  have hown : s.vm.findClass RX10 = some m.cls := hX.2.2.2.1
  have ht : ∀ w ∈ BIG, w.before args s = true := hX.2.2.2.2
  have hl : lv_has ls 3 [(0, .ref (ga g 43)), (1, .int p0), (2, .int p1)] := hl
  unfold f_X10_begin at hm
  refine lv_aload_n hx hb dX10_begin_0 rfl (lv_at hl 0 rfl) ?_
  refine lv_iload_n hx hb dX10_begin_1 rfl (lv_at hl 1 rfl) ?_
  refine pf_43_4 hx hb ht hK hI mw_533 (fun _ h9 => h9) hown dX10_begin_2 (fun H locs hI => ?_)
  refine lv_aload_n hx hb dX10_begin_5 rfl (lv_at hl 0 rfl) ?_
  refine lv_iload_n hx hb dX10_begin_6 rfl (lv_at hl 2 rfl) ?_
  refine lv_iconst (v := 2) hx hb dX10_begin_7 (by decide) ?_
  refine lv_isub hx hb dX10_begin_8 ?_
  refine pf_43_5 hx hb ht hK hI mw_534 (fun _ h9 => h9) hown dX10_begin_9 (fun H locs hI => ?_)
  refine lv_aload_n hx hb dX10_begin_12 rfl (lv_at hl 0 rfl) ?_
  refine lv_iload_n hx hb dX10_begin_13 rfl (lv_at hl 2 rfl) ?_
  refine lv_iconst (v := 1) hx hb dX10_begin_14 (by decide) ?_
  refine lv_isub hx hb dX10_begin_15 ?_
  refine pf_43_6 hx hb ht hK hI mw_535 (fun _ h9 => h9) hown dX10_begin_16 (fun H locs hI => ?_)
  refine lv_aload_n hx hb dX10_begin_19 rfl (lv_at hl 0 rfl) ?_
  refine gf_43_2 hx hb ht hK hI mw_480 (fun _ h9 => h9) hown dX10_begin_20 ?_
  refine lv_iload_n hx hb dX10_begin_23 rfl (lv_at hl 1 rfl) ?_
  refine lv_aload_n hx hb dX10_begin_24 rfl (lv_at hl 0 rfl) ?_
  refine gf_43_0 hx hb ht hK hI mw_478 (fun _ h9 => h9) hown dX10_begin_25 ?_
  refine gf_13_6 hx hb ht hK hI (v := σ 13 6) rfl mw_536 (fun _ h9 => h9) hown dX10_begin_28 ?_
  obtain ⟨r1, σ2, h3, hm⟩ := bmv_some hm
  refine k_m hI hA (va_runV (As := [.int p0, .int (σ 13 6)]) (rest := []) hX (c_X1_open N n h3 _) (cwV 2 ht (in_V mw_537 mw_538 mw_539 mw_95 mw_89) rfl rfl rfl pd_X1_open ⟨Nat.le_of_ble_eq_true rfl, Nat.le_of_ble_eq_true rfl⟩) ⟨q_blind, va_recv hK hI.1 (ci := 1) (q0 := 39) rfl rfl, q_to hI hK hN hZ hA⟩ rfl rfl hl.1 rfl (lv_room (Nat.le_of_ble_eq_true rfl)) dX10_begin_31 ⟨Nat.le_of_eq (Nat.zero_add _), Nat.le_of_eq (Nat.zero_add _)⟩) (fun q5 H locs hI => ?_)
  refine W.widen (k := d) (n := d) (Nat.le_of_eq (Nat.zero_add _)) (Nat.le_of_eq (Nat.zero_add _)) ?_
  exact hR _ _ _ _ _ _ hm hI dX10_begin_34

def f_X9_turnFunc (N n : Nat) (σ : Sg) (p0 : Int32) : Option Mo := bd (f_X5_build N n σ p0) (fun r1 σ2 => bd (f_X5_forward N n σ2 ) (fun r4 σ5 => bd (f_X9_leaveOut N n σ5 ) (fun r7 σ8 => gb p0 12 (bd (f_X2_give N n (sg σ8 12 (ix p0) (σ8 13 6)) p0 ((σ8 11 7) - 2)) (fun r11 σ12 => bmv (f_X10_begin N n σ12 p0 (σ12 11 7)) (fun r14 σ15 n17 => gb 0 300 (bd (f_X10_writeEntry N n17 σ15 (σ15 30 (ix 0))) (fun r20 σ21 => bd (f_X10_writePlaces N n17 σ21 ) (fun r23 σ24 => some (0, σ24))))))))))
set_option maxHeartbeats 4000000 in
set_option maxRecDepth 100000 in
theorem c_X9_turnFunc {l : Launch} {g : GG} {q : Nat} (N n : Nat) {σ : Sg} {p0 : Int32} {r : Int32} {σ' : Sg} {n' d : Nat} (hm : f_X9_turnFunc N n σ p0 = some (r, σ', n', d)) : CTm l yX9_turnFunc cX9_turnFunc 2 none 5 127 g q n [.ref (ga g 11), .int p0] σ σ' n' d := by
  refine e_m (r := r) (by decide) (Nat.le_of_ble_eq_true rfl) ?_
  intro p e s m args below meth c A Q ls hC hl hI
  obtain ⟨hX, hK, hN, hZ, hA, hR⟩ := id hC
  have hx : p.tables.exec = Jvm.exec := hX.1
  have hb : c.code = cX9_turnFunc := hX.2.1
  have hml : c.maxLocals = 2 := hX.2.2.1
  have hown : s.vm.findClass RX9 = some m.cls := hX.2.2.2.1
  have ht : ∀ w ∈ BIG, w.before args s = true := hX.2.2.2.2
  have hl : lv_has ls 2 [(0, .ref (ga g 11)), (1, .int p0)] := hl
  unfold f_X9_turnFunc at hm
  refine lv_aload_n hx hb dX9_turnFunc_0 rfl (lv_at hl 0 rfl) ?_
  refine gf_11_1 hx hb ht hK hI mw_491 (fun _ h9 => h9) hown dX9_turnFunc_1 ?_
  refine lv_aload_n hx hb dX9_turnFunc_4 rfl (lv_at hl 0 rfl) ?_
  refine gf_11_0 hx hb ht hK hI mw_502 (fun _ h9 => h9) hown dX9_turnFunc_5 ?_
  refine lv_iload_n hx hb dX9_turnFunc_8 rfl (lv_at hl 1 rfl) ?_
  obtain ⟨r1, σ2, h3, hm⟩ := bd_some hm
  refine k_v hI hA (va_runV (As := [.ref (ga g 1), .int p0]) (rest := []) hX (c_X5_build N n h3 _) (cwV 2 ht (in_V mw_614 mw_615 mw_616 mw_138 mw_424) rfl rfl rfl pd_X5_build ⟨Nat.le_of_ble_eq_true rfl, Nat.le_of_ble_eq_true rfl⟩) ⟨q_blind, va_recv hK hI.1 (ci := 4) (q0 := 13) rfl rfl, q_to hI hK hN hZ hA⟩ rfl rfl hl.1 rfl (lv_room (Nat.le_of_ble_eq_true rfl)) dX9_turnFunc_9 ⟨Nat.zero_le _, Nat.zero_le _⟩) (fun H locs hI => ?_)
  refine lv_aload_n hx hb dX9_turnFunc_12 rfl (lv_at hl 0 rfl) ?_
  refine gf_11_1 hx hb ht hK hI mw_491 (fun _ h9 => h9) hown dX9_turnFunc_13 ?_
  obtain ⟨r4, σ5, h6, hm⟩ := bd_some hm
  refine k_v hI hA (va_runV (As := []) (rest := []) hX (c_X5_forward N n h6 _) (cwV 0 ht (in_V mw_617 mw_618 mw_619 mw_138 mw_439) rfl rfl rfl pd_X5_forward ⟨Nat.le_of_ble_eq_true rfl, Nat.le_of_ble_eq_true rfl⟩) ⟨q_blind, va_recv hK hI.1 (ci := 4) (q0 := 13) rfl rfl, q_to hI hK hN hZ hA⟩ rfl rfl hl.1 rfl (lv_room (Nat.le_of_ble_eq_true rfl)) dX9_turnFunc_16 ⟨Nat.zero_le _, Nat.zero_le _⟩) (fun H locs hI => ?_)
  refine lv_aload_n hx hb dX9_turnFunc_19 rfl (lv_at hl 0 rfl) ?_
  obtain ⟨r7, σ8, h9, hm⟩ := bd_some hm
  refine k_v hI hA (va_runV (As := []) (rest := []) hX (c_X9_leaveOut N n h9 _) (cwV 0 ht (in_V mw_620 mw_621 mw_622 mw_623 mw_532) rfl rfl rfl pd_X9_leaveOut ⟨Nat.le_of_ble_eq_true rfl, Nat.le_of_ble_eq_true rfl⟩) ⟨q_blind, va_recv hK hI.1 (ci := 8) (q0 := 11) rfl rfl, q_to hI hK hN hZ hA⟩ rfl rfl hl.1 rfl (lv_room (Nat.le_of_ble_eq_true rfl)) dX9_turnFunc_20 ⟨Nat.zero_le _, Nat.zero_le _⟩) (fun H locs hI => ?_)
  refine lv_aload_n hx hb dX9_turnFunc_23 rfl (lv_at hl 0 rfl) ?_
  refine gf_11_6 hx hb ht hK hI mw_501 (fun _ h9 => h9) hown dX9_turnFunc_24 ?_
  refine lv_iload_n hx hb dX9_turnFunc_27 rfl (lv_at hl 1 rfl) ?_
  refine lv_aload_n hx hb dX9_turnFunc_28 rfl (lv_at hl 0 rfl) ?_
  refine gf_11_1 hx hb ht hK hI mw_491 (fun _ h9 => h9) hown dX9_turnFunc_29 ?_
  refine gf_13_6 hx hb ht hK hI (v := σ8 13 6) rfl mw_525 (fun _ h9 => h9) hown dX9_turnFunc_32 ?_
  obtain ⟨g10, hm⟩ := gb_some hm
  refine sv_12 hx hb hK hI g10 dX9_turnFunc_35 (fun H locs hI => ?_)
  refine lv_aload_n hx hb dX9_turnFunc_36 rfl (lv_at hl 0 rfl) ?_
  refine gf_11_3 hx hb ht hK hI mw_497 (fun _ h9 => h9) hown dX9_turnFunc_37 ?_
  refine lv_iload_n hx hb dX9_turnFunc_40 rfl (lv_at hl 1 rfl) ?_
  refine lv_aload_n hx hb dX9_turnFunc_41 rfl (lv_at hl 0 rfl) ?_
  refine gf_11_1 hx hb ht hK hI mw_491 (fun _ h9 => h9) hown dX9_turnFunc_42 ?_
  refine lv_aload_n hx hb dX9_turnFunc_45 rfl (lv_at hl 0 rfl) ?_
  refine gf_11_2 hx hb ht hK hI mw_494 (fun _ h9 => h9) hown dX9_turnFunc_46 ?_
  refine lv_aload_n hx hb dX9_turnFunc_49 rfl (lv_at hl 0 rfl) ?_
  refine gf_11_7 hx hb ht hK hI (v := σ8 11 7) rfl mw_523 (fun _ h9 => h9) hown dX9_turnFunc_50 ?_
  refine lv_iconst (v := 2) hx hb dX9_turnFunc_53 (by decide) ?_
  refine lv_isub hx hb dX9_turnFunc_54 ?_
  obtain ⟨r11, σ12, h13, hm⟩ := bd_some hm
  refine k_v hI hA (va_runV (As := [.int p0, .ref (ga g 13), .ref (ga g 29), .int ((σ8 11 7) - 2)]) (rest := []) hX (c_X2_give N n h13 _) (cwV 4 ht (in_V mw_624 mw_625 mw_626 mw_146 mw_165) rfl rfl rfl pd_X2_give ⟨Nat.le_of_ble_eq_true rfl, Nat.le_of_ble_eq_true rfl⟩) ⟨q_blind, va_recv hK hI.1 (ci := 2) (q0 := 32) rfl rfl, q_to hI hK hN hZ hA⟩ rfl rfl hl.1 rfl (lv_room (Nat.le_of_ble_eq_true rfl)) dX9_turnFunc_55 ⟨Nat.zero_le _, Nat.zero_le _⟩) (fun H locs hI => ?_)
  refine lv_aload_n hx hb dX9_turnFunc_58 rfl (lv_at hl 0 rfl) ?_
  refine gf_11_5 hx hb ht hK hI mw_506 (fun _ h9 => h9) hown dX9_turnFunc_59 ?_
  refine lv_iload_n hx hb dX9_turnFunc_62 rfl (lv_at hl 1 rfl) ?_
  refine lv_aload_n hx hb dX9_turnFunc_63 rfl (lv_at hl 0 rfl) ?_
  refine gf_11_7 hx hb ht hK hI (v := σ12 11 7) rfl mw_523 (fun _ h9 => h9) hown dX9_turnFunc_64 ?_
  obtain ⟨r14, σ15, h16, hm⟩ := bmv_some hm
  refine k_m hI hA (va_runV (As := [.int p0, .int (σ12 11 7)]) (rest := []) hX (c_X10_begin N n h16 _) (cwV 2 ht (in_V mw_627 mw_628 mw_629 mw_505 mw_540) rfl rfl rfl pd_X10_begin ⟨Nat.le_of_ble_eq_true rfl, Nat.le_of_ble_eq_true rfl⟩) ⟨q_blind, va_recv hK hI.1 (ci := 9) (q0 := 43) rfl rfl, q_to hI hK hN hZ hA⟩ rfl rfl hl.1 rfl (lv_room (Nat.le_of_ble_eq_true rfl)) dX9_turnFunc_67 ⟨Nat.le_of_eq (Nat.zero_add _), Nat.le_of_eq (Nat.zero_add _)⟩) (fun q18 H locs hI => ?_)
  refine W.widen (k := d) (n := d) (Nat.le_of_eq (Nat.zero_add _)) (Nat.le_of_eq (Nat.zero_add _)) ?_
  refine lv_aload_n hx hb dX9_turnFunc_70 rfl (lv_at hl 0 rfl) ?_
  refine gf_11_5 hx hb ht hK hI mw_506 (fun _ h9 => h9) hown dX9_turnFunc_71 ?_
  refine lv_aload_n hx hb dX9_turnFunc_74 rfl (lv_at hl 0 rfl) ?_
  refine gf_11_0 hx hb ht hK hI mw_502 (fun _ h9 => h9) hown dX9_turnFunc_75 ?_
  refine lv_aload_n hx hb dX9_turnFunc_78 rfl (lv_at hl 0 rfl) ?_
  refine gf_11_2 hx hb ht hK hI mw_494 (fun _ h9 => h9) hown dX9_turnFunc_79 ?_
  refine gf_29_0 hx hb ht hK hI mw_613 (fun _ h9 => h9) hown dX9_turnFunc_82 ?_
  refine lv_iconst (v := 0) hx hb dX9_turnFunc_85 (by decide) ?_
  obtain ⟨g19, hm⟩ := gb_some hm
  refine ld_30 hx hb hK hI g19 (v := σ15 30 (ix 0)) rfl dX9_turnFunc_86 ?_
  obtain ⟨r20, σ21, h22, hm⟩ := bd_some hm
  refine k_v hI hA (va_runV (As := [.ref (ga g 1), .int (σ15 30 (ix 0))]) (rest := []) hX (c_X10_writeEntry N _ h22 _) (cwV 2 ht (in_V mw_630 mw_631 mw_632 mw_505 mw_558) rfl rfl rfl pd_X10_writeEntry ⟨Nat.le_of_ble_eq_true rfl, Nat.le_of_ble_eq_true rfl⟩) ⟨q_blind, va_recv hK hI.1 (ci := 9) (q0 := 43) rfl rfl, q_to hI hK hN hZ hA⟩ rfl rfl hl.1 rfl (lv_room (Nat.le_of_ble_eq_true rfl)) dX9_turnFunc_87 ⟨Nat.le_refl _, Nat.le_refl _⟩) (fun H locs hI => ?_)
  refine lv_aload_n hx hb dX9_turnFunc_90 rfl (lv_at hl 0 rfl) ?_
  refine gf_11_5 hx hb ht hK hI mw_506 (fun _ h9 => h9) hown dX9_turnFunc_91 ?_
  obtain ⟨r23, σ24, h25, hm⟩ := bd_some hm
  refine k_v hI hA (va_runV (As := []) (rest := []) hX (c_X10_writePlaces N _ h25 _) (cwV 0 ht (in_V mw_633 mw_634 mw_635 mw_505 mw_612) rfl rfl rfl pd_X10_writePlaces ⟨Nat.le_of_ble_eq_true rfl, Nat.le_of_ble_eq_true rfl⟩) ⟨q_blind, va_recv hK hI.1 (ci := 9) (q0 := 43) rfl rfl, q_to hI hK hN hZ hA⟩ rfl rfl hl.1 rfl (lv_room (Nat.le_of_ble_eq_true rfl)) dX9_turnFunc_94 ⟨Nat.le_refl _, Nat.le_refl _⟩) (fun H locs hI => ?_)
  exact hR _ _ _ _ _ _ hm hI dX9_turnFunc_97
