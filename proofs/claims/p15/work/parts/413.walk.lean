def f_X12_size (N n : Nat) (σ : Sg) (p0 : Int32) : Option (Int32 × Sg) := bd (f_X12_isFunc N n (sg σ 59 0 0) p0) (fun r1 σ2 => if r1 = 0 then (some ((-1), σ2)) else (gb p0 12 (some (σ2 86 (ix p0), σ2))))
set_option maxHeartbeats 4000000 in
set_option maxRecDepth 100000 in
theorem c_X12_size {l : Launch} {g : GG} {q : Nat} (N n : Nat) {σ : Sg} {p0 : Int32} {r : Int32} {σ' : Sg} (hm : f_X12_size N n σ p0 = some (r, σ')) : CTi l yX12_size cX12_size 2 (some .int) 1 21 g q n [.ref (ga g 59), .int p0] σ r σ' := by
  refine e_i (r := r) (by decide) (Nat.le_of_ble_eq_true rfl) ?_
  intro p e s m args below meth c A Q ls hC hl hI
  obtain ⟨hX, hK, hN, hZ, hA, hR⟩ := id hC
  have hx : p.tables.exec = Jvm.exec := hX.1
  have hb : c.code = cX12_size := hX.2.1
  have hml : c.maxLocals = 2 := hX.2.2.1
  have hown : s.vm.findClass RX12 = some m.cls := hX.2.2.2.1
  have ht : ∀ w ∈ BIG, w.before args s = true := hX.2.2.2.2
  have hl : lv_has ls 2 [(0, .ref (ga g 59)), (1, .int p0)] := hl
  unfold f_X12_size at hm
  refine lv_aload_n hx hb dX12_size_0 rfl (lv_at hl 0 rfl) ?_
  refine lv_iconst (v := 0) hx hb dX12_size_1 (by decide) ?_
  refine pf_59_0 hx hb ht hK hI mw_851 (fun _ h9 => h9) hown dX12_size_2 (fun H locs hI => ?_)
  refine lv_aload_n hx hb dX12_size_5 rfl (lv_at hl 0 rfl) ?_
  refine lv_iload_n hx hb dX12_size_6 rfl (lv_at hl 1 rfl) ?_
  obtain ⟨r1, σ2, h3, hm⟩ := bd_some hm
  refine k_i hI hA (va_runV (As := [.int p0]) (rest := []) hX (c_X12_isFunc N n h3 _) (cwV 1 ht (in_V mw_1079 mw_1080 mw_1081 mw_861 mw_1077) rfl rfl rfl pd_X12_isFunc ⟨Nat.le_of_ble_eq_true rfl, Nat.le_of_ble_eq_true rfl⟩) ⟨q_blind, va_recv hK hI.1 (ci := 11) (q0 := 59) rfl rfl, q_to hI hK hN hZ hA⟩ rfl rfl hl.1 rfl (lv_room (Nat.le_of_ble_eq_true rfl)) dX12_size_7 (by decide)) (fun H locs hI => ?_)
  refine lv_if_eq (tgt := 22) hx hb dX12_size_10 (by decide) (fun c4 => ?_) (fun c4 => ?_)
  · have hm := (if_pos c4).symm.trans hm
    refine lv_iconst (v := (-1)) hx hb dX12_size_22 (by decide) ?_
    exact hR _ _ _ _ _ _ hm hI dX12_size_23
  · have hm := (if_neg c4).symm.trans hm
    refine lv_aload_n hx hb dX12_size_13 rfl (lv_at hl 0 rfl) ?_
    refine gf_59_33 hx hb ht hK hI mw_781 (fun _ h9 => h9) hown dX12_size_14 ?_
    refine lv_iload_n hx hb dX12_size_17 rfl (lv_at hl 1 rfl) ?_
    obtain ⟨g5, hm⟩ := gb_some hm
    refine ld_86 hx hb hK hI g5 (v := σ2 86 (ix p0)) rfl dX12_size_18 ?_
    refine lv_goto (tgt := 23) hx hb dX12_size_19 (by decide) ?_
    exact hR _ _ _ _ _ _ hm hI dX12_size_23
def f_X12_slots (N n : Nat) (σ : Sg) (p0 : Int32) : Option (Int32 × Sg) := bd (f_X12_isFunc N n (sg σ 59 0 0) p0) (fun r1 σ2 => if r1 = 0 then (some ((-1), σ2)) else (gb p0 12 (some (σ2 81 (ix p0), σ2))))
set_option maxHeartbeats 4000000 in
set_option maxRecDepth 100000 in
theorem c_X12_slots {l : Launch} {g : GG} {q : Nat} (N n : Nat) {σ : Sg} {p0 : Int32} {r : Int32} {σ' : Sg} (hm : f_X12_slots N n σ p0 = some (r, σ')) : CTi l yX12_slots cX12_slots 2 (some .int) 1 21 g q n [.ref (ga g 59), .int p0] σ r σ' := by
  refine e_i (r := r) (by decide) (Nat.le_of_ble_eq_true rfl) ?_
  intro p e s m args below meth c A Q ls hC hl hI
  obtain ⟨hX, hK, hN, hZ, hA, hR⟩ := id hC
  have hx : p.tables.exec = Jvm.exec := hX.1
  have hb : c.code = cX12_slots := hX.2.1
  have hml : c.maxLocals = 2 := hX.2.2.1
  have hown : s.vm.findClass RX12 = some m.cls := hX.2.2.2.1
  have ht : ∀ w ∈ BIG, w.before args s = true := hX.2.2.2.2
  have hl : lv_has ls 2 [(0, .ref (ga g 59)), (1, .int p0)] := hl
  unfold f_X12_slots at hm
  refine lv_aload_n hx hb dX12_slots_0 rfl (lv_at hl 0 rfl) ?_
  refine lv_iconst (v := 0) hx hb dX12_slots_1 (by decide) ?_
  refine pf_59_0 hx hb ht hK hI mw_851 (fun _ h9 => h9) hown dX12_slots_2 (fun H locs hI => ?_)
  refine lv_aload_n hx hb dX12_slots_5 rfl (lv_at hl 0 rfl) ?_
  refine lv_iload_n hx hb dX12_slots_6 rfl (lv_at hl 1 rfl) ?_
  obtain ⟨r1, σ2, h3, hm⟩ := bd_some hm
  refine k_i hI hA (va_runV (As := [.int p0]) (rest := []) hX (c_X12_isFunc N n h3 _) (cwV 1 ht (in_V mw_1079 mw_1080 mw_1081 mw_861 mw_1077) rfl rfl rfl pd_X12_isFunc ⟨Nat.le_of_ble_eq_true rfl, Nat.le_of_ble_eq_true rfl⟩) ⟨q_blind, va_recv hK hI.1 (ci := 11) (q0 := 59) rfl rfl, q_to hI hK hN hZ hA⟩ rfl rfl hl.1 rfl (lv_room (Nat.le_of_ble_eq_true rfl)) dX12_slots_7 (by decide)) (fun H locs hI => ?_)
  refine lv_if_eq (tgt := 22) hx hb dX12_slots_10 (by decide) (fun c4 => ?_) (fun c4 => ?_)
  · have hm := (if_pos c4).symm.trans hm
    refine lv_iconst (v := (-1)) hx hb dX12_slots_22 (by decide) ?_
    exact hR _ _ _ _ _ _ hm hI dX12_slots_23
  · have hm := (if_neg c4).symm.trans hm
    refine lv_aload_n hx hb dX12_slots_13 rfl (lv_at hl 0 rfl) ?_
    refine gf_59_27 hx hb ht hK hI mw_776 (fun _ h9 => h9) hown dX12_slots_14 ?_
    refine lv_iload_n hx hb dX12_slots_17 rfl (lv_at hl 1 rfl) ?_
    obtain ⟨g5, hm⟩ := gb_some hm
    refine ld_81 hx hb hK hI g5 (v := σ2 81 (ix p0)) rfl dX12_slots_18 ?_
    refine lv_goto (tgt := 23) hx hb dX12_slots_19 (by decide) ?_
    exact hR _ _ _ _ _ _ hm hI dX12_slots_23
def lb_X12_spans_2 (N n : Nat) (u1 : Int32) (K69 : (Sg → Int32 → Option (Int32 × Sg))) (rec : (Sg → Int32 → Option (Int32 × Sg))) (σ : Sg) (v2 : Int32) : Option (Int32 × Sg) := if 24 ≤ v2 then (K69 σ v2) else (gb ((24 * u1) + v2) 288 (gb ((24 * u1) + v2) 288 (gb ((24 * u1) + v2) 288 (gb ((24 * u1) + v2) 288 (gb v2 24 (rec (sg (sg (sg (sg (sg σ 77 (ix ((24 * u1) + v2)) (-1)) 78 (ix ((24 * u1) + v2)) (-1)) 79 (ix ((24 * u1) + v2)) (-1)) 80 (ix ((24 * u1) + v2)) (-1)) 83 (ix v2) 0) (v2 + 1)))))))
def lf_X12_spans_2 (N n : Nat) (u1 : Int32) (K69 : (Sg → Int32 → Option (Int32 × Sg))) : Nat → (Sg → Int32 → Option (Int32 × Sg))
  | 0 => fun _ _ => none
  | k + 1 => lb_X12_spans_2 N n u1 K69 (lf_X12_spans_2 N n u1 K69 k)
def lb_X12_spans_89 (N n : Nat) (u1 : Int32) (u2 : Int32) (K123 : (Sg → Int32 → Int32 → Option (Int32 × Sg))) (rec : (Sg → Int32 → Int32 → Option (Int32 × Sg))) (σ : Sg) (v3 : Int32) (v4 : Int32) : Option (Int32 × Sg) := gb u2 300 (if (σ 71 (ix u2)) ≤ v4 then (K123 σ v3 v4) else (gb ((8 * u2) + v4) 2400 (rec σ (v3 ||| (1 <<< ((σ 70 (ix ((8 * u2) + v4))) &&& 31))) (v4 + 1))))
def lf_X12_spans_89 (N n : Nat) (u1 : Int32) (u2 : Int32) (K123 : (Sg → Int32 → Int32 → Option (Int32 × Sg))) : Nat → (Sg → Int32 → Int32 → Option (Int32 × Sg))
  | 0 => fun _ _ _ => none
  | k + 1 => lb_X12_spans_89 N n u1 u2 K123 (lf_X12_spans_89 N n u1 u2 K123 k)
def lb_X12_spans_126 (N n : Nat) (u1 : Int32) (u2 : Int32) (u3 : Int32) (K205 : (Sg → Int32 → Option (Int32 × Sg))) (rec : (Sg → Int32 → Option (Int32 × Sg))) (σ : Sg) (v4 : Int32) : Option (Int32 × Sg) := if 24 ≤ v4 then (K205 σ v4) else (if ((u3 >>> (v4 &&& 31)) &&& 1) = 1 then (gb ((24 * u1) + v4) 288 (if 0 ≤ (σ 77 (ix ((24 * u1) + v4))) then (gb ((24 * u1) + v4) 288 (gb ((24 * u1) + v4) 288 (gb ((24 * u1) + v4) 288 (rec (sg (sg σ 77 (ix ((24 * u1) + v4)) (σ 77 (ix ((24 * u1) + v4)))) 78 (ix ((24 * u1) + v4)) u2) (v4 + 1))))) else (gb ((24 * u1) + v4) 288 (gb ((24 * u1) + v4) 288 (rec (sg (sg σ 77 (ix ((24 * u1) + v4)) u2) 78 (ix ((24 * u1) + v4)) u2) (v4 + 1)))))) else (rec σ (v4 + 1)))
def lf_X12_spans_126 (N n : Nat) (u1 : Int32) (u2 : Int32) (u3 : Int32) (K205 : (Sg → Int32 → Option (Int32 × Sg))) : Nat → (Sg → Int32 → Option (Int32 × Sg))
  | 0 => fun _ _ => none
  | k + 1 => lb_X12_spans_126 N n u1 u2 u3 K205 (lf_X12_spans_126 N n u1 u2 u3 K205 k)
def lb_X12_spans_71 (N n : Nat) (u1 : Int32) (K211 : (Sg → Int32 → Option (Int32 × Sg))) (rec : (Sg → Int32 → Option (Int32 × Sg))) (σ : Sg) (v2 : Int32) : Option (Int32 × Sg) := if (σ 59 12) ≤ v2 then (K211 σ v2) else (gb v2 301 (lf_X12_spans_89 N n u1 v2 (fun σ14 w15 w16 => lf_X12_spans_126 N n u1 v2 w15 (fun σ26 w27 => rec σ26 (v2 + 1)) N σ14 0) N σ (σ 76 (ix v2)) 0))
def lf_X12_spans_71 (N n : Nat) (u1 : Int32) (K211 : (Sg → Int32 → Option (Int32 × Sg))) : Nat → (Sg → Int32 → Option (Int32 × Sg))
  | 0 => fun _ _ => none
  | k + 1 => lb_X12_spans_71 N n u1 K211 (lf_X12_spans_71 N n u1 K211 k)
def lb_X12_spans_230 (N n : Nat) (u1 : Int32) (u2 : Int32) (K263 : (Sg → Int32 → Option (Int32 × Sg))) (rec : (Sg → Int32 → Option (Int32 × Sg))) (σ : Sg) (v3 : Int32) : Option (Int32 × Sg) := if 24 ≤ v3 then (K263 σ v3) else (gb ((24 * u1) + v3) 288 (if (σ 77 (ix ((24 * u1) + v3))) = u2 then (bd (f_X12_scans N n σ u1 v3) (fun r35 σ36 => rec σ36 (v3 + 1))) else (rec σ (v3 + 1))))
def lf_X12_spans_230 (N n : Nat) (u1 : Int32) (u2 : Int32) (K263 : (Sg → Int32 → Option (Int32 × Sg))) : Nat → (Sg → Int32 → Option (Int32 × Sg))
  | 0 => fun _ _ => none
  | k + 1 => lb_X12_spans_230 N n u1 u2 K263 (lf_X12_spans_230 N n u1 u2 K263 k)
def lb_X12_spans_220 (N n : Nat) (u1 : Int32) (K269 : (Sg → Int32 → Option (Int32 × Sg))) (rec : (Sg → Int32 → Option (Int32 × Sg))) (σ : Sg) (v2 : Int32) : Option (Int32 × Sg) := if (σ 59 12) ≤ v2 then (K269 σ v2) else (lf_X12_spans_230 N n u1 v2 (fun σ38 w39 => rec σ38 (v2 + 1)) N σ 0)
def lf_X12_spans_220 (N n : Nat) (u1 : Int32) (K269 : (Sg → Int32 → Option (Int32 × Sg))) : Nat → (Sg → Int32 → Option (Int32 × Sg))
  | 0 => fun _ _ => none
  | k + 1 => lb_X12_spans_220 N n u1 K269 (lf_X12_spans_220 N n u1 K269 k)
def f_X12_spans (N n : Nat) (σ : Sg) (p0 : Int32) : Option (Int32 × Sg) := lf_X12_spans_2 N n p0 (fun σ7 w8 => lf_X12_spans_71 N n p0 (fun σ28 w29 => gb p0 12 (lf_X12_spans_220 N n p0 (fun σ40 w41 => some (0, σ40)) N (sg σ28 81 (ix p0) 0) 0)) N σ7 0) N σ 0
set_option maxHeartbeats 4000000 in
set_option maxRecDepth 100000 in
theorem lp_X12_spans_2 {p : Program} {l : Launch} {e : Env} {s : State} {m : MethodId} {args : Array Value} {below : List Frame} {meth : Method} {c : Code} {Q : State → Prop} {A : Nat → Prop} {g : GG} {q N n : Nat} {out : Int32 × Sg} {u1 : Int32} {K69 : (Sg → Int32 → Option (Int32 × Sg))}
    (hC : CXv p l e (qR 1 28) s m args below meth c cX12_spans 5 RX12 g q n A Q (some out)) :
    ∀ (k : Nat) (σ : Sg) (v2 : Int32) (H : Heap) (locs : List Loc) (ls : Array Slot), lf_X12_spans_2 N n u1 K69 k σ v2 = some out → wI g q n σ A s.heap H locs → lv_has ls 5 [(0, .ref (ga g 59)), (1, .int u1), (2, .int v2)] → (∀ (σ : Sg) (v2 : Int32) (H : Heap) (locs : List Loc) (ls : Array Slot), K69 σ v2 = some out → wI g q n σ A s.heap H locs → lv_has ls 5 [(0, .ref (ga g 59)), (1, .int u1)] → W p l e (qR 1 28) s m args below meth c H locs 0 0 Q (F0 m 69 ls [])) → W p l e (qR 1 28) s m args below meth c H locs 0 0 Q (F0 m 2 ls []) := by
  obtain ⟨hX, hK, hN, hZ, hA, hR⟩ := id hC
  have hx : p.tables.exec = Jvm.exec := hX.1
  have hb : c.code = cX12_spans := hX.2.1
  have hml : c.maxLocals = 5 := hX.2.2.1
  have hown : s.vm.findClass RX12 = some m.cls := hX.2.2.2.1
  have ht : ∀ w ∈ BIG, w.before args s = true := hX.2.2.2.2
  intro k
  induction k with
  | zero =>
    intro σ v2 H locs ls hm
    have hm : none = some out := hm
    exact nomatch hm
  | succ k ih =>
    intro σ v2 H locs ls hm hI hl hx69
    have hm : lb_X12_spans_2 N n u1 K69 (lf_X12_spans_2 N n u1 K69 k) σ v2 = some out := hm
    unfold lb_X12_spans_2 at hm
    refine lv_iload_n hx hb dX12_spans_2 rfl (lv_at hl 2 rfl) ?_
    refine lv_bipush (v := 24) hx hb dX12_spans_3 (by decide) ?_
    refine lv_icmp_ge (tgt := 69) hx hb dX12_spans_5 (by decide) (fun c1 => ?_) (fun c1 => ?_)
    · have hm := (if_pos c1).symm.trans hm
      exact hx69 σ v2 _ _ _ hm hI (lv_sub hl [0, 1] rfl)
    · have hm := (if_neg c1).symm.trans hm
      refine lv_aload_n hx hb dX12_spans_8 rfl (lv_at hl 0 rfl) ?_
      refine gf_59_23 hx hb ht hK hI mw_772 (fun _ h9 => h9) hown dX12_spans_9 ?_
      refine lv_bipush (v := 24) hx hb dX12_spans_12 (by decide) ?_
      refine lv_iload_n hx hb dX12_spans_14 rfl (lv_at hl 1 rfl) ?_
      refine lv_imul hx hb dX12_spans_15 ?_
      refine lv_iload_n hx hb dX12_spans_16 rfl (lv_at hl 2 rfl) ?_
      refine lv_iadd hx hb dX12_spans_17 ?_
      refine lv_iconst (v := (-1)) hx hb dX12_spans_18 (by decide) ?_
      obtain ⟨g2, hm⟩ := gb_some hm
      refine sv_77 hx hb hK hI g2 dX12_spans_19 (fun H locs hI => ?_)
      refine lv_aload_n hx hb dX12_spans_20 rfl (lv_at hl 0 rfl) ?_
      refine gf_59_24 hx hb ht hK hI mw_773 (fun _ h9 => h9) hown dX12_spans_21 ?_
      refine lv_bipush (v := 24) hx hb dX12_spans_24 (by decide) ?_
      refine lv_iload_n hx hb dX12_spans_26 rfl (lv_at hl 1 rfl) ?_
      refine lv_imul hx hb dX12_spans_27 ?_
      refine lv_iload_n hx hb dX12_spans_28 rfl (lv_at hl 2 rfl) ?_
      refine lv_iadd hx hb dX12_spans_29 ?_
      refine lv_iconst (v := (-1)) hx hb dX12_spans_30 (by decide) ?_
      obtain ⟨g3, hm⟩ := gb_some hm
      refine sv_78 hx hb hK hI g3 dX12_spans_31 (fun H locs hI => ?_)
      refine lv_aload_n hx hb dX12_spans_32 rfl (lv_at hl 0 rfl) ?_
      refine gf_59_25 hx hb ht hK hI mw_774 (fun _ h9 => h9) hown dX12_spans_33 ?_
      refine lv_bipush (v := 24) hx hb dX12_spans_36 (by decide) ?_
      refine lv_iload_n hx hb dX12_spans_38 rfl (lv_at hl 1 rfl) ?_
      refine lv_imul hx hb dX12_spans_39 ?_
      refine lv_iload_n hx hb dX12_spans_40 rfl (lv_at hl 2 rfl) ?_
      refine lv_iadd hx hb dX12_spans_41 ?_
      refine lv_iconst (v := (-1)) hx hb dX12_spans_42 (by decide) ?_
      obtain ⟨g4, hm⟩ := gb_some hm
      refine sv_79 hx hb hK hI g4 dX12_spans_43 (fun H locs hI => ?_)
      refine lv_aload_n hx hb dX12_spans_44 rfl (lv_at hl 0 rfl) ?_
      refine gf_59_26 hx hb ht hK hI mw_775 (fun _ h9 => h9) hown dX12_spans_45 ?_
      refine lv_bipush (v := 24) hx hb dX12_spans_48 (by decide) ?_
      refine lv_iload_n hx hb dX12_spans_50 rfl (lv_at hl 1 rfl) ?_
      refine lv_imul hx hb dX12_spans_51 ?_
      refine lv_iload_n hx hb dX12_spans_52 rfl (lv_at hl 2 rfl) ?_
      refine lv_iadd hx hb dX12_spans_53 ?_
      refine lv_iconst (v := (-1)) hx hb dX12_spans_54 (by decide) ?_
      obtain ⟨g5, hm⟩ := gb_some hm
      refine sv_80 hx hb hK hI g5 dX12_spans_55 (fun H locs hI => ?_)
      refine lv_aload_n hx hb dX12_spans_56 rfl (lv_at hl 0 rfl) ?_
      refine gf_59_29 hx hb ht hK hI mw_778 (fun _ h9 => h9) hown dX12_spans_57 ?_
      refine lv_iload_n hx hb dX12_spans_60 rfl (lv_at hl 2 rfl) ?_
      refine lv_iconst (v := 0) hx hb dX12_spans_61 (by decide) ?_
      obtain ⟨g6, hm⟩ := gb_some hm
      refine sv_83 hx hb hK hI g6 (by decide) dX12_spans_62 (fun H locs hI => ?_)
      refine lv_iinc (v := v2 + 1) (lv' := [(2, .int (v2 + 1)), (0, .ref (ga g 59)), (1, .int u1)]) hx hb dX12_spans_63 hl (k := 2) rfl (congrArg (fun z => v2 + z) (show Int32.ofInt 1 = 1 by decide)) (by decide) rfl (fun ls hl => ?_)
      refine lv_goto (tgt := 2) hx hb dX12_spans_66 (by decide) ?_
      exact ih (sg (sg (sg (sg (sg σ 77 (ix ((24 * u1) + v2)) (-1)) 78 (ix ((24 * u1) + v2)) (-1)) 79 (ix ((24 * u1) + v2)) (-1)) 80 (ix ((24 * u1) + v2)) (-1)) 83 (ix v2) 0) (v2 + 1) _ _ _ hm hI (lv_sub hl [1, 2, 0] rfl) hx69
set_option maxHeartbeats 4000000 in
set_option maxRecDepth 100000 in
theorem lp_X12_spans_89 {p : Program} {l : Launch} {e : Env} {s : State} {m : MethodId} {args : Array Value} {below : List Frame} {meth : Method} {c : Code} {Q : State → Prop} {A : Nat → Prop} {g : GG} {q N n : Nat} {out : Int32 × Sg} {u1 : Int32} {u2 : Int32} {K123 : (Sg → Int32 → Int32 → Option (Int32 × Sg))}
    (hC : CXv p l e (qR 1 28) s m args below meth c cX12_spans 5 RX12 g q n A Q (some out)) :
    ∀ (k : Nat) (σ : Sg) (v3 : Int32) (v4 : Int32) (H : Heap) (locs : List Loc) (ls : Array Slot), lf_X12_spans_89 N n u1 u2 K123 k σ v3 v4 = some out → wI g q n σ A s.heap H locs → lv_has ls 5 [(0, .ref (ga g 59)), (1, .int u1), (2, .int u2), (3, .int v3), (4, .int v4)] → (∀ (σ : Sg) (v3 : Int32) (v4 : Int32) (H : Heap) (locs : List Loc) (ls : Array Slot), K123 σ v3 v4 = some out → wI g q n σ A s.heap H locs → lv_has ls 5 [(0, .ref (ga g 59)), (1, .int u1), (2, .int u2), (3, .int v3)] → W p l e (qR 1 28) s m args below meth c H locs 0 0 Q (F0 m 123 ls [])) → W p l e (qR 1 28) s m args below meth c H locs 0 0 Q (F0 m 89 ls []) := by
  obtain ⟨hX, hK, hN, hZ, hA, hR⟩ := id hC
  have hx : p.tables.exec = Jvm.exec := hX.1
  have hb : c.code = cX12_spans := hX.2.1
  have hml : c.maxLocals = 5 := hX.2.2.1
  have hown : s.vm.findClass RX12 = some m.cls := hX.2.2.2.1
  have ht : ∀ w ∈ BIG, w.before args s = true := hX.2.2.2.2
  intro k
  induction k with
  | zero =>
    intro σ v3 v4 H locs ls hm
    have hm : none = some out := hm
    exact nomatch hm
  | succ k ih =>
    intro σ v3 v4 H locs ls hm hI hl hx123
    have hm : lb_X12_spans_89 N n u1 u2 K123 (lf_X12_spans_89 N n u1 u2 K123 k) σ v3 v4 = some out := hm
    unfold lb_X12_spans_89 at hm
    refine lv_iload hx hb dX12_spans_89 (lv_at hl 4 rfl) ?_
    refine lv_aload_n hx hb dX12_spans_91 rfl (lv_at hl 0 rfl) ?_
    refine gf_59_16 hx hb ht hK hI mw_766 (fun _ h9 => h9) hown dX12_spans_92 ?_
    refine lv_iload_n hx hb dX12_spans_95 rfl (lv_at hl 2 rfl) ?_
    obtain ⟨g11, hm⟩ := gb_some hm
    refine ld_71 hx hb hK hI g11 (v := σ 71 (ix u2)) rfl dX12_spans_96 ?_
    refine lv_icmp_ge (tgt := 123) hx hb dX12_spans_97 (by decide) (fun c12 => ?_) (fun c12 => ?_)
    · have hm := (if_pos c12).symm.trans hm
      exact hx123 σ v3 v4 _ _ _ hm hI (lv_sub hl [0, 1, 2, 3] rfl)
    · have hm := (if_neg c12).symm.trans hm
      refine lv_iload_n hx hb dX12_spans_100 rfl (lv_at hl 3 rfl) ?_
      refine lv_iconst (v := 1) hx hb dX12_spans_101 (by decide) ?_
      refine lv_aload_n hx hb dX12_spans_102 rfl (lv_at hl 0 rfl) ?_
      refine gf_59_15 hx hb ht hK hI mw_765 (fun _ h9 => h9) hown dX12_spans_103 ?_
      refine lv_bipush (v := 8) hx hb dX12_spans_106 (by decide) ?_
      refine lv_iload_n hx hb dX12_spans_108 rfl (lv_at hl 2 rfl) ?_
      refine lv_imul hx hb dX12_spans_109 ?_
      refine lv_iload hx hb dX12_spans_110 (lv_at hl 4 rfl) ?_
      refine lv_iadd hx hb dX12_spans_112 ?_
      obtain ⟨g13, hm⟩ := gb_some hm
      refine ld_70 hx hb hK hI g13 (v := σ 70 (ix ((8 * u2) + v4))) rfl dX12_spans_113 ?_
      refine lv_ishl hx hb dX12_spans_114 ?_
      refine lv_ior hx hb dX12_spans_115 ?_
      refine lv_istore_n (lv' := [(3, .int (v3 ||| (1 <<< ((σ 70 (ix ((8 * u2) + v4))) &&& 31)))), (0, .ref (ga g 59)), (1, .int u1), (2, .int u2), (4, .int v4)]) hx hb dX12_spans_116 rfl hl (by decide) rfl (fun ls hl => ?_)
      refine lv_iinc (v := v4 + 1) (lv' := [(4, .int (v4 + 1)), (3, .int (v3 ||| (1 <<< ((σ 70 (ix ((8 * u2) + v4))) &&& 31)))), (0, .ref (ga g 59)), (1, .int u1), (2, .int u2)]) hx hb dX12_spans_117 hl (k := 4) rfl (congrArg (fun z => v4 + z) (show Int32.ofInt 1 = 1 by decide)) (by decide) rfl (fun ls hl => ?_)
      refine lv_goto (tgt := 89) hx hb dX12_spans_120 (by decide) ?_
      exact ih σ (v3 ||| (1 <<< ((σ 70 (ix ((8 * u2) + v4))) &&& 31))) (v4 + 1) _ _ _ hm hI (lv_sub hl [2, 3, 4, 1, 0] rfl) hx123
set_option maxHeartbeats 4000000 in
set_option maxRecDepth 100000 in
theorem lp_X12_spans_126 {p : Program} {l : Launch} {e : Env} {s : State} {m : MethodId} {args : Array Value} {below : List Frame} {meth : Method} {c : Code} {Q : State → Prop} {A : Nat → Prop} {g : GG} {q N n : Nat} {out : Int32 × Sg} {u1 : Int32} {u2 : Int32} {u3 : Int32} {K205 : (Sg → Int32 → Option (Int32 × Sg))}
    (hC : CXv p l e (qR 1 28) s m args below meth c cX12_spans 5 RX12 g q n A Q (some out)) :
    ∀ (k : Nat) (σ : Sg) (v4 : Int32) (H : Heap) (locs : List Loc) (ls : Array Slot), lf_X12_spans_126 N n u1 u2 u3 K205 k σ v4 = some out → wI g q n σ A s.heap H locs → lv_has ls 5 [(0, .ref (ga g 59)), (1, .int u1), (2, .int u2), (3, .int u3), (4, .int v4)] → (∀ (σ : Sg) (v4 : Int32) (H : Heap) (locs : List Loc) (ls : Array Slot), K205 σ v4 = some out → wI g q n σ A s.heap H locs → lv_has ls 5 [(0, .ref (ga g 59)), (1, .int u1), (2, .int u2)] → W p l e (qR 1 28) s m args below meth c H locs 0 0 Q (F0 m 205 ls [])) → W p l e (qR 1 28) s m args below meth c H locs 0 0 Q (F0 m 126 ls []) := by
  obtain ⟨hX, hK, hN, hZ, hA, hR⟩ := id hC
  have hx : p.tables.exec = Jvm.exec := hX.1
  have hb : c.code = cX12_spans := hX.2.1
  have hml : c.maxLocals = 5 := hX.2.2.1
  have hown : s.vm.findClass RX12 = some m.cls := hX.2.2.2.1
  have ht : ∀ w ∈ BIG, w.before args s = true := hX.2.2.2.2
  intro k
  induction k with
  | zero =>
    intro σ v4 H locs ls hm
    have hm : none = some out := hm
    exact nomatch hm
  | succ k ih =>
    intro σ v4 H locs ls hm hI hl hx205
    have hm : lb_X12_spans_126 N n u1 u2 u3 K205 (lf_X12_spans_126 N n u1 u2 u3 K205 k) σ v4 = some out := hm
    unfold lb_X12_spans_126 at hm
    refine lv_iload hx hb dX12_spans_126 (lv_at hl 4 rfl) ?_
    refine lv_bipush (v := 24) hx hb dX12_spans_128 (by decide) ?_
    refine lv_icmp_ge (tgt := 205) hx hb dX12_spans_130 (by decide) (fun c17 => ?_) (fun c17 => ?_)
    · have hm := (if_pos c17).symm.trans hm
      exact hx205 σ v4 _ _ _ hm hI (lv_sub hl [0, 1, 2] rfl)
    · have hm := (if_neg c17).symm.trans hm
      refine lv_iload_n hx hb dX12_spans_133 rfl (lv_at hl 3 rfl) ?_
      refine lv_iload hx hb dX12_spans_134 (lv_at hl 4 rfl) ?_
      refine lv_ishr hx hb dX12_spans_136 ?_
      refine lv_iconst (v := 1) hx hb dX12_spans_137 (by decide) ?_
      refine lv_iand hx hb dX12_spans_138 ?_
      refine lv_iconst (v := 1) hx hb dX12_spans_139 (by decide) ?_
      refine lv_icmp_ne (tgt := 199) hx hb dX12_spans_140 (by decide) (fun c18 => ?_) (fun c18 => ?_)
      · have hm := (if_neg c18).symm.trans hm
        refine lv_iinc (v := v4 + 1) (lv' := [(4, .int (v4 + 1)), (0, .ref (ga g 59)), (1, .int u1), (2, .int u2), (3, .int u3)]) hx hb dX12_spans_199 hl (k := 4) rfl (congrArg (fun z => v4 + z) (show Int32.ofInt 1 = 1 by decide)) (by decide) rfl (fun ls hl => ?_)
        refine lv_goto (tgt := 126) hx hb dX12_spans_202 (by decide) ?_
        exact ih σ (v4 + 1) _ _ _ hm hI (lv_sub hl [1, 2, 3, 4, 0] rfl) hx205
      · have hm := (if_pos c18).symm.trans hm
        refine lv_aload_n hx hb dX12_spans_143 rfl (lv_at hl 0 rfl) ?_
        refine gf_59_23 hx hb ht hK hI mw_772 (fun _ h9 => h9) hown dX12_spans_144 ?_
        refine lv_bipush (v := 24) hx hb dX12_spans_147 (by decide) ?_
        refine lv_iload_n hx hb dX12_spans_149 rfl (lv_at hl 1 rfl) ?_
        refine lv_imul hx hb dX12_spans_150 ?_
        refine lv_iload hx hb dX12_spans_151 (lv_at hl 4 rfl) ?_
        refine lv_iadd hx hb dX12_spans_153 ?_
        refine lv_aload_n hx hb dX12_spans_154 rfl (lv_at hl 0 rfl) ?_
        refine gf_59_23 hx hb ht hK hI mw_772 (fun _ h9 => h9) hown dX12_spans_155 ?_
        refine lv_bipush (v := 24) hx hb dX12_spans_158 (by decide) ?_
        refine lv_iload_n hx hb dX12_spans_160 rfl (lv_at hl 1 rfl) ?_
        refine lv_imul hx hb dX12_spans_161 ?_
        refine lv_iload hx hb dX12_spans_162 (lv_at hl 4 rfl) ?_
        refine lv_iadd hx hb dX12_spans_164 ?_
        obtain ⟨g19, hm⟩ := gb_some hm
        refine ld_77 hx hb hK hI g19 (v := σ 77 (ix ((24 * u1) + v4))) rfl dX12_spans_165 ?_
        refine lv_if_ge (tgt := 173) hx hb dX12_spans_166 (by decide) (fun c20 => ?_) (fun c20 => ?_)
        · have hm := (if_pos c20).symm.trans hm
          refine lv_aload_n hx hb dX12_spans_173 rfl (lv_at hl 0 rfl) ?_
          refine gf_59_23 hx hb ht hK hI mw_772 (fun _ h9 => h9) hown dX12_spans_174 ?_
          refine lv_bipush (v := 24) hx hb dX12_spans_177 (by decide) ?_
          refine lv_iload_n hx hb dX12_spans_179 rfl (lv_at hl 1 rfl) ?_
          refine lv_imul hx hb dX12_spans_180 ?_
          refine lv_iload hx hb dX12_spans_181 (lv_at hl 4 rfl) ?_
          refine lv_iadd hx hb dX12_spans_183 ?_
          obtain ⟨g21, hm⟩ := gb_some hm
          refine ld_77 hx hb hK hI g21 (v := σ 77 (ix ((24 * u1) + v4))) rfl dX12_spans_184 ?_
          obtain ⟨g22, hm⟩ := gb_some hm
          refine sv_77 hx hb hK hI g22 dX12_spans_185 (fun H locs hI => ?_)
          refine lv_aload_n hx hb dX12_spans_186 rfl (lv_at hl 0 rfl) ?_
          refine gf_59_24 hx hb ht hK hI mw_773 (fun _ h9 => h9) hown dX12_spans_187 ?_
          refine lv_bipush (v := 24) hx hb dX12_spans_190 (by decide) ?_
          refine lv_iload_n hx hb dX12_spans_192 rfl (lv_at hl 1 rfl) ?_
          refine lv_imul hx hb dX12_spans_193 ?_
          refine lv_iload hx hb dX12_spans_194 (lv_at hl 4 rfl) ?_
          refine lv_iadd hx hb dX12_spans_196 ?_
          refine lv_iload_n hx hb dX12_spans_197 rfl (lv_at hl 2 rfl) ?_
          obtain ⟨g23, hm⟩ := gb_some hm
          refine sv_78 hx hb hK hI g23 dX12_spans_198 (fun H locs hI => ?_)
          refine lv_iinc (v := v4 + 1) (lv' := [(4, .int (v4 + 1)), (0, .ref (ga g 59)), (1, .int u1), (2, .int u2), (3, .int u3)]) hx hb dX12_spans_199 hl (k := 4) rfl (congrArg (fun z => v4 + z) (show Int32.ofInt 1 = 1 by decide)) (by decide) rfl (fun ls hl => ?_)
          refine lv_goto (tgt := 126) hx hb dX12_spans_202 (by decide) ?_
          exact ih (sg (sg σ 77 (ix ((24 * u1) + v4)) (σ 77 (ix ((24 * u1) + v4)))) 78 (ix ((24 * u1) + v4)) u2) (v4 + 1) _ _ _ hm hI (lv_sub hl [1, 2, 3, 4, 0] rfl) hx205
        · have hm := (if_neg c20).symm.trans hm
          refine lv_iload_n hx hb dX12_spans_169 rfl (lv_at hl 2 rfl) ?_
          refine lv_goto (tgt := 185) hx hb dX12_spans_170 (by decide) ?_
          obtain ⟨g24, hm⟩ := gb_some hm
          refine sv_77 hx hb hK hI g24 dX12_spans_185 (fun H locs hI => ?_)
          refine lv_aload_n hx hb dX12_spans_186 rfl (lv_at hl 0 rfl) ?_
          refine gf_59_24 hx hb ht hK hI mw_773 (fun _ h9 => h9) hown dX12_spans_187 ?_
          refine lv_bipush (v := 24) hx hb dX12_spans_190 (by decide) ?_
          refine lv_iload_n hx hb dX12_spans_192 rfl (lv_at hl 1 rfl) ?_
          refine lv_imul hx hb dX12_spans_193 ?_
          refine lv_iload hx hb dX12_spans_194 (lv_at hl 4 rfl) ?_
          refine lv_iadd hx hb dX12_spans_196 ?_
          refine lv_iload_n hx hb dX12_spans_197 rfl (lv_at hl 2 rfl) ?_
          obtain ⟨g25, hm⟩ := gb_some hm
          refine sv_78 hx hb hK hI g25 dX12_spans_198 (fun H locs hI => ?_)
          refine lv_iinc (v := v4 + 1) (lv' := [(4, .int (v4 + 1)), (0, .ref (ga g 59)), (1, .int u1), (2, .int u2), (3, .int u3)]) hx hb dX12_spans_199 hl (k := 4) rfl (congrArg (fun z => v4 + z) (show Int32.ofInt 1 = 1 by decide)) (by decide) rfl (fun ls hl => ?_)
          refine lv_goto (tgt := 126) hx hb dX12_spans_202 (by decide) ?_
          exact ih (sg (sg σ 77 (ix ((24 * u1) + v4)) u2) 78 (ix ((24 * u1) + v4)) u2) (v4 + 1) _ _ _ hm hI (lv_sub hl [1, 2, 3, 4, 0] rfl) hx205
set_option maxHeartbeats 4000000 in
set_option maxRecDepth 100000 in
theorem lp_X12_spans_71 {p : Program} {l : Launch} {e : Env} {s : State} {m : MethodId} {args : Array Value} {below : List Frame} {meth : Method} {c : Code} {Q : State → Prop} {A : Nat → Prop} {g : GG} {q N n : Nat} {out : Int32 × Sg} {u1 : Int32} {K211 : (Sg → Int32 → Option (Int32 × Sg))}
    (hC : CXv p l e (qR 1 28) s m args below meth c cX12_spans 5 RX12 g q n A Q (some out)) :
    ∀ (k : Nat) (σ : Sg) (v2 : Int32) (H : Heap) (locs : List Loc) (ls : Array Slot), lf_X12_spans_71 N n u1 K211 k σ v2 = some out → wI g q n σ A s.heap H locs → lv_has ls 5 [(0, .ref (ga g 59)), (1, .int u1), (2, .int v2)] → (∀ (σ : Sg) (v2 : Int32) (H : Heap) (locs : List Loc) (ls : Array Slot), K211 σ v2 = some out → wI g q n σ A s.heap H locs → lv_has ls 5 [(0, .ref (ga g 59)), (1, .int u1)] → W p l e (qR 1 28) s m args below meth c H locs 0 0 Q (F0 m 211 ls [])) → W p l e (qR 1 28) s m args below meth c H locs 0 0 Q (F0 m 71 ls []) := by
  obtain ⟨hX, hK, hN, hZ, hA, hR⟩ := id hC
  have hx : p.tables.exec = Jvm.exec := hX.1
  have hb : c.code = cX12_spans := hX.2.1
  have hml : c.maxLocals = 5 := hX.2.2.1
  have hown : s.vm.findClass RX12 = some m.cls := hX.2.2.2.1
  have ht : ∀ w ∈ BIG, w.before args s = true := hX.2.2.2.2
  intro k
  induction k with
  | zero =>
    intro σ v2 H locs ls hm
    have hm : none = some out := hm
    exact nomatch hm
  | succ k ih =>
    intro σ v2 H locs ls hm hI hl hx211
    have hm : lb_X12_spans_71 N n u1 K211 (lf_X12_spans_71 N n u1 K211 k) σ v2 = some out := hm
    unfold lb_X12_spans_71 at hm
    refine lv_iload_n hx hb dX12_spans_71 rfl (lv_at hl 2 rfl) ?_
    refine lv_aload_n hx hb dX12_spans_72 rfl (lv_at hl 0 rfl) ?_
    refine gf_59_12 hx hb ht hK hI (v := σ 59 12) rfl mw_888 (fun _ h9 => h9) hown dX12_spans_73 ?_
    refine lv_icmp_ge (tgt := 211) hx hb dX12_spans_76 (by decide) (fun c9 => ?_) (fun c9 => ?_)
    · have hm := (if_pos c9).symm.trans hm
      exact hx211 σ v2 _ _ _ hm hI (lv_sub hl [0, 1] rfl)
    · have hm := (if_neg c9).symm.trans hm
      refine lv_aload_n hx hb dX12_spans_79 rfl (lv_at hl 0 rfl) ?_
      refine gf_59_21 hx hb ht hK hI mw_771 (fun _ h9 => h9) hown dX12_spans_80 ?_
      refine lv_iload_n hx hb dX12_spans_83 rfl (lv_at hl 2 rfl) ?_
      obtain ⟨g10, hm⟩ := gb_some hm
      refine ld_76 hx hb hK hI g10 (v := σ 76 (ix v2)) rfl dX12_spans_84 ?_
      refine lv_istore_n (lv' := [(3, .int (σ 76 (ix v2))), (0, .ref (ga g 59)), (1, .int u1), (2, .int v2)]) hx hb dX12_spans_85 rfl hl (by decide) rfl (fun ls hl => ?_)
      refine lv_iconst (v := 0) hx hb dX12_spans_86 (by decide) ?_
      refine lv_istore (lv' := [(4, .int 0), (3, .int (σ 76 (ix v2))), (0, .ref (ga g 59)), (1, .int u1), (2, .int v2)]) hx hb dX12_spans_87 hl (by decide) rfl (fun ls hl => ?_)
      refine lp_X12_spans_89 hC N _ _ _ _ _ _ hm hI (lv_sub hl [2, 3, 4, 1, 0] rfl) ?_
      intro σ14 w15 w16 H locs ls hm hI hl
      refine lv_iconst (v := 0) hx hb dX12_spans_123 (by decide) ?_
      refine lv_istore (lv' := [(4, .int 0), (0, .ref (ga g 59)), (1, .int u1), (2, .int v2), (3, .int w15)]) hx hb dX12_spans_124 hl (by decide) rfl (fun ls hl => ?_)
      refine lp_X12_spans_126 hC N _ _ _ _ _ hm hI (lv_sub hl [1, 2, 3, 4, 0] rfl) ?_
      intro σ26 w27 H locs ls hm hI hl
      refine lv_iinc (v := v2 + 1) (lv' := [(2, .int (v2 + 1)), (0, .ref (ga g 59)), (1, .int u1)]) hx hb dX12_spans_205 hl (k := 2) rfl (congrArg (fun z => v2 + z) (show Int32.ofInt 1 = 1 by decide)) (by decide) rfl (fun ls hl => ?_)
      refine lv_goto (tgt := 71) hx hb dX12_spans_208 (by decide) ?_
      exact ih σ26 (v2 + 1) _ _ _ hm hI (lv_sub hl [1, 2, 0] rfl) hx211
set_option maxHeartbeats 4000000 in
set_option maxRecDepth 100000 in
theorem lp_X12_spans_230 {p : Program} {l : Launch} {e : Env} {s : State} {m : MethodId} {args : Array Value} {below : List Frame} {meth : Method} {c : Code} {Q : State → Prop} {A : Nat → Prop} {g : GG} {q N n : Nat} {out : Int32 × Sg} {u1 : Int32} {u2 : Int32} {K263 : (Sg → Int32 → Option (Int32 × Sg))}
    (hC : CXv p l e (qR 1 28) s m args below meth c cX12_spans 5 RX12 g q n A Q (some out)) :
    ∀ (k : Nat) (σ : Sg) (v3 : Int32) (H : Heap) (locs : List Loc) (ls : Array Slot), lf_X12_spans_230 N n u1 u2 K263 k σ v3 = some out → wI g q n σ A s.heap H locs → lv_has ls 5 [(0, .ref (ga g 59)), (1, .int u1), (2, .int u2), (3, .int v3)] → (∀ (σ : Sg) (v3 : Int32) (H : Heap) (locs : List Loc) (ls : Array Slot), K263 σ v3 = some out → wI g q n σ A s.heap H locs → lv_has ls 5 [(0, .ref (ga g 59)), (1, .int u1), (2, .int u2)] → W p l e (qR 1 28) s m args below meth c H locs 0 0 Q (F0 m 263 ls [])) → W p l e (qR 1 28) s m args below meth c H locs 0 0 Q (F0 m 230 ls []) := by
  obtain ⟨hX, hK, hN, hZ, hA, hR⟩ := id hC
  have hx : p.tables.exec = Jvm.exec := hX.1
  have hb : c.code = cX12_spans := hX.2.1
  have hml : c.maxLocals = 5 := hX.2.2.1
  have hown : s.vm.findClass RX12 = some m.cls := hX.2.2.2.1
  have ht : ∀ w ∈ BIG, w.before args s = true := hX.2.2.2.2
  intro k
  induction k with
  | zero =>
    intro σ v3 H locs ls hm
    have hm : none = some out := hm
    exact nomatch hm
  | succ k ih =>
    intro σ v3 H locs ls hm hI hl hx263
    have hm : lb_X12_spans_230 N n u1 u2 K263 (lf_X12_spans_230 N n u1 u2 K263 k) σ v3 = some out := hm
    unfold lb_X12_spans_230 at hm
    refine lv_iload_n hx hb dX12_spans_230 rfl (lv_at hl 3 rfl) ?_
    refine lv_bipush (v := 24) hx hb dX12_spans_231 (by decide) ?_
    refine lv_icmp_ge (tgt := 263) hx hb dX12_spans_233 (by decide) (fun c32 => ?_) (fun c32 => ?_)
    · have hm := (if_pos c32).symm.trans hm
      exact hx263 σ v3 _ _ _ hm hI (lv_sub hl [0, 1, 2] rfl)
    · have hm := (if_neg c32).symm.trans hm
      refine lv_aload_n hx hb dX12_spans_236 rfl (lv_at hl 0 rfl) ?_
      refine gf_59_23 hx hb ht hK hI mw_772 (fun _ h9 => h9) hown dX12_spans_237 ?_
      refine lv_bipush (v := 24) hx hb dX12_spans_240 (by decide) ?_
      refine lv_iload_n hx hb dX12_spans_242 rfl (lv_at hl 1 rfl) ?_
      refine lv_imul hx hb dX12_spans_243 ?_
      refine lv_iload_n hx hb dX12_spans_244 rfl (lv_at hl 3 rfl) ?_
      refine lv_iadd hx hb dX12_spans_245 ?_
      obtain ⟨g33, hm⟩ := gb_some hm
      refine ld_77 hx hb hK hI g33 (v := σ 77 (ix ((24 * u1) + v3))) rfl dX12_spans_246 ?_
      refine lv_iload_n hx hb dX12_spans_247 rfl (lv_at hl 2 rfl) ?_
      refine lv_icmp_ne (tgt := 257) hx hb dX12_spans_248 (by decide) (fun c34 => ?_) (fun c34 => ?_)
      · have hm := (if_neg c34).symm.trans hm
        refine lv_iinc (v := v3 + 1) (lv' := [(3, .int (v3 + 1)), (0, .ref (ga g 59)), (1, .int u1), (2, .int u2)]) hx hb dX12_spans_257 hl (k := 3) rfl (congrArg (fun z => v3 + z) (show Int32.ofInt 1 = 1 by decide)) (by decide) rfl (fun ls hl => ?_)
        refine lv_goto (tgt := 230) hx hb dX12_spans_260 (by decide) ?_
        exact ih σ (v3 + 1) _ _ _ hm hI (lv_sub hl [1, 2, 3, 0] rfl) hx263
      · have hm := (if_pos c34).symm.trans hm
        refine lv_aload_n hx hb dX12_spans_251 rfl (lv_at hl 0 rfl) ?_
        refine lv_iload_n hx hb dX12_spans_252 rfl (lv_at hl 1 rfl) ?_
        refine lv_iload_n hx hb dX12_spans_253 rfl (lv_at hl 3 rfl) ?_
        obtain ⟨r35, σ36, h37, hm⟩ := bd_some hm
        refine k_v hI hA (va_runV (As := [.int u1, .int v3]) (rest := []) hX (c_X12_scans N n h37 _) (cwV 2 ht (in_V mw_940 mw_941 mw_942 mw_861 mw_937) rfl rfl rfl pd_X12_scans ⟨Nat.le_of_ble_eq_true rfl, Nat.le_of_ble_eq_true rfl⟩) ⟨q_blind, va_recv hK hI.1 (ci := 11) (q0 := 59) rfl rfl, q_to hI hK hN hZ hA⟩ rfl rfl hl.1 rfl (lv_room (Nat.le_of_ble_eq_true rfl)) dX12_spans_254 (by decide)) (fun H locs hI => ?_)
        refine lv_iinc (v := v3 + 1) (lv' := [(3, .int (v3 + 1)), (0, .ref (ga g 59)), (1, .int u1), (2, .int u2)]) hx hb dX12_spans_257 hl (k := 3) rfl (congrArg (fun z => v3 + z) (show Int32.ofInt 1 = 1 by decide)) (by decide) rfl (fun ls hl => ?_)
        refine lv_goto (tgt := 230) hx hb dX12_spans_260 (by decide) ?_
        exact ih σ36 (v3 + 1) _ _ _ hm hI (lv_sub hl [1, 2, 3, 0] rfl) hx263
set_option maxHeartbeats 4000000 in
set_option maxRecDepth 100000 in
theorem lp_X12_spans_220 {p : Program} {l : Launch} {e : Env} {s : State} {m : MethodId} {args : Array Value} {below : List Frame} {meth : Method} {c : Code} {Q : State → Prop} {A : Nat → Prop} {g : GG} {q N n : Nat} {out : Int32 × Sg} {u1 : Int32} {K269 : (Sg → Int32 → Option (Int32 × Sg))}
    (hC : CXv p l e (qR 1 28) s m args below meth c cX12_spans 5 RX12 g q n A Q (some out)) :
    ∀ (k : Nat) (σ : Sg) (v2 : Int32) (H : Heap) (locs : List Loc) (ls : Array Slot), lf_X12_spans_220 N n u1 K269 k σ v2 = some out → wI g q n σ A s.heap H locs → lv_has ls 5 [(0, .ref (ga g 59)), (1, .int u1), (2, .int v2)] → (∀ (σ : Sg) (v2 : Int32) (H : Heap) (locs : List Loc) (ls : Array Slot), K269 σ v2 = some out → wI g q n σ A s.heap H locs → lv_has ls 5 [] → W p l e (qR 1 28) s m args below meth c H locs 0 0 Q (F0 m 269 ls [])) → W p l e (qR 1 28) s m args below meth c H locs 0 0 Q (F0 m 220 ls []) := by
  obtain ⟨hX, hK, hN, hZ, hA, hR⟩ := id hC
  have hx : p.tables.exec = Jvm.exec := hX.1
  have hb : c.code = cX12_spans := hX.2.1
  have hml : c.maxLocals = 5 := hX.2.2.1
  have hown : s.vm.findClass RX12 = some m.cls := hX.2.2.2.1
  have ht : ∀ w ∈ BIG, w.before args s = true := hX.2.2.2.2
  intro k
  induction k with
  | zero =>
    intro σ v2 H locs ls hm
    have hm : none = some out := hm
    exact nomatch hm
  | succ k ih =>
    intro σ v2 H locs ls hm hI hl hx269
    have hm : lb_X12_spans_220 N n u1 K269 (lf_X12_spans_220 N n u1 K269 k) σ v2 = some out := hm
    unfold lb_X12_spans_220 at hm
    refine lv_iload_n hx hb dX12_spans_220 rfl (lv_at hl 2 rfl) ?_
    refine lv_aload_n hx hb dX12_spans_221 rfl (lv_at hl 0 rfl) ?_
    refine gf_59_12 hx hb ht hK hI (v := σ 59 12) rfl mw_888 (fun _ h9 => h9) hown dX12_spans_222 ?_
    refine lv_icmp_ge (tgt := 269) hx hb dX12_spans_225 (by decide) (fun c31 => ?_) (fun c31 => ?_)
    · have hm := (if_pos c31).symm.trans hm
      exact hx269 σ v2 _ _ _ hm hI (lv_sub hl [] rfl)
    · have hm := (if_neg c31).symm.trans hm
      refine lv_iconst (v := 0) hx hb dX12_spans_228 (by decide) ?_
      refine lv_istore_n (lv' := [(3, .int 0), (0, .ref (ga g 59)), (1, .int u1), (2, .int v2)]) hx hb dX12_spans_229 rfl hl (by decide) rfl (fun ls hl => ?_)
      refine lp_X12_spans_230 hC N _ _ _ _ _ hm hI (lv_sub hl [1, 2, 3, 0] rfl) ?_
      intro σ38 w39 H locs ls hm hI hl
      refine lv_iinc (v := v2 + 1) (lv' := [(2, .int (v2 + 1)), (0, .ref (ga g 59)), (1, .int u1)]) hx hb dX12_spans_263 hl (k := 2) rfl (congrArg (fun z => v2 + z) (show Int32.ofInt 1 = 1 by decide)) (by decide) rfl (fun ls hl => ?_)
      refine lv_goto (tgt := 220) hx hb dX12_spans_266 (by decide) ?_
      exact ih σ38 (v2 + 1) _ _ _ hm hI (lv_sub hl [1, 2, 0] rfl) hx269
set_option maxHeartbeats 4000000 in
set_option maxRecDepth 100000 in
theorem c_X12_spans {l : Launch} {g : GG} {q : Nat} (N n : Nat) {σ : Sg} {p0 : Int32} {r : Int32} {σ' : Sg} (hm : f_X12_spans N n σ p0 = some (r, σ')) : CTv l yX12_spans cX12_spans 5 none 1 28 g q n [.ref (ga g 59), .int p0] σ σ' := by
  refine e_v (r := r) (by decide) (Nat.le_of_ble_eq_true rfl) ?_
  intro p e s m args below meth c A Q ls hC hl hI
  obtain ⟨hX, hK, hN, hZ, hA, hR⟩ := id hC
  have hx : p.tables.exec = Jvm.exec := hX.1
  have hb : c.code = cX12_spans := hX.2.1
  have hml : c.maxLocals = 5 := hX.2.2.1
  have hown : s.vm.findClass RX12 = some m.cls := hX.2.2.2.1
  have ht : ∀ w ∈ BIG, w.before args s = true := hX.2.2.2.2
  have hl : lv_has ls 5 [(0, .ref (ga g 59)), (1, .int p0)] := hl
  unfold f_X12_spans at hm
  refine lv_iconst (v := 0) hx hb dX12_spans_0 (by decide) ?_
  refine lv_istore_n (lv' := [(2, .int 0), (0, .ref (ga g 59)), (1, .int p0)]) hx hb dX12_spans_1 rfl hl (by decide) rfl (fun ls hl => ?_)
  refine lp_X12_spans_2 hC N _ _ _ _ _ hm hI (lv_sub hl [1, 2, 0] rfl) ?_
  intro σ7 w8 H locs ls hm hI hl
  refine lv_iconst (v := 0) hx hb dX12_spans_69 (by decide) ?_
  refine lv_istore_n (lv' := [(2, .int 0), (0, .ref (ga g 59)), (1, .int p0)]) hx hb dX12_spans_70 rfl hl (by decide) rfl (fun ls hl => ?_)
  refine lp_X12_spans_71 hC N _ _ _ _ _ hm hI (lv_sub hl [1, 2, 0] rfl) ?_
  intro σ28 w29 H locs ls hm hI hl
  refine lv_aload_n hx hb dX12_spans_211 rfl (lv_at hl 0 rfl) ?_
  refine gf_59_27 hx hb ht hK hI mw_776 (fun _ h9 => h9) hown dX12_spans_212 ?_
  refine lv_iload_n hx hb dX12_spans_215 rfl (lv_at hl 1 rfl) ?_
  refine lv_iconst (v := 0) hx hb dX12_spans_216 (by decide) ?_
  obtain ⟨g30, hm⟩ := gb_some hm
  refine sv_81 hx hb hK hI g30 dX12_spans_217 (fun H locs hI => ?_)
  refine lv_iconst (v := 0) hx hb dX12_spans_218 (by decide) ?_
  refine lv_istore_n (lv' := [(2, .int 0), (0, .ref (ga g 59)), (1, .int p0)]) hx hb dX12_spans_219 rfl hl (by decide) rfl (fun ls hl => ?_)
  refine lp_X12_spans_220 hC N _ _ _ _ _ hm hI (lv_sub hl [1, 2, 0] rfl) ?_
  intro σ40 w41 H locs ls hm hI hl
  exact hR _ _ _ _ _ hm hI dX12_spans_269
def lb_X12_turn_47 (N n : Nat)  (K94 : (Sg → Int32 → Option (Int32 × Sg))) (rec : (Sg → Int32 → Option (Int32 × Sg))) (σ : Sg) (v2 : Int32) : Option (Int32 × Sg) := if (σ 59 1) ≤ v2 then (K94 σ v2) else (bd (f_X12_lays N n σ v2) (fun r5 σ6 => bd (f_X12_forwards N n σ6 ) (fun r8 σ9 => bd (f_X12_leavesOut N n σ9 ) (fun r11 σ12 => gb v2 12 (bd (f_X12_spans N n (sg σ12 82 (ix v2) (σ12 59 12)) v2) (fun r15 σ16 => bd (f_X12_codes N n σ16 v2) (fun r18 σ19 => rec σ19 (v2 + 1))))))))
def lf_X12_turn_47 (N n : Nat)  (K94 : (Sg → Int32 → Option (Int32 × Sg))) : Nat → (Sg → Int32 → Option (Int32 × Sg))
  | 0 => fun _ _ => none
  | k + 1 => lb_X12_turn_47 N n  K94 (lf_X12_turn_47 N n  K94 k)
def f_X12_turn (N n : Nat) (σ : Sg) (p0 : Int32) : Option (Int32 × Sg) := if (σ 59 10) = 0 then (some ((-1), sg σ 59 0 0)) else (if p0 < 3 then (some ((-1), sg σ 59 0 0)) else (if p0 ≤ 16 then (lf_X12_turn_47 N n  (fun σ21 w22 => bd (f_X12_begin N n σ21 ) (fun r23 σ24 => if (σ24 59 34) = 0 then (some (σ24 59 30, sg σ24 59 37 1)) else (some ((-1), σ24)))) N (sg (sg (sg (sg (sg σ 59 0 0) 59 37 0) 59 34 0) 59 22 p0) 59 30 0) 0) else (some ((-1), sg σ 59 0 0))))
set_option maxHeartbeats 4000000 in
set_option maxRecDepth 100000 in
theorem lp_X12_turn_47 {p : Program} {l : Launch} {e : Env} {s : State} {m : MethodId} {args : Array Value} {below : List Frame} {meth : Method} {c : Code} {Q : State → Prop} {A : Nat → Prop} {g : GG} {q N n : Nat} {out : Int32 × Sg}  {K94 : (Sg → Int32 → Option (Int32 × Sg))}
    (hC : CXi p l e (qR 5 122) s m args below meth c cX12_turn 3 RX12 g q n A Q (some out)) :
    ∀ (k : Nat) (σ : Sg) (v2 : Int32) (H : Heap) (locs : List Loc) (ls : Array Slot), lf_X12_turn_47 N n  K94 k σ v2 = some out → wI g q n σ A s.heap H locs → lv_has ls 3 [(0, .ref (ga g 59)), (2, .int v2)] → (∀ (σ : Sg) (v2 : Int32) (H : Heap) (locs : List Loc) (ls : Array Slot), K94 σ v2 = some out → wI g q n σ A s.heap H locs → lv_has ls 3 [(0, .ref (ga g 59))] → W p l e (qR 5 122) s m args below meth c H locs 0 0 Q (F0 m 94 ls [])) → W p l e (qR 5 122) s m args below meth c H locs 0 0 Q (F0 m 47 ls []) := by
  obtain ⟨hX, hK, hN, hZ, hA, hR⟩ := id hC
  have hx : p.tables.exec = Jvm.exec := hX.1
  have hb : c.code = cX12_turn := hX.2.1
  have hml : c.maxLocals = 3 := hX.2.2.1
  have hown : s.vm.findClass RX12 = some m.cls := hX.2.2.2.1
  have ht : ∀ w ∈ BIG, w.before args s = true := hX.2.2.2.2
  intro k
  induction k with
  | zero =>
    intro σ v2 H locs ls hm
    have hm : none = some out := hm
    exact nomatch hm
  | succ k ih =>
    intro σ v2 H locs ls hm hI hl hx94
    have hm : lb_X12_turn_47 N n  K94 (lf_X12_turn_47 N n  K94 k) σ v2 = some out := hm
    unfold lb_X12_turn_47 at hm
    refine lv_iload_n hx hb dX12_turn_47 rfl (lv_at hl 1 rfl) ?_
    refine lv_aload_n hx hb dX12_turn_48 rfl (lv_at hl 0 rfl) ?_
    refine gf_59_1 hx hb ht hK hI (v := σ 59 1) rfl mw_852 (fun _ h9 => h9) hown dX12_turn_49 ?_
    refine lv_icmp_ge (tgt := 94) hx hb dX12_turn_52 (by decide) (fun c4 => ?_) (fun c4 => ?_)
    · have hm := (if_pos c4).symm.trans hm
      exact hx94 σ v2 _ _ _ hm hI (lv_sub hl [0] rfl)
    · have hm := (if_neg c4).symm.trans hm
      refine lv_aload_n hx hb dX12_turn_55 rfl (lv_at hl 0 rfl) ?_
      refine lv_iload_n hx hb dX12_turn_56 rfl (lv_at hl 1 rfl) ?_
      obtain ⟨r5, σ6, h7, hm⟩ := bd_some hm
      refine k_v hI hA (va_runV (As := [.int v2]) (rest := []) hX (c_X12_lays N n h7 _) (cwV 1 ht (in_V mw_992 mw_993 mw_994 mw_861 mw_904) rfl rfl rfl pd_X12_lays ⟨Nat.le_of_ble_eq_true rfl, Nat.le_of_ble_eq_true rfl⟩) ⟨q_blind, va_recv hK hI.1 (ci := 11) (q0 := 59) rfl rfl, q_to hI hK hN hZ hA⟩ rfl rfl hl.1 rfl (lv_room (Nat.le_of_ble_eq_true rfl)) dX12_turn_57 (by decide)) (fun H locs hI => ?_)
      refine lv_aload_n hx hb dX12_turn_60 rfl (lv_at hl 0 rfl) ?_
      obtain ⟨r8, σ9, h10, hm⟩ := bd_some hm
      refine k_v hI hA (va_runV (As := []) (rest := []) hX (c_X12_forwards N n h10 _) (cwV 0 ht (in_V mw_995 mw_996 mw_997 mw_861 mw_912) rfl rfl rfl pd_X12_forwards ⟨Nat.le_of_ble_eq_true rfl, Nat.le_of_ble_eq_true rfl⟩) ⟨q_blind, va_recv hK hI.1 (ci := 11) (q0 := 59) rfl rfl, q_to hI hK hN hZ hA⟩ rfl rfl hl.1 rfl (lv_room (Nat.le_of_ble_eq_true rfl)) dX12_turn_61 (by decide)) (fun H locs hI => ?_)
      refine lv_aload_n hx hb dX12_turn_64 rfl (lv_at hl 0 rfl) ?_
      obtain ⟨r11, σ12, h13, hm⟩ := bd_some hm
      refine k_v hI hA (va_runV (As := []) (rest := []) hX (c_X12_leavesOut N n h13 _) (cwV 0 ht (in_V mw_998 mw_999 mw_1000 mw_861 mw_936) rfl rfl rfl pd_X12_leavesOut ⟨Nat.le_of_ble_eq_true rfl, Nat.le_of_ble_eq_true rfl⟩) ⟨q_blind, va_recv hK hI.1 (ci := 11) (q0 := 59) rfl rfl, q_to hI hK hN hZ hA⟩ rfl rfl hl.1 rfl (lv_room (Nat.le_of_ble_eq_true rfl)) dX12_turn_65 (by decide)) (fun H locs hI => ?_)
      refine lv_aload_n hx hb dX12_turn_68 rfl (lv_at hl 0 rfl) ?_
      refine gf_59_28 hx hb ht hK hI mw_777 (fun _ h9 => h9) hown dX12_turn_69 ?_
      refine lv_iload_n hx hb dX12_turn_72 rfl (lv_at hl 1 rfl) ?_
      refine lv_aload_n hx hb dX12_turn_73 rfl (lv_at hl 0 rfl) ?_
      refine gf_59_12 hx hb ht hK hI (v := σ12 59 12) rfl mw_888 (fun _ h9 => h9) hown dX12_turn_74 ?_
      obtain ⟨g14, hm⟩ := gb_some hm
      refine sv_82 hx hb hK hI g14 dX12_turn_77 (fun H locs hI => ?_)
      refine lv_aload_n hx hb dX12_turn_78 rfl (lv_at hl 0 rfl) ?_
      refine lv_iload_n hx hb dX12_turn_79 rfl (lv_at hl 1 rfl) ?_
      obtain ⟨r15, σ16, h17, hm⟩ := bd_some hm
      refine k_v hI hA (va_runV (As := [.int v2]) (rest := []) hX (c_X12_spans N n h17 _) (cwV 1 ht (in_V mw_1001 mw_1002 mw_1003 mw_861 mw_939) rfl rfl rfl pd_X12_spans ⟨Nat.le_of_ble_eq_true rfl, Nat.le_of_ble_eq_true rfl⟩) ⟨q_blind, va_recv hK hI.1 (ci := 11) (q0 := 59) rfl rfl, q_to hI hK hN hZ hA⟩ rfl rfl hl.1 rfl (lv_room (Nat.le_of_ble_eq_true rfl)) dX12_turn_80 (by decide)) (fun H locs hI => ?_)
      refine lv_aload_n hx hb dX12_turn_83 rfl (lv_at hl 0 rfl) ?_
      refine lv_iload_n hx hb dX12_turn_84 rfl (lv_at hl 1 rfl) ?_
      obtain ⟨r18, σ19, h20, hm⟩ := bd_some hm
      refine k_v hI hA (va_runV (As := [.int v2]) (rest := []) hX (c_X12_codes N n h20 _) (cwV 1 ht (in_V mw_1004 mw_1005 mw_1006 mw_861 mw_990) rfl rfl rfl pd_X12_codes ⟨Nat.le_of_ble_eq_true rfl, Nat.le_of_ble_eq_true rfl⟩) ⟨q_blind, va_recv hK hI.1 (ci := 11) (q0 := 59) rfl rfl, q_to hI hK hN hZ hA⟩ rfl rfl hl.1 rfl (lv_room (Nat.le_of_ble_eq_true rfl)) dX12_turn_85 (by decide)) (fun H locs hI => ?_)
      refine lv_iinc (v := v2 + 1) (lv' := [(2, .int (v2 + 1)), (0, .ref (ga g 59))]) hx hb dX12_turn_88 hl (k := 1) rfl (congrArg (fun z => v2 + z) (show Int32.ofInt 1 = 1 by decide)) (by decide) rfl (fun ls hl => ?_)
      refine lv_goto (tgt := 47) hx hb dX12_turn_91 (by decide) ?_
      exact ih σ19 (v2 + 1) _ _ _ hm hI (lv_sub hl [1, 0] rfl) hx94
set_option maxHeartbeats 4000000 in
set_option maxRecDepth 100000 in
theorem c_X12_turn {l : Launch} {g : GG} {q : Nat} (N n : Nat) {σ : Sg} {p0 : Int32} {r : Int32} {σ' : Sg} (hm : f_X12_turn N n σ p0 = some (r, σ')) : CTi l yX12_turn cX12_turn 3 (some .int) 5 122 g q n [.ref (ga g 59), .int p0] σ r σ' := by
  refine e_i (r := r) (by decide) (Nat.le_of_ble_eq_true rfl) ?_
  intro p e s m args below meth c A Q ls hC hl hI
  obtain ⟨hX, hK, hN, hZ, hA, hR⟩ := id hC
  have hx : p.tables.exec = Jvm.exec := hX.1
  have hb : c.code = cX12_turn := hX.2.1
  have hml : c.maxLocals = 3 := hX.2.2.1
  have hown : s.vm.findClass RX12 = some m.cls := hX.2.2.2.1
  have ht : ∀ w ∈ BIG, w.before args s = true := hX.2.2.2.2
  have hl : lv_has ls 3 [(0, .ref (ga g 59)), (1, .int p0)] := hl
  unfold f_X12_turn at hm
  refine lv_aload_n hx hb dX12_turn_0 rfl (lv_at hl 0 rfl) ?_
  refine lv_iconst (v := 0) hx hb dX12_turn_1 (by decide) ?_
  refine pf_59_0 hx hb ht hK hI mw_851 (fun _ h9 => h9) hown dX12_turn_2 (fun H locs hI => ?_)
  refine lv_aload_n hx hb dX12_turn_5 rfl (lv_at hl 0 rfl) ?_
  refine gf_59_10 hx hb ht hK hI (v := σ 59 10) rfl mw_853 (fun _ h9 => h9) hown dX12_turn_6 ?_
  refine lv_if_eq (tgt := 23) hx hb dX12_turn_9 (by decide) (fun c1 => ?_) (fun c1 => ?_)
  · have hm := (if_pos c1).symm.trans hm
    refine lv_iconst (v := (-1)) hx hb dX12_turn_23 (by decide) ?_
    exact hR _ _ _ _ _ _ hm hI dX12_turn_24
  · have hm := (if_neg c1).symm.trans hm
    refine lv_iload_n hx hb dX12_turn_12 rfl (lv_at hl 1 rfl) ?_
    refine lv_iconst (v := 3) hx hb dX12_turn_13 (by decide) ?_
    refine lv_icmp_lt (tgt := 23) hx hb dX12_turn_14 (by decide) (fun c2 => ?_) (fun c2 => ?_)
    · have hm := (if_pos c2).symm.trans hm
      refine lv_iconst (v := (-1)) hx hb dX12_turn_23 (by decide) ?_
      exact hR _ _ _ _ _ _ hm hI dX12_turn_24
    · have hm := (if_neg c2).symm.trans hm
      refine lv_iload_n hx hb dX12_turn_17 rfl (lv_at hl 1 rfl) ?_
      refine lv_bipush (v := 16) hx hb dX12_turn_18 (by decide) ?_
      refine lv_icmp_le (tgt := 25) hx hb dX12_turn_20 (by decide) (fun c3 => ?_) (fun c3 => ?_)
      · have hm := (if_pos c3).symm.trans hm
        refine lv_aload_n hx hb dX12_turn_25 rfl (lv_at hl 0 rfl) ?_
        refine lv_iconst (v := 0) hx hb dX12_turn_26 (by decide) ?_
        refine pf_59_37 hx hb ht hK hI mw_991 (fun _ h9 => h9) (by decide) (by decide) hown dX12_turn_27 (fun H locs hI => ?_)
        refine lv_aload_n hx hb dX12_turn_30 rfl (lv_at hl 0 rfl) ?_
        refine lv_iconst (v := 0) hx hb dX12_turn_31 (by decide) ?_
        refine pf_59_34 hx hb ht hK hI mw_945 (fun _ h9 => h9) (by decide) (by decide) hown dX12_turn_32 (fun H locs hI => ?_)
        refine lv_aload_n hx hb dX12_turn_35 rfl (lv_at hl 0 rfl) ?_
        refine lv_iload_n hx hb dX12_turn_36 rfl (lv_at hl 1 rfl) ?_
        refine pf_59_22 hx hb ht hK hI mw_938 (fun _ h9 => h9) hown dX12_turn_37 (fun H locs hI => ?_)
        refine lv_aload_n hx hb dX12_turn_40 rfl (lv_at hl 0 rfl) ?_
        refine lv_iconst (v := 0) hx hb dX12_turn_41 (by decide) ?_
        refine pf_59_30 hx hb ht hK hI mw_944 (fun _ h9 => h9) hown dX12_turn_42 (fun H locs hI => ?_)
        refine lv_iconst (v := 0) hx hb dX12_turn_45 (by decide) ?_
        refine lv_istore_n (lv' := [(2, .int 0), (0, .ref (ga g 59)), (1, .int p0)]) hx hb dX12_turn_46 rfl hl (by decide) rfl (fun ls hl => ?_)
        refine lp_X12_turn_47 hC N _ _ _ _ _ hm hI (lv_sub hl [1, 0] rfl) ?_
        intro σ21 w22 H locs ls hm hI hl
        refine lv_aload_n hx hb dX12_turn_94 rfl (lv_at hl 0 rfl) ?_
        obtain ⟨r23, σ24, h25, hm⟩ := bd_some hm
        refine k_v hI hA (va_runV (As := []) (rest := []) hX (c_X12_begin N n h25 _) (cwV 0 ht (in_V mw_882 mw_883 mw_884 mw_861 mw_878) rfl rfl rfl pd_X12_begin ⟨Nat.le_of_ble_eq_true rfl, Nat.le_of_ble_eq_true rfl⟩) ⟨q_blind, va_recv hK hI.1 (ci := 11) (q0 := 59) rfl rfl, q_to hI hK hN hZ hA⟩ rfl rfl hl.1 rfl (lv_room (Nat.le_of_ble_eq_true rfl)) dX12_turn_95 (by decide)) (fun H locs hI => ?_)
        refine lv_aload_n hx hb dX12_turn_98 rfl (lv_at hl 0 rfl) ?_
        refine gf_59_34 hx hb ht hK hI (v := σ24 59 34) rfl mw_945 (fun _ h9 => h9) hown dX12_turn_99 ?_
        refine lv_if_eq (tgt := 107) hx hb dX12_turn_102 (by decide) (fun c26 => ?_) (fun c26 => ?_)
        · have hm := (if_pos c26).symm.trans hm
          refine lv_aload_n hx hb dX12_turn_107 rfl (lv_at hl 0 rfl) ?_
          refine lv_iconst (v := 1) hx hb dX12_turn_108 (by decide) ?_
          refine pf_59_37 hx hb ht hK hI mw_991 (fun _ h9 => h9) (by decide) (by decide) hown dX12_turn_109 (fun H locs hI => ?_)
          refine lv_aload_n hx hb dX12_turn_112 rfl (lv_at hl 0 rfl) ?_
          refine gf_59_30 hx hb ht hK hI (v := σ24 59 30) rfl mw_944 (fun _ h9 => h9) hown dX12_turn_113 ?_
          exact hR _ _ _ _ _ _ hm hI dX12_turn_116
        · have hm := (if_neg c26).symm.trans hm
          refine lv_iconst (v := (-1)) hx hb dX12_turn_105 (by decide) ?_
          exact hR _ _ _ _ _ _ hm hI dX12_turn_106
      · have hm := (if_neg c3).symm.trans hm
        refine lv_iconst (v := (-1)) hx hb dX12_turn_23 (by decide) ?_
        exact hR _ _ _ _ _ _ hm hI dX12_turn_24
def f_X12_value (N n : Nat) (σ : Sg) (p0 : Int32) (p1 : Int32) (p2 : Int32) : Option (Int32 × Sg) := bd (f_X12_isFunc N n (sg σ 59 0 0) p0) (fun r1 σ2 => if r1 = 0 then (some ((-1), σ2)) else (if p1 < 0 then (some ((-1), σ2)) else (if 23 < p1 then (some ((-1), σ2)) else (gb ((24 * p0) + p1) 288 (if 0 ≤ (σ2 77 (ix ((24 * p0) + p1))) then (if p2 = 0 then (gb ((24 * p0) + p1) 288 (some (σ2 77 (ix ((24 * p0) + p1)), σ2))) else (if p2 = 1 then (gb ((24 * p0) + p1) 288 (some (σ2 78 (ix ((24 * p0) + p1)), σ2))) else (if p2 = 2 then (gb ((24 * p0) + p1) 288 (some (σ2 79 (ix ((24 * p0) + p1)), σ2))) else (if p2 = 3 then (gb ((24 * p0) + p1) 288 (some (σ2 80 (ix ((24 * p0) + p1)), σ2))) else (some ((-1), σ2)))))) else (some ((-1), σ2)))))))
set_option maxHeartbeats 4000000 in
set_option maxRecDepth 100000 in
theorem c_X12_value {l : Launch} {g : GG} {q : Nat} (N n : Nat) {σ : Sg} {p0 : Int32} {p1 : Int32} {p2 : Int32} {r : Int32} {σ' : Sg} (hm : f_X12_value N n σ p0 p1 p2 = some (r, σ')) : CTi l yX12_value cX12_value 5 (some .int) 1 21 g q n [.ref (ga g 59), .int p0, .int p1, .int p2] σ r σ' := by
  refine e_i (r := r) (by decide) (Nat.le_of_ble_eq_true rfl) ?_
  intro p e s m args below meth c A Q ls hC hl hI
  obtain ⟨hX, hK, hN, hZ, hA, hR⟩ := id hC
  have hx : p.tables.exec = Jvm.exec := hX.1
  have hb : c.code = cX12_value := hX.2.1
  have hml : c.maxLocals = 5 := hX.2.2.1
  have hown : s.vm.findClass RX12 = some m.cls := hX.2.2.2.1
  have ht : ∀ w ∈ BIG, w.before args s = true := hX.2.2.2.2
  have hl : lv_has ls 5 [(0, .ref (ga g 59)), (1, .int p0), (2, .int p1), (3, .int p2)] := hl
  unfold f_X12_value at hm
  refine lv_aload_n hx hb dX12_value_0 rfl (lv_at hl 0 rfl) ?_
  refine lv_iconst (v := 0) hx hb dX12_value_1 (by decide) ?_
  refine pf_59_0 hx hb ht hK hI mw_851 (fun _ h9 => h9) hown dX12_value_2 (fun H locs hI => ?_)
  refine lv_aload_n hx hb dX12_value_5 rfl (lv_at hl 0 rfl) ?_
  refine lv_iload_n hx hb dX12_value_6 rfl (lv_at hl 1 rfl) ?_
  obtain ⟨r1, σ2, h3, hm⟩ := bd_some hm
  refine k_i hI hA (va_runV (As := [.int p0]) (rest := []) hX (c_X12_isFunc N n h3 _) (cwV 1 ht (in_V mw_1079 mw_1080 mw_1081 mw_861 mw_1077) rfl rfl rfl pd_X12_isFunc ⟨Nat.le_of_ble_eq_true rfl, Nat.le_of_ble_eq_true rfl⟩) ⟨q_blind, va_recv hK hI.1 (ci := 11) (q0 := 59) rfl rfl, q_to hI hK hN hZ hA⟩ rfl rfl hl.1 rfl (lv_room (Nat.le_of_ble_eq_true rfl)) dX12_value_7 (by decide)) (fun H locs hI => ?_)
  refine lv_if_eq (tgt := 37) hx hb dX12_value_10 (by decide) (fun c4 => ?_) (fun c4 => ?_)
  · have hm := (if_pos c4).symm.trans hm
    refine lv_iconst (v := (-1)) hx hb dX12_value_37 (by decide) ?_
    exact hR _ _ _ _ _ _ hm hI dX12_value_38
  · have hm := (if_neg c4).symm.trans hm
    refine lv_iload_n hx hb dX12_value_13 rfl (lv_at hl 2 rfl) ?_
    refine lv_if_lt (tgt := 37) hx hb dX12_value_14 (by decide) (fun c5 => ?_) (fun c5 => ?_)
    · have hm := (if_pos c5).symm.trans hm
      refine lv_iconst (v := (-1)) hx hb dX12_value_37 (by decide) ?_
      exact hR _ _ _ _ _ _ hm hI dX12_value_38
    · have hm := (if_neg c5).symm.trans hm
      refine lv_iload_n hx hb dX12_value_17 rfl (lv_at hl 2 rfl) ?_
      refine lv_bipush (v := 23) hx hb dX12_value_18 (by decide) ?_
      refine lv_icmp_gt (tgt := 37) hx hb dX12_value_20 (by decide) (fun c6 => ?_) (fun c6 => ?_)
      · have hm := (if_pos c6).symm.trans hm
        refine lv_iconst (v := (-1)) hx hb dX12_value_37 (by decide) ?_
        exact hR _ _ _ _ _ _ hm hI dX12_value_38
      · have hm := (if_neg c6).symm.trans hm
        refine lv_aload_n hx hb dX12_value_23 rfl (lv_at hl 0 rfl) ?_
        refine gf_59_23 hx hb ht hK hI mw_772 (fun _ h9 => h9) hown dX12_value_24 ?_
        refine lv_bipush (v := 24) hx hb dX12_value_27 (by decide) ?_
        refine lv_iload_n hx hb dX12_value_29 rfl (lv_at hl 1 rfl) ?_
        refine lv_imul hx hb dX12_value_30 ?_
        refine lv_iload_n hx hb dX12_value_31 rfl (lv_at hl 2 rfl) ?_
        refine lv_iadd hx hb dX12_value_32 ?_
        obtain ⟨g7, hm⟩ := gb_some hm
        refine ld_77 hx hb hK hI g7 (v := σ2 77 (ix ((24 * p0) + p1))) rfl dX12_value_33 ?_
        refine lv_if_ge (tgt := 39) hx hb dX12_value_34 (by decide) (fun c8 => ?_) (fun c8 => ?_)
        · have hm := (if_pos c8).symm.trans hm
          refine lv_bipush (v := 24) hx hb dX12_value_39 (by decide) ?_
          refine lv_iload_n hx hb dX12_value_41 rfl (lv_at hl 1 rfl) ?_
          refine lv_imul hx hb dX12_value_42 ?_
          refine lv_iload_n hx hb dX12_value_43 rfl (lv_at hl 2 rfl) ?_
          refine lv_iadd hx hb dX12_value_44 ?_
          refine lv_istore (lv' := [(4, .int ((24 * p0) + p1)), (0, .ref (ga g 59)), (1, .int p0), (2, .int p1), (3, .int p2)]) hx hb dX12_value_45 hl (by decide) rfl (fun ls hl => ?_)
          refine lv_iload_n hx hb dX12_value_47 rfl (lv_at hl 4 rfl) ?_
          refine lv_if_ne (tgt := 61) hx hb dX12_value_48 (by decide) (fun c9 => ?_) (fun c9 => ?_)
          · have hm := (if_neg c9).symm.trans hm
            refine lv_iload_n hx hb dX12_value_61 rfl (lv_at hl 4 rfl) ?_
            refine lv_iconst (v := 1) hx hb dX12_value_62 (by decide) ?_
            refine lv_icmp_ne (tgt := 76) hx hb dX12_value_63 (by decide) (fun c10 => ?_) (fun c10 => ?_)
            · have hm := (if_neg c10).symm.trans hm
              refine lv_iload_n hx hb dX12_value_76 rfl (lv_at hl 4 rfl) ?_
              refine lv_iconst (v := 2) hx hb dX12_value_77 (by decide) ?_
              refine lv_icmp_ne (tgt := 91) hx hb dX12_value_78 (by decide) (fun c11 => ?_) (fun c11 => ?_)
              · have hm := (if_neg c11).symm.trans hm
                refine lv_iload_n hx hb dX12_value_91 rfl (lv_at hl 4 rfl) ?_
                refine lv_iconst (v := 3) hx hb dX12_value_92 (by decide) ?_
                refine lv_icmp_ne (tgt := 106) hx hb dX12_value_93 (by decide) (fun c12 => ?_) (fun c12 => ?_)
                · have hm := (if_neg c12).symm.trans hm
                  refine lv_iconst (v := (-1)) hx hb dX12_value_106 (by decide) ?_
                  exact hR _ _ _ _ _ _ hm hI dX12_value_107
                · have hm := (if_pos c12).symm.trans hm
                  refine lv_aload_n hx hb dX12_value_96 rfl (lv_at hl 1 rfl) ?_
                  refine gf_59_26 hx hb ht hK hI mw_775 (fun _ h9 => h9) hown dX12_value_97 ?_
                  refine lv_iload hx hb dX12_value_100 (lv_at hl 0 rfl) ?_
                  obtain ⟨g13, hm⟩ := gb_some hm
                  refine ld_80 hx hb hK hI g13 (v := σ2 80 (ix ((24 * p0) + p1))) rfl dX12_value_102 ?_
                  refine lv_goto (tgt := 107) hx hb dX12_value_103 (by decide) ?_
                  exact hR _ _ _ _ _ _ hm hI dX12_value_107
              · have hm := (if_pos c11).symm.trans hm
                refine lv_aload_n hx hb dX12_value_81 rfl (lv_at hl 1 rfl) ?_
                refine gf_59_25 hx hb ht hK hI mw_774 (fun _ h9 => h9) hown dX12_value_82 ?_
                refine lv_iload hx hb dX12_value_85 (lv_at hl 0 rfl) ?_
                obtain ⟨g14, hm⟩ := gb_some hm
                refine ld_79 hx hb hK hI g14 (v := σ2 79 (ix ((24 * p0) + p1))) rfl dX12_value_87 ?_
                refine lv_goto (tgt := 107) hx hb dX12_value_88 (by decide) ?_
                exact hR _ _ _ _ _ _ hm hI dX12_value_107
            · have hm := (if_pos c10).symm.trans hm
              refine lv_aload_n hx hb dX12_value_66 rfl (lv_at hl 1 rfl) ?_
              refine gf_59_24 hx hb ht hK hI mw_773 (fun _ h9 => h9) hown dX12_value_67 ?_
              refine lv_iload hx hb dX12_value_70 (lv_at hl 0 rfl) ?_
              obtain ⟨g15, hm⟩ := gb_some hm
              refine ld_78 hx hb hK hI g15 (v := σ2 78 (ix ((24 * p0) + p1))) rfl dX12_value_72 ?_
              refine lv_goto (tgt := 107) hx hb dX12_value_73 (by decide) ?_
              exact hR _ _ _ _ _ _ hm hI dX12_value_107
          · have hm := (if_pos c9).symm.trans hm
            refine lv_aload_n hx hb dX12_value_51 rfl (lv_at hl 1 rfl) ?_
            refine gf_59_23 hx hb ht hK hI mw_772 (fun _ h9 => h9) hown dX12_value_52 ?_
            refine lv_iload hx hb dX12_value_55 (lv_at hl 0 rfl) ?_
            obtain ⟨g16, hm⟩ := gb_some hm
            refine ld_77 hx hb hK hI g16 (v := σ2 77 (ix ((24 * p0) + p1))) rfl dX12_value_57 ?_
            refine lv_goto (tgt := 107) hx hb dX12_value_58 (by decide) ?_
            exact hR _ _ _ _ _ _ hm hI dX12_value_107
        · have hm := (if_neg c8).symm.trans hm
          refine lv_iconst (v := (-1)) hx hb dX12_value_37 (by decide) ?_
          exact hR _ _ _ _ _ _ hm hI dX12_value_38
def f_X12_word (N n : Nat) (σ : Sg) (p0 : Int32) (p1 : Int32) : Option (Int32 × Sg) := if (σ 59 1) = 0 then (some ((-1), sg σ 59 0 0)) else (if (σ 59 6) = 300 then (some ((-1), sg σ 59 0 0)) else (if (σ 59 10) = 0 then (gb (σ 59 6) 300 (gb (σ 59 6) 300 (gb ((σ 59 1) - 1) 12 (gb ((σ 59 1) - 1) 12 (gb ((σ 59 1) - 1) 12 (some (((σ 63 (ix ((σ 59 1) - 1))) + 1) - 1, sg (sg (sg (sg (sg σ 59 0 0) 64 (ix (σ 59 6)) p0) 65 (ix (σ 59 6)) p1) 59 6 ((σ 59 6) + 1)) 63 (ix ((σ 59 1) - 1)) ((σ 63 (ix ((σ 59 1) - 1))) + 1)))))))) else (some ((-1), sg σ 59 0 0))))
set_option maxHeartbeats 4000000 in
set_option maxRecDepth 100000 in
theorem c_X12_word {l : Launch} {g : GG} {q : Nat} (N n : Nat) {σ : Sg} {p0 : Int32} {p1 : Int32} {r : Int32} {σ' : Sg} (hm : f_X12_word N n σ p0 p1 = some (r, σ')) : CTi l yX12_word cX12_word 3 (some .int) 0 0 g q n [.ref (ga g 59), .int p0, .int p1] σ r σ' := by
  refine e_i (r := r) (by decide) (Nat.le_of_ble_eq_true rfl) ?_
  intro p e s m args below meth c A Q ls hC hl hI
  obtain ⟨hX, hK, hN, hZ, hA, hR⟩ := id hC
  have hx : p.tables.exec = Jvm.exec := hX.1
  have hb : c.code = cX12_word := hX.2.1
  have hml : c.maxLocals = 3 := hX.2.2.1
  have hown : s.vm.findClass RX12 = some m.cls := hX.2.2.2.1
  have ht : ∀ w ∈ BIG, w.before args s = true := hX.2.2.2.2
  have hl : lv_has ls 3 [(0, .ref (ga g 59)), (1, .int p0), (2, .int p1)] := hl
  unfold f_X12_word at hm
  refine lv_aload_n hx hb dX12_word_0 rfl (lv_at hl 0 rfl) ?_
  refine lv_iconst (v := 0) hx hb dX12_word_1 (by decide) ?_
  refine pf_59_0 hx hb ht hK hI mw_851 (fun _ h9 => h9) hown dX12_word_2 (fun H locs hI => ?_)
  refine lv_aload_n hx hb dX12_word_5 rfl (lv_at hl 0 rfl) ?_
  refine gf_59_1 hx hb ht hK hI (v := σ 59 1) rfl mw_852 (fun _ h9 => h9) hown dX12_word_6 ?_
  refine lv_if_eq (tgt := 29) hx hb dX12_word_9 (by decide) (fun c1 => ?_) (fun c1 => ?_)
  · have hm := (if_pos c1).symm.trans hm
    refine lv_iconst (v := (-1)) hx hb dX12_word_29 (by decide) ?_
    exact hR _ _ _ _ _ _ hm hI dX12_word_30
  · have hm := (if_neg c1).symm.trans hm
    refine lv_aload_n hx hb dX12_word_12 rfl (lv_at hl 0 rfl) ?_
    refine gf_59_6 hx hb ht hK hI (v := σ 59 6) rfl mw_854 (fun _ h9 => h9) hown dX12_word_13 ?_
    refine lv_sipush (v := 300) hx hb dX12_word_16 (by decide) ?_
    refine lv_icmp_eq (tgt := 29) hx hb dX12_word_19 (by decide) (fun c2 => ?_) (fun c2 => ?_)
    · have hm := (if_pos c2).symm.trans hm
      refine lv_iconst (v := (-1)) hx hb dX12_word_29 (by decide) ?_
      exact hR _ _ _ _ _ _ hm hI dX12_word_30
    · have hm := (if_neg c2).symm.trans hm
      refine lv_aload_n hx hb dX12_word_22 rfl (lv_at hl 0 rfl) ?_
      refine gf_59_10 hx hb ht hK hI (v := σ 59 10) rfl mw_853 (fun _ h9 => h9) hown dX12_word_23 ?_
      refine lv_if_eq (tgt := 31) hx hb dX12_word_26 (by decide) (fun c3 => ?_) (fun c3 => ?_)
      · have hm := (if_pos c3).symm.trans hm
        refine lv_aload_n hx hb dX12_word_31 rfl (lv_at hl 0 rfl) ?_
        refine gf_59_7 hx hb ht hK hI mw_759 (fun _ h9 => h9) hown dX12_word_32 ?_
        refine lv_aload_n hx hb dX12_word_35 rfl (lv_at hl 0 rfl) ?_
        refine gf_59_6 hx hb ht hK hI (v := σ 59 6) rfl mw_854 (fun _ h9 => h9) hown dX12_word_36 ?_
        refine lv_iload_n hx hb dX12_word_39 rfl (lv_at hl 1 rfl) ?_
        obtain ⟨g4, hm⟩ := gb_some hm
        refine sv_64 hx hb hK hI g4 dX12_word_40 (fun H locs hI => ?_)
        refine lv_aload_n hx hb dX12_word_41 rfl (lv_at hl 0 rfl) ?_
        refine gf_59_8 hx hb ht hK hI mw_760 (fun _ h9 => h9) hown dX12_word_42 ?_
        refine lv_aload_n hx hb dX12_word_45 rfl (lv_at hl 0 rfl) ?_
        refine gf_59_6 hx hb ht hK hI (v := σ 59 6) rfl mw_854 (fun _ h9 => h9) hown dX12_word_46 ?_
        refine lv_iload_n hx hb dX12_word_49 rfl (lv_at hl 2 rfl) ?_
        obtain ⟨g5, hm⟩ := gb_some hm
        refine sv_65 hx hb hK hI g5 dX12_word_50 (fun H locs hI => ?_)
        refine lv_aload_n hx hb dX12_word_51 rfl (lv_at hl 0 rfl) ?_
        refine lv_dup hx hb dX12_word_52 rfl ?_
        refine gf_59_6 hx hb ht hK hI (v := σ 59 6) rfl mw_854 (fun _ h9 => h9) hown dX12_word_53 ?_
        refine lv_iconst (v := 1) hx hb dX12_word_56 (by decide) ?_
        refine lv_iadd hx hb dX12_word_57 ?_
        refine pf_59_6 hx hb ht hK hI mw_854 (fun _ h9 => h9) hown dX12_word_58 (fun H locs hI => ?_)
        refine lv_aload_n hx hb dX12_word_61 rfl (lv_at hl 0 rfl) ?_
        refine gf_59_5 hx hb ht hK hI mw_758 (fun _ h9 => h9) hown dX12_word_62 ?_
        refine lv_aload_n hx hb dX12_word_65 rfl (lv_at hl 0 rfl) ?_
        refine gf_59_1 hx hb ht hK hI (v := σ 59 1) rfl mw_852 (fun _ h9 => h9) hown dX12_word_66 ?_
        refine lv_iconst (v := 1) hx hb dX12_word_69 (by decide) ?_
        refine lv_isub hx hb dX12_word_70 ?_
        refine lv_dup2_11 hx hb dX12_word_71 rfl rfl ?_
        obtain ⟨g6, hm⟩ := gb_some hm
        refine ld_63 hx hb hK hI g6 (v := σ 63 (ix ((σ 59 1) - 1))) rfl dX12_word_72 ?_
        refine lv_iconst (v := 1) hx hb dX12_word_73 (by decide) ?_
        refine lv_iadd hx hb dX12_word_74 ?_
        obtain ⟨g7, hm⟩ := gb_some hm
        refine sv_63 hx hb hK hI g7 dX12_word_75 (fun H locs hI => ?_)
        refine lv_aload_n hx hb dX12_word_76 rfl (lv_at hl 0 rfl) ?_
        refine gf_59_5 hx hb ht hK hI mw_758 (fun _ h9 => h9) hown dX12_word_77 ?_
        refine lv_aload_n hx hb dX12_word_80 rfl (lv_at hl 0 rfl) ?_
        refine gf_59_1 hx hb ht hK hI (v := σ 59 1) rfl mw_852 (fun _ h9 => h9) hown dX12_word_81 ?_
        refine lv_iconst (v := 1) hx hb dX12_word_84 (by decide) ?_
        refine lv_isub hx hb dX12_word_85 ?_
        obtain ⟨g8, hm⟩ := gb_some hm
        refine ld_63 hx hb hK hI g8 (v := (σ 63 (ix ((σ 59 1) - 1))) + 1) (show upd (σ 63) (ix ((σ 59 1) - 1)) ((σ 63 (ix ((σ 59 1) - 1))) + 1) (ix ((σ 59 1) - 1)) = (σ 63 (ix ((σ 59 1) - 1))) + 1 from up_same _ _ _) dX12_word_86 ?_
        refine lv_iconst (v := 1) hx hb dX12_word_87 (by decide) ?_
        refine lv_isub hx hb dX12_word_88 ?_
        exact hR _ _ _ _ _ _ hm hI dX12_word_89
      · have hm := (if_neg c3).symm.trans hm
        refine lv_iconst (v := (-1)) hx hb dX12_word_29 (by decide) ?_
        exact hR _ _ _ _ _ _ hm hI dX12_word_30
def lb_X2_forget_2 (N n : Nat) (u1 : Int32) (K50 : (Sg → Int32 → Option (Int32 × Sg))) (rec : (Sg → Int32 → Option (Int32 × Sg))) (σ : Sg) (v2 : Int32) : Option (Int32 × Sg) := if 22 ≤ v2 then (K50 σ v2) else (gb (u1 + v2) 264 (gb (u1 + v2) 264 (gb (u1 + v2) 264 (gb (u1 + v2) 264 (rec (sg (sg (sg (sg σ 33 (ix (u1 + v2)) (-1)) 34 (ix (u1 + v2)) (-1)) 35 (ix (u1 + v2)) (-1)) 36 (ix (u1 + v2)) (-1)) (v2 + 1))))))
def lf_X2_forget_2 (N n : Nat) (u1 : Int32) (K50 : (Sg → Int32 → Option (Int32 × Sg))) : Nat → (Sg → Int32 → Option (Int32 × Sg))
  | 0 => fun _ _ => none
  | k + 1 => lb_X2_forget_2 N n u1 K50 (lf_X2_forget_2 N n u1 K50 k)
def f_X2_forget (N n : Nat) (σ : Sg) (p0 : Int32) : Option (Int32 × Sg) := lf_X2_forget_2 N n p0 (fun σ6 w7 => bd (f_J7_fill_53178_38 N n σ6 (-1)) (fun r8 σ9 => some (0, σ9))) N σ 0
set_option maxHeartbeats 4000000 in
set_option maxRecDepth 100000 in
theorem lp_X2_forget_2 {p : Program} {l : Launch} {e : Env} {s : State} {m : MethodId} {args : Array Value} {below : List Frame} {meth : Method} {c : Code} {Q : State → Prop} {A : Nat → Prop} {g : GG} {q N n : Nat} {out : Int32 × Sg} {u1 : Int32} {K50 : (Sg → Int32 → Option (Int32 × Sg))}
    (hC : CXv p l e (qR 1 23) s m args below meth c cX2_forget 3 RX2 g q n A Q (some out)) :
    ∀ (k : Nat) (σ : Sg) (v2 : Int32) (H : Heap) (locs : List Loc) (ls : Array Slot), lf_X2_forget_2 N n u1 K50 k σ v2 = some out → wI g q n σ A s.heap H locs → lv_has ls 3 [(0, .ref (ga g 32)), (1, .int u1), (2, .int v2)] → (∀ (σ : Sg) (v2 : Int32) (H : Heap) (locs : List Loc) (ls : Array Slot), K50 σ v2 = some out → wI g q n σ A s.heap H locs → lv_has ls 3 [(0, .ref (ga g 32))] → W p l e (qR 1 23) s m args below meth c H locs 0 0 Q (F0 m 50 ls [])) → W p l e (qR 1 23) s m args below meth c H locs 0 0 Q (F0 m 2 ls []) := by
  obtain ⟨hX, hK, hN, hZ, hA, hR⟩ := id hC
  have hx : p.tables.exec = Jvm.exec := hX.1
  have hb : c.code = cX2_forget := hX.2.1
  have hml : c.maxLocals = 3 := hX.2.2.1
  have hown : s.vm.findClass RX2 = some m.cls := hX.2.2.2.1
  have ht : ∀ w ∈ BIG, w.before args s = true := hX.2.2.2.2
  intro k
  induction k with
  | zero =>
    intro σ v2 H locs ls hm
    have hm : none = some out := hm
    exact nomatch hm
  | succ k ih =>
    intro σ v2 H locs ls hm hI hl hx50
    have hm : lb_X2_forget_2 N n u1 K50 (lf_X2_forget_2 N n u1 K50 k) σ v2 = some out := hm
    unfold lb_X2_forget_2 at hm
    refine lv_iload_n hx hb dX2_forget_2 rfl (lv_at hl 2 rfl) ?_
    refine lv_bipush (v := 22) hx hb dX2_forget_3 (by decide) ?_
    refine lv_icmp_ge (tgt := 50) hx hb dX2_forget_5 (by decide) (fun c1 => ?_) (fun c1 => ?_)
    · have hm := (if_pos c1).symm.trans hm
      exact hx50 σ v2 _ _ _ hm hI (lv_sub hl [0] rfl)
    · have hm := (if_neg c1).symm.trans hm
      refine lv_aload_n hx hb dX2_forget_8 rfl (lv_at hl 0 rfl) ?_
      refine gf_32_0 hx hb ht hK hI mw_100 (fun _ h9 => h9) hown dX2_forget_9 ?_
      refine lv_iload_n hx hb dX2_forget_12 rfl (lv_at hl 1 rfl) ?_
      refine lv_iload_n hx hb dX2_forget_13 rfl (lv_at hl 2 rfl) ?_
      refine lv_iadd hx hb dX2_forget_14 ?_
      refine lv_iconst (v := (-1)) hx hb dX2_forget_15 (by decide) ?_
      obtain ⟨g2, hm⟩ := gb_some hm
      refine sv_33 hx hb hK hI g2 dX2_forget_16 (fun H locs hI => ?_)
      refine lv_aload_n hx hb dX2_forget_17 rfl (lv_at hl 0 rfl) ?_
      refine gf_32_1 hx hb ht hK hI mw_101 (fun _ h9 => h9) hown dX2_forget_18 ?_
      refine lv_iload_n hx hb dX2_forget_21 rfl (lv_at hl 1 rfl) ?_
      refine lv_iload_n hx hb dX2_forget_22 rfl (lv_at hl 2 rfl) ?_
      refine lv_iadd hx hb dX2_forget_23 ?_
      refine lv_iconst (v := (-1)) hx hb dX2_forget_24 (by decide) ?_
      obtain ⟨g3, hm⟩ := gb_some hm
      refine sv_34 hx hb hK hI g3 dX2_forget_25 (fun H locs hI => ?_)
      refine lv_aload_n hx hb dX2_forget_26 rfl (lv_at hl 0 rfl) ?_
      refine gf_32_2 hx hb ht hK hI mw_102 (fun _ h9 => h9) hown dX2_forget_27 ?_
      refine lv_iload_n hx hb dX2_forget_30 rfl (lv_at hl 1 rfl) ?_
      refine lv_iload_n hx hb dX2_forget_31 rfl (lv_at hl 2 rfl) ?_
      refine lv_iadd hx hb dX2_forget_32 ?_
      refine lv_iconst (v := (-1)) hx hb dX2_forget_33 (by decide) ?_
      obtain ⟨g4, hm⟩ := gb_some hm
      refine sv_35 hx hb hK hI g4 dX2_forget_34 (fun H locs hI => ?_)
      refine lv_aload_n hx hb dX2_forget_35 rfl (lv_at hl 0 rfl) ?_
      refine gf_32_3 hx hb ht hK hI mw_103 (fun _ h9 => h9) hown dX2_forget_36 ?_
      refine lv_iload_n hx hb dX2_forget_39 rfl (lv_at hl 1 rfl) ?_
      refine lv_iload_n hx hb dX2_forget_40 rfl (lv_at hl 2 rfl) ?_
      refine lv_iadd hx hb dX2_forget_41 ?_
      refine lv_iconst (v := (-1)) hx hb dX2_forget_42 (by decide) ?_
      obtain ⟨g5, hm⟩ := gb_some hm
      refine sv_36 hx hb hK hI g5 dX2_forget_43 (fun H locs hI => ?_)
      refine lv_iinc (v := v2 + 1) (lv' := [(2, .int (v2 + 1)), (0, .ref (ga g 32)), (1, .int u1)]) hx hb dX2_forget_44 hl (k := 2) rfl (congrArg (fun z => v2 + z) (show Int32.ofInt 1 = 1 by decide)) (by decide) rfl (fun ls hl => ?_)
      refine lv_goto (tgt := 2) hx hb dX2_forget_47 (by decide) ?_
      exact ih (sg (sg (sg (sg σ 33 (ix (u1 + v2)) (-1)) 34 (ix (u1 + v2)) (-1)) 35 (ix (u1 + v2)) (-1)) 36 (ix (u1 + v2)) (-1)) (v2 + 1) _ _ _ hm hI (lv_sub hl [1, 2, 0] rfl) hx50
set_option maxHeartbeats 4000000 in
set_option maxRecDepth 100000 in
theorem c_X2_forget {l : Launch} {g : GG} {q : Nat} (N n : Nat) {σ : Sg} {p0 : Int32} {r : Int32} {σ' : Sg} (hm : f_X2_forget N n σ p0 = some (r, σ')) : CTv l yX2_forget cX2_forget 3 none 1 23 g q n [.ref (ga g 32), .int p0] σ σ' := by
  refine e_v (r := r) (by decide) (Nat.le_of_ble_eq_true rfl) ?_
  intro p e s m args below meth c A Q ls hC hl hI
  obtain ⟨hX, hK, hN, hZ, hA, hR⟩ := id hC
  have hx : p.tables.exec = Jvm.exec := hX.1
  have hb : c.code = cX2_forget := hX.2.1
  have hml : c.maxLocals = 3 := hX.2.2.1
  have hown : s.vm.findClass RX2 = some m.cls := hX.2.2.2.1
  have ht : ∀ w ∈ BIG, w.before args s = true := hX.2.2.2.2
  have hl : lv_has ls 3 [(0, .ref (ga g 32)), (1, .int p0)] := hl
  unfold f_X2_forget at hm
  refine lv_iconst (v := 0) hx hb dX2_forget_0 (by decide) ?_
  refine lv_istore_n (lv' := [(2, .int 0), (0, .ref (ga g 32)), (1, .int p0)]) hx hb dX2_forget_1 rfl hl (by decide) rfl (fun ls hl => ?_)
  refine lp_X2_forget_2 hC N _ _ _ _ _ hm hI (lv_sub hl [1, 2, 0] rfl) ?_
  intro σ6 w7 H locs ls hm hI hl
  refine lv_aload_n hx hb dX2_forget_50 rfl (lv_at hl 0 rfl) ?_
  refine gf_32_5 hx hb ht hK hI mw_105 (fun _ h9 => h9) hown dX2_forget_51 ?_
  refine lv_iconst (v := (-1)) hx hb dX2_forget_54 (by decide) ?_
  obtain ⟨r8, σ9, h10, hm⟩ := bd_some hm
  refine k_v hI hA (va_runS (As := [.ref (ga g 38), .int (-1)]) (rest := []) hX (c_J7_fill_53178_38 N n h10 _) (va_cwS 2 ht (in_S mw_117 mw_118 mw_88 mw_115) rfl rfl rfl pd_J7_fill_53178 ⟨Nat.le_of_ble_eq_true rfl, Nat.le_of_ble_eq_true rfl⟩) ⟨q_blind, q_to hI hK hN hZ hA⟩ rfl rfl hl.1 rfl (lv_room (Nat.le_of_ble_eq_true rfl)) dX2_forget_55 (by decide)) (fun H locs hI => ?_)
  exact hR _ _ _ _ _ hm hI dX2_forget_58
def lb_X5_readSet_4 (N n : Nat) (u1 : Int32) (K33 : (Sg → Int32 → Int32 → Option (Int32 × Sg))) (rec : (Sg → Int32 → Int32 → Option (Int32 × Sg))) (σ : Sg) (v2 : Int32) (v3 : Int32) : Option (Int32 × Sg) := gb u1 300 (if (σ 18 (ix u1)) ≤ v3 then (K33 σ v2 v3) else (gb v3 6 (gb u1 300 (rec σ (v2 ||| (1 <<< ((σ 19 (ix u1 * 6 + ix v3)) &&& 31))) (v3 + 1)))))
def lf_X5_readSet_4 (N n : Nat) (u1 : Int32) (K33 : (Sg → Int32 → Int32 → Option (Int32 × Sg))) : Nat → (Sg → Int32 → Int32 → Option (Int32 × Sg))
  | 0 => fun _ _ _ => none
  | k + 1 => lb_X5_readSet_4 N n u1 K33 (lf_X5_readSet_4 N n u1 K33 k)
def f_X5_readSet (N n : Nat) (σ : Sg) (p0 : Int32) : Option (Int32 × Sg) := lf_X5_readSet_4 N n p0 (fun σ5 w6 w7 => some (w6, σ5)) N σ 0 0
set_option maxHeartbeats 4000000 in
set_option maxRecDepth 100000 in
theorem lp_X5_readSet_4 {p : Program} {l : Launch} {e : Env} {s : State} {m : MethodId} {args : Array Value} {below : List Frame} {meth : Method} {c : Code} {Q : State → Prop} {A : Nat → Prop} {g : GG} {q N n : Nat} {out : Int32 × Sg} {u1 : Int32} {K33 : (Sg → Int32 → Int32 → Option (Int32 × Sg))}
    (hC : CXi p l e (qR 0 0) s m args below meth c cX5_readSet 4 RX5 g q n A Q (some out)) :
    ∀ (k : Nat) (σ : Sg) (v2 : Int32) (v3 : Int32) (H : Heap) (locs : List Loc) (ls : Array Slot), lf_X5_readSet_4 N n u1 K33 k σ v2 v3 = some out → wI g q n σ A s.heap H locs → lv_has ls 4 [(0, .ref (ga g 13)), (1, .int u1), (2, .int v2), (3, .int v3)] → (∀ (σ : Sg) (v2 : Int32) (v3 : Int32) (H : Heap) (locs : List Loc) (ls : Array Slot), K33 σ v2 v3 = some out → wI g q n σ A s.heap H locs → lv_has ls 4 [(2, .int v2)] → W p l e (qR 0 0) s m args below meth c H locs 0 0 Q (F0 m 33 ls [])) → W p l e (qR 0 0) s m args below meth c H locs 0 0 Q (F0 m 4 ls []) := by
  obtain ⟨hX, hK, hN, hZ, hA, hR⟩ := id hC
  have hx : p.tables.exec = Jvm.exec := hX.1
  have hb : c.code = cX5_readSet := hX.2.1
  have hml : c.maxLocals = 4 := hX.2.2.1
  have hown : s.vm.findClass RX5 = some m.cls := hX.2.2.2.1
  have ht : ∀ w ∈ BIG, w.before args s = true := hX.2.2.2.2
  intro k
  induction k with
  | zero =>
    intro σ v2 v3 H locs ls hm
    have hm : none = some out := hm
    exact nomatch hm
  | succ k ih =>
    intro σ v2 v3 H locs ls hm hI hl hx33
    have hm : lb_X5_readSet_4 N n u1 K33 (lf_X5_readSet_4 N n u1 K33 k) σ v2 v3 = some out := hm
    unfold lb_X5_readSet_4 at hm
    refine lv_iload_n hx hb dX5_readSet_4 rfl (lv_at hl 3 rfl) ?_
    refine lv_aload_n hx hb dX5_readSet_5 rfl (lv_at hl 0 rfl) ?_
    refine gf_13_4 hx hb ht hK hI mw_120 (fun _ h9 => h9) hown dX5_readSet_6 ?_
    refine lv_iload_n hx hb dX5_readSet_9 rfl (lv_at hl 1 rfl) ?_
    obtain ⟨g1, hm⟩ := gb_some hm
    refine ld_18 hx hb hK hI g1 (v := σ 18 (ix u1)) rfl dX5_readSet_10 ?_
    refine lv_icmp_ge (tgt := 33) hx hb dX5_readSet_11 (by decide) (fun c2 => ?_) (fun c2 => ?_)
    · have hm := (if_pos c2).symm.trans hm
      exact hx33 σ v2 v3 _ _ _ hm hI (lv_sub hl [2] rfl)
    · have hm := (if_neg c2).symm.trans hm
      refine lv_iload_n hx hb dX5_readSet_14 rfl (lv_at hl 2 rfl) ?_
      refine lv_iconst (v := 1) hx hb dX5_readSet_15 (by decide) ?_
      refine lv_aload_n hx hb dX5_readSet_16 rfl (lv_at hl 0 rfl) ?_
      refine gf_13_5 hx hb ht hK hI mw_121 (fun _ h9 => h9) hown dX5_readSet_17 ?_
      refine lv_iload_n hx hb dX5_readSet_20 rfl (lv_at hl 3 rfl) ?_
      obtain ⟨g3, hm⟩ := gb_some hm
      refine ld_19 hx hb hK hI g3 dX5_readSet_21 ?_
      refine lv_iload_n hx hb dX5_readSet_22 rfl (lv_at hl 1 rfl) ?_
      obtain ⟨g4, hm⟩ := gb_some hm
      refine ld_rd hx hb hK hI g3 g4 (v := σ 19 (ix u1 * 6 + ix v3)) rfl dX5_readSet_23 ?_
      refine lv_ishl hx hb dX5_readSet_24 ?_
      refine lv_ior hx hb dX5_readSet_25 ?_
      refine lv_istore_n (lv' := [(2, .int (v2 ||| (1 <<< ((σ 19 (ix u1 * 6 + ix v3)) &&& 31)))), (0, .ref (ga g 13)), (1, .int u1), (3, .int v3)]) hx hb dX5_readSet_26 rfl hl (by decide) rfl (fun ls hl => ?_)
      refine lv_iinc (v := v3 + 1) (lv' := [(3, .int (v3 + 1)), (2, .int (v2 ||| (1 <<< ((σ 19 (ix u1 * 6 + ix v3)) &&& 31)))), (0, .ref (ga g 13)), (1, .int u1)]) hx hb dX5_readSet_27 hl (k := 3) rfl (congrArg (fun z => v3 + z) (show Int32.ofInt 1 = 1 by decide)) (by decide) rfl (fun ls hl => ?_)
      refine lv_goto (tgt := 4) hx hb dX5_readSet_30 (by decide) ?_
      exact ih σ (v2 ||| (1 <<< ((σ 19 (ix u1 * 6 + ix v3)) &&& 31))) (v3 + 1) _ _ _ hm hI (lv_sub hl [2, 3, 1, 0] rfl) hx33
set_option maxHeartbeats 4000000 in
set_option maxRecDepth 100000 in
theorem c_X5_readSet {l : Launch} {g : GG} {q : Nat} (N n : Nat) {σ : Sg} {p0 : Int32} {r : Int32} {σ' : Sg} (hm : f_X5_readSet N n σ p0 = some (r, σ')) : CTi l yX5_readSet cX5_readSet 4 (some .int) 0 0 g q n [.ref (ga g 13), .int p0] σ r σ' := by
  refine e_i (r := r) (by decide) (Nat.le_of_ble_eq_true rfl) ?_
  intro p e s m args below meth c A Q ls hC hl hI
  obtain ⟨hX, hK, hN, hZ, hA, hR⟩ := id hC
  have hx : p.tables.exec = Jvm.exec := hX.1
  have hb : c.code = cX5_readSet := hX.2.1
  have hml : c.maxLocals = 4 := hX.2.2.1
  have hown : s.vm.findClass RX5 = some m.cls := hX.2.2.2.1
  have ht : ∀ w ∈ BIG, w.before args s = true := hX.2.2.2.2
  have hl : lv_has ls 4 [(0, .ref (ga g 13)), (1, .int p0)] := hl
  unfold f_X5_readSet at hm
  refine lv_iconst (v := 0) hx hb dX5_readSet_0 (by decide) ?_
  refine lv_istore_n (lv' := [(2, .int 0), (0, .ref (ga g 13)), (1, .int p0)]) hx hb dX5_readSet_1 rfl hl (by decide) rfl (fun ls hl => ?_)
  refine lv_iconst (v := 0) hx hb dX5_readSet_2 (by decide) ?_
  refine lv_istore_n (lv' := [(3, .int 0), (2, .int 0), (0, .ref (ga g 13)), (1, .int p0)]) hx hb dX5_readSet_3 rfl hl (by decide) rfl (fun ls hl => ?_)
  refine lp_X5_readSet_4 hC N _ _ _ _ _ _ hm hI (lv_sub hl [2, 3, 1, 0] rfl) ?_
  intro σ5 w6 w7 H locs ls hm hI hl
  refine lv_iload_n hx hb dX5_readSet_33 rfl (lv_at hl 0 rfl) ?_
  exact hR _ _ _ _ _ _ hm hI dX5_readSet_34
def f_X5_writtenSet (N n : Nat) (σ : Sg) (p0 : Int32) : Option (Int32 × Sg) := gb p0 300 (if (σ 14 (ix p0)) = 3 then (bd (f_X5_readSet N n σ p0) (fun r6 σ7 => some (r6, σ7))) else (gb p0 300 (if (σ 17 (ix p0)) = (-1) then (some (0, σ)) else (gb p0 300 (some (1 <<< ((σ 17 (ix p0)) &&& 31), σ))))))
set_option maxHeartbeats 4000000 in
set_option maxRecDepth 100000 in
theorem c_X5_writtenSet {l : Launch} {g : GG} {q : Nat} (N n : Nat) {σ : Sg} {p0 : Int32} {r : Int32} {σ' : Sg} (hm : f_X5_writtenSet N n σ p0 = some (r, σ')) : CTi l yX5_writtenSet cX5_writtenSet 2 (some .int) 1 23 g q n [.ref (ga g 13), .int p0] σ r σ' := by
  refine e_i (r := r) (by decide) (Nat.le_of_ble_eq_true rfl) ?_
  intro p e s m args below meth c A Q ls hC hl hI
  obtain ⟨hX, hK, hN, hZ, hA, hR⟩ := id hC
  have hx : p.tables.exec = Jvm.exec := hX.1
  have hb : c.code = cX5_writtenSet := hX.2.1
  have hml : c.maxLocals = 2 := hX.2.2.1
  have hown : s.vm.findClass RX5 = some m.cls := hX.2.2.2.1
  have ht : ∀ w ∈ BIG, w.before args s = true := hX.2.2.2.2
  have hl : lv_has ls 2 [(0, .ref (ga g 13)), (1, .int p0)] := hl
  unfold f_X5_writtenSet at hm
  refine lv_aload_n hx hb dX5_writtenSet_0 rfl (lv_at hl 0 rfl) ?_
  refine gf_13_0 hx hb ht hK hI mw_133 (fun _ h9 => h9) hown dX5_writtenSet_1 ?_
  refine lv_iload_n hx hb dX5_writtenSet_4 rfl (lv_at hl 1 rfl) ?_
  obtain ⟨g1, hm⟩ := gb_some hm
  refine ld_14 hx hb hK hI g1 (v := σ 14 (ix p0)) rfl dX5_writtenSet_5 ?_
  refine lv_iconst (v := 3) hx hb dX5_writtenSet_6 (by decide) ?_
  refine lv_icmp_ne (tgt := 16) hx hb dX5_writtenSet_7 (by decide) (fun c2 => ?_) (fun c2 => ?_)
  · have hm := (if_neg c2).symm.trans hm
    refine lv_aload_n hx hb dX5_writtenSet_16 rfl (lv_at hl 0 rfl) ?_
    refine gf_13_3 hx hb ht hK hI mw_134 (fun _ h9 => h9) hown dX5_writtenSet_17 ?_
    refine lv_iload_n hx hb dX5_writtenSet_20 rfl (lv_at hl 1 rfl) ?_
    obtain ⟨g3, hm⟩ := gb_some hm
    refine ld_17 hx hb hK hI g3 (v := σ 17 (ix p0)) rfl dX5_writtenSet_21 ?_
    refine lv_iconst (v := (-1)) hx hb dX5_writtenSet_22 (by decide) ?_
    refine lv_icmp_ne (tgt := 30) hx hb dX5_writtenSet_23 (by decide) (fun c4 => ?_) (fun c4 => ?_)
    · have hm := (if_neg c4).symm.trans hm
      refine lv_iconst (v := 1) hx hb dX5_writtenSet_30 (by decide) ?_
      refine lv_aload_n hx hb dX5_writtenSet_31 rfl (lv_at hl 0 rfl) ?_
      refine gf_13_3 hx hb ht hK hI mw_134 (fun _ h9 => h9) hown dX5_writtenSet_32 ?_
      refine lv_iload_n hx hb dX5_writtenSet_35 rfl (lv_at hl 1 rfl) ?_
      obtain ⟨g5, hm⟩ := gb_some hm
      refine ld_17 hx hb hK hI g5 (v := σ 17 (ix p0)) rfl dX5_writtenSet_36 ?_
      refine lv_ishl hx hb dX5_writtenSet_37 ?_
      exact hR _ _ _ _ _ _ hm hI dX5_writtenSet_38
    · have hm := (if_pos c4).symm.trans hm
      refine lv_iconst (v := 0) hx hb dX5_writtenSet_26 (by decide) ?_
      refine lv_goto (tgt := 38) hx hb dX5_writtenSet_27 (by decide) ?_
      exact hR _ _ _ _ _ _ hm hI dX5_writtenSet_38
  · have hm := (if_pos c2).symm.trans hm
    refine lv_aload_n hx hb dX5_writtenSet_10 rfl (lv_at hl 0 rfl) ?_
    refine lv_iload_n hx hb dX5_writtenSet_11 rfl (lv_at hl 1 rfl) ?_
    obtain ⟨r6, σ7, h8, hm⟩ := bd_some hm
    refine k_i hI hA (va_runV (As := [.int p0]) (rest := []) hX (c_X5_readSet N n h8 _) (cwV 1 ht (in_V mw_135 mw_136 mw_137 mw_138 mw_119) rfl rfl rfl pd_X5_readSet ⟨Nat.le_of_ble_eq_true rfl, Nat.le_of_ble_eq_true rfl⟩) ⟨q_blind, va_recv hK hI.1 (ci := 4) (q0 := 13) rfl rfl, q_to hI hK hN hZ hA⟩ rfl rfl hl.1 rfl (lv_room (Nat.le_of_ble_eq_true rfl)) dX5_writtenSet_12 (by decide)) (fun H locs hI => ?_)
    exact hR _ _ _ _ _ _ hm hI dX5_writtenSet_15
def lb_X2_widen_3 (N n : Nat) (u1 : Int32) (u2 : Int32) (u3 : Int32) (K58 : (Sg → Int32 → Option (Int32 × Sg))) (rec : (Sg → Int32 → Option (Int32 × Sg))) (σ : Sg) (v4 : Int32) : Option (Int32 × Sg) := if 22 ≤ v4 then (K58 σ v4) else (if ((u3 >>> (v4 &&& 31)) &&& 1) = 0 then (rec σ (v4 + 1)) else (gb (u1 + v4) 264 (gb (u1 + v4) 264 (if (σ 33 (ix (u1 + v4))) = (-1) then (gb (u1 + v4) 264 (rec (sg (sg σ 34 (ix (u1 + v4)) u2) 33 (ix (u1 + v4)) u2) (v4 + 1))) else (rec (sg σ 34 (ix (u1 + v4)) u2) (v4 + 1))))))
def lf_X2_widen_3 (N n : Nat) (u1 : Int32) (u2 : Int32) (u3 : Int32) (K58 : (Sg → Int32 → Option (Int32 × Sg))) : Nat → (Sg → Int32 → Option (Int32 × Sg))
  | 0 => fun _ _ => none
  | k + 1 => lb_X2_widen_3 N n u1 u2 u3 K58 (lf_X2_widen_3 N n u1 u2 u3 K58 k)
def f_X2_widen (N n : Nat) (σ : Sg) (p0 : Int32) (p1 : Int32) (p2 : Int32) : Option (Int32 × Sg) := lf_X2_widen_3 N n p0 p1 p2 (fun σ7 w8 => some (0, σ7)) N σ 0
set_option maxHeartbeats 4000000 in
set_option maxRecDepth 100000 in
theorem lp_X2_widen_3 {p : Program} {l : Launch} {e : Env} {s : State} {m : MethodId} {args : Array Value} {below : List Frame} {meth : Method} {c : Code} {Q : State → Prop} {A : Nat → Prop} {g : GG} {q N n : Nat} {out : Int32 × Sg} {u1 : Int32} {u2 : Int32} {u3 : Int32} {K58 : (Sg → Int32 → Option (Int32 × Sg))}
    (hC : CXv p l e (qR 0 0) s m args below meth c cX2_widen 5 RX2 g q n A Q (some out)) :
    ∀ (k : Nat) (σ : Sg) (v4 : Int32) (H : Heap) (locs : List Loc) (ls : Array Slot), lf_X2_widen_3 N n u1 u2 u3 K58 k σ v4 = some out → wI g q n σ A s.heap H locs → lv_has ls 5 [(0, .ref (ga g 32)), (1, .int u1), (2, .int u2), (3, .int u3), (4, .int v4)] → (∀ (σ : Sg) (v4 : Int32) (H : Heap) (locs : List Loc) (ls : Array Slot), K58 σ v4 = some out → wI g q n σ A s.heap H locs → lv_has ls 5 [] → W p l e (qR 0 0) s m args below meth c H locs 0 0 Q (F0 m 58 ls [])) → W p l e (qR 0 0) s m args below meth c H locs 0 0 Q (F0 m 3 ls []) := by
  obtain ⟨hX, hK, hN, hZ, hA, hR⟩ := id hC
  have hx : p.tables.exec = Jvm.exec := hX.1
  have hb : c.code = cX2_widen := hX.2.1
  have hml : c.maxLocals = 5 := hX.2.2.1
  have hown : s.vm.findClass RX2 = some m.cls := hX.2.2.2.1
  have ht : ∀ w ∈ BIG, w.before args s = true := hX.2.2.2.2
  intro k
  induction k with
  | zero =>
    intro σ v4 H locs ls hm
    have hm : none = some out := hm
    exact nomatch hm
  | succ k ih =>
    intro σ v4 H locs ls hm hI hl hx58
    have hm : lb_X2_widen_3 N n u1 u2 u3 K58 (lf_X2_widen_3 N n u1 u2 u3 K58 k) σ v4 = some out := hm
    unfold lb_X2_widen_3 at hm
    refine lv_iload hx hb dX2_widen_3 (lv_at hl 4 rfl) ?_
    refine lv_bipush (v := 22) hx hb dX2_widen_5 (by decide) ?_
    refine lv_icmp_ge (tgt := 58) hx hb dX2_widen_7 (by decide) (fun c1 => ?_) (fun c1 => ?_)
    · have hm := (if_pos c1).symm.trans hm
      exact hx58 σ v4 _ _ _ hm hI (lv_sub hl [] rfl)
    · have hm := (if_neg c1).symm.trans hm
      refine lv_iload_n hx hb dX2_widen_10 rfl (lv_at hl 3 rfl) ?_
      refine lv_iload hx hb dX2_widen_11 (lv_at hl 4 rfl) ?_
      refine lv_ishr hx hb dX2_widen_13 ?_
      refine lv_iconst (v := 1) hx hb dX2_widen_14 (by decide) ?_
      refine lv_iand hx hb dX2_widen_15 ?_
      refine lv_if_eq (tgt := 52) hx hb dX2_widen_16 (by decide) (fun c2 => ?_) (fun c2 => ?_)
      · have hm := (if_pos c2).symm.trans hm
        refine lv_iinc (v := v4 + 1) (lv' := [(4, .int (v4 + 1)), (0, .ref (ga g 32)), (1, .int u1), (2, .int u2), (3, .int u3)]) hx hb dX2_widen_52 hl (k := 4) rfl (congrArg (fun z => v4 + z) (show Int32.ofInt 1 = 1 by decide)) (by decide) rfl (fun ls hl => ?_)
        refine lv_goto (tgt := 3) hx hb dX2_widen_55 (by decide) ?_
        exact ih σ (v4 + 1) _ _ _ hm hI (lv_sub hl [1, 2, 3, 4, 0] rfl) hx58
      · have hm := (if_neg c2).symm.trans hm
        refine lv_aload_n hx hb dX2_widen_19 rfl (lv_at hl 0 rfl) ?_
        refine gf_32_1 hx hb ht hK hI mw_101 (fun _ h9 => h9) hown dX2_widen_20 ?_
        refine lv_iload_n hx hb dX2_widen_23 rfl (lv_at hl 1 rfl) ?_
        refine lv_iload hx hb dX2_widen_24 (lv_at hl 4 rfl) ?_
        refine lv_iadd hx hb dX2_widen_26 ?_
        refine lv_iload_n hx hb dX2_widen_27 rfl (lv_at hl 2 rfl) ?_
        obtain ⟨g3, hm⟩ := gb_some hm
        refine sv_34 hx hb hK hI g3 dX2_widen_28 (fun H locs hI => ?_)
        refine lv_aload_n hx hb dX2_widen_29 rfl (lv_at hl 0 rfl) ?_
        refine gf_32_0 hx hb ht hK hI mw_100 (fun _ h9 => h9) hown dX2_widen_30 ?_
        refine lv_iload_n hx hb dX2_widen_33 rfl (lv_at hl 1 rfl) ?_
        refine lv_iload hx hb dX2_widen_34 (lv_at hl 4 rfl) ?_
        refine lv_iadd hx hb dX2_widen_36 ?_
        obtain ⟨g4, hm⟩ := gb_some hm
        refine ld_33 hx hb hK hI g4 (v := σ 33 (ix (u1 + v4))) rfl dX2_widen_37 ?_
        refine lv_iconst (v := (-1)) hx hb dX2_widen_38 (by decide) ?_
        refine lv_icmp_ne (tgt := 52) hx hb dX2_widen_39 (by decide) (fun c5 => ?_) (fun c5 => ?_)
        · have hm := (if_neg c5).symm.trans hm
          refine lv_iinc (v := v4 + 1) (lv' := [(4, .int (v4 + 1)), (0, .ref (ga g 32)), (1, .int u1), (2, .int u2), (3, .int u3)]) hx hb dX2_widen_52 hl (k := 4) rfl (congrArg (fun z => v4 + z) (show Int32.ofInt 1 = 1 by decide)) (by decide) rfl (fun ls hl => ?_)
          refine lv_goto (tgt := 3) hx hb dX2_widen_55 (by decide) ?_
          exact ih (sg σ 34 (ix (u1 + v4)) u2) (v4 + 1) _ _ _ hm hI (lv_sub hl [1, 2, 3, 4, 0] rfl) hx58
        · have hm := (if_pos c5).symm.trans hm
          refine lv_aload_n hx hb dX2_widen_42 rfl (lv_at hl 0 rfl) ?_
          refine gf_32_0 hx hb ht hK hI mw_100 (fun _ h9 => h9) hown dX2_widen_43 ?_
          refine lv_iload_n hx hb dX2_widen_46 rfl (lv_at hl 1 rfl) ?_
          refine lv_iload hx hb dX2_widen_47 (lv_at hl 4 rfl) ?_
          refine lv_iadd hx hb dX2_widen_49 ?_
          refine lv_iload_n hx hb dX2_widen_50 rfl (lv_at hl 2 rfl) ?_
          obtain ⟨g6, hm⟩ := gb_some hm
          refine sv_33 hx hb hK hI g6 dX2_widen_51 (fun H locs hI => ?_)
          refine lv_iinc (v := v4 + 1) (lv' := [(4, .int (v4 + 1)), (0, .ref (ga g 32)), (1, .int u1), (2, .int u2), (3, .int u3)]) hx hb dX2_widen_52 hl (k := 4) rfl (congrArg (fun z => v4 + z) (show Int32.ofInt 1 = 1 by decide)) (by decide) rfl (fun ls hl => ?_)
          refine lv_goto (tgt := 3) hx hb dX2_widen_55 (by decide) ?_
          exact ih (sg (sg σ 34 (ix (u1 + v4)) u2) 33 (ix (u1 + v4)) u2) (v4 + 1) _ _ _ hm hI (lv_sub hl [1, 2, 3, 4, 0] rfl) hx58
set_option maxHeartbeats 4000000 in
set_option maxRecDepth 100000 in
theorem c_X2_widen {l : Launch} {g : GG} {q : Nat} (N n : Nat) {σ : Sg} {p0 : Int32} {p1 : Int32} {p2 : Int32} {r : Int32} {σ' : Sg} (hm : f_X2_widen N n σ p0 p1 p2 = some (r, σ')) : CTv l yX2_widen cX2_widen 5 none 0 0 g q n [.ref (ga g 32), .int p0, .int p1, .int p2] σ σ' := by
  refine e_v (r := r) (by decide) (Nat.le_of_ble_eq_true rfl) ?_
  intro p e s m args below meth c A Q ls hC hl hI
  obtain ⟨hX, hK, hN, hZ, hA, hR⟩ := id hC
  have hx : p.tables.exec = Jvm.exec := hX.1
  have hb : c.code = cX2_widen := hX.2.1
  have hml : c.maxLocals = 5 := hX.2.2.1
  have hown : s.vm.findClass RX2 = some m.cls := hX.2.2.2.1
  have ht : ∀ w ∈ BIG, w.before args s = true := hX.2.2.2.2
  have hl : lv_has ls 5 [(0, .ref (ga g 32)), (1, .int p0), (2, .int p1), (3, .int p2)] := hl
  unfold f_X2_widen at hm
  refine lv_iconst (v := 0) hx hb dX2_widen_0 (by decide) ?_
  refine lv_istore (lv' := [(4, .int 0), (0, .ref (ga g 32)), (1, .int p0), (2, .int p1), (3, .int p2)]) hx hb dX2_widen_1 hl (by decide) rfl (fun ls hl => ?_)
  refine lp_X2_widen_3 hC N _ _ _ _ _ hm hI (lv_sub hl [1, 2, 3, 4, 0] rfl) ?_
  intro σ7 w8 H locs ls hm hI hl
  exact hR _ _ _ _ _ hm hI dX2_widen_58
