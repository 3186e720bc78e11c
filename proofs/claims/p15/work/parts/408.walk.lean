def lb_X12_codes_17 (N n : Nat) (u1 : Int32) (K99 : (Sg → Int32 → Option (Int32 × Sg))) (rec : (Sg → Int32 → Option (Int32 × Sg))) (σ : Sg) (v2 : Int32) : Option (Int32 × Sg) := gb u1 12 (if (σ 61 (ix u1)) ≤ v2 then (K99 σ v2) else (if (σ 59 12) ≤ 0 then (rec σ (v2 + 1)) else (gb 0 301 (if (((σ 76 (ix 0)) >>> (v2 &&& 31)) &&& 1) = 1 then (gb u1 12 (if (σ 60 (ix u1)) ≤ v2 then (bd (f_X12_written N n σ v2) (fun r9 σ10 => bd (f_X12_emit N n σ10 0 r9 0 0 0) (fun r12 σ13 => bd (f_X12_saved N n σ13 v2) (fun r15 σ16 => rec σ16 (v2 + 1))))) else (bd (f_X12_written N n σ v2) (fun r18 σ19 => bd (f_X12_emit N n σ19 11 r18 v2 0 0) (fun r21 σ22 => bd (f_X12_saved N n σ22 v2) (fun r24 σ25 => rec σ25 (v2 + 1))))))) else (rec σ (v2 + 1))))))
def lf_X12_codes_17 (N n : Nat) (u1 : Int32) (K99 : (Sg → Int32 → Option (Int32 × Sg))) : Nat → (Sg → Int32 → Option (Int32 × Sg))
  | 0 => fun _ _ => none
  | k + 1 => lb_X12_codes_17 N n u1 K99 (lf_X12_codes_17 N n u1 K99 k)
def lb_X12_codes_101 (N n : Nat) (u1 : Int32) (K137 : (Sg → Int32 → Option (Int32 × Sg))) (rec : (Sg → Int32 → Option (Int32 × Sg))) (σ : Sg) (v2 : Int32) : Option (Int32 × Sg) := if (σ 59 12) ≤ v2 then (K137 σ v2) else (gb u1 12 (gb v2 301 (bd (f_X12_codePlace N n (sg σ 87 (ix v2) ((σ 59 30) - (σ 85 (ix u1)))) v2) (fun r32 σ33 => rec σ33 (v2 + 1)))))
def lf_X12_codes_101 (N n : Nat) (u1 : Int32) (K137 : (Sg → Int32 → Option (Int32 × Sg))) : Nat → (Sg → Int32 → Option (Int32 × Sg))
  | 0 => fun _ _ => none
  | k + 1 => lb_X12_codes_101 N n u1 K137 (lf_X12_codes_101 N n u1 K137 k)
def lb_X12_codes_181 (N n : Nat)  (K272 : (Sg → Int32 → Option (Int32 × Sg))) (rec : (Sg → Int32 → Option (Int32 × Sg))) (σ : Sg) (v2 : Int32) : Option (Int32 × Sg) := if (σ 59 30) ≤ v2 then (K272 σ v2) else (gb (5 * v2) 10000 (if (σ 84 (ix (5 * v2))) = 4 then (gb ((5 * v2) + 1) 10000 (gb (σ 84 (ix ((5 * v2) + 1))) 301 (gb ((5 * v2) + 1) 10000 (rec (sg σ 84 (ix ((5 * v2) + 1)) (σ 87 (ix (σ 84 (ix ((5 * v2) + 1)))))) (v2 + 1))))) else (gb (5 * v2) 10000 (if (σ 84 (ix (5 * v2))) = 5 then (gb ((5 * v2) + 2) 10000 (gb (σ 84 (ix ((5 * v2) + 2))) 301 (gb ((5 * v2) + 2) 10000 (rec (sg σ 84 (ix ((5 * v2) + 2)) (σ 87 (ix (σ 84 (ix ((5 * v2) + 2)))))) (v2 + 1))))) else (rec σ (v2 + 1))))))
def lf_X12_codes_181 (N n : Nat)  (K272 : (Sg → Int32 → Option (Int32 × Sg))) : Nat → (Sg → Int32 → Option (Int32 × Sg))
  | 0 => fun _ _ => none
  | k + 1 => lb_X12_codes_181 N n  K272 (lf_X12_codes_181 N n  K272 k)
def f_X12_codes (N n : Nat) (σ : Sg) (p0 : Int32) : Option (Int32 × Sg) := gb p0 12 (lf_X12_codes_17 N n p0 (fun σ27 w28 => lf_X12_codes_101 N n p0 (fun σ35 w36 => gb p0 12 (gb (σ35 59 12) 301 (gb p0 12 (gb p0 12 (gb p0 12 (lf_X12_codes_181 N n  (fun σ53 w54 => some (0, σ53)) N (sg (sg σ35 87 (ix (σ35 59 12)) ((σ35 59 30) - (σ35 85 (ix p0)))) 86 (ix p0) ((σ35 59 30) - (σ35 85 (ix p0)))) (σ35 85 (ix p0)))))))) N σ27 0) N (sg (sg σ 59 35 p0) 85 (ix p0) (σ 59 30)) 0)
set_option maxHeartbeats 4000000 in
set_option maxRecDepth 100000 in
theorem lp_X12_codes_17 {p : Program} {l : Launch} {e : Env} {s : State} {m : MethodId} {args : Array Value} {below : List Frame} {meth : Method} {c : Code} {Q : State → Prop} {A : Nat → Prop} {g : GG} {q N n : Nat} {out : Int32 × Sg} {u1 : Int32} {K99 : (Sg → Int32 → Option (Int32 × Sg))}
    (hC : CXv p l e (qR 4 100) s m args below meth c cX12_codes 3 RX12 g q n A Q (some out)) :
    ∀ (k : Nat) (σ : Sg) (v2 : Int32) (H : Heap) (locs : List Loc) (ls : Array Slot), lf_X12_codes_17 N n u1 K99 k σ v2 = some out → wI g q n σ A s.heap H locs → lv_has ls 3 [(0, .ref (ga g 59)), (1, .int u1), (2, .int v2)] → (∀ (σ : Sg) (v2 : Int32) (H : Heap) (locs : List Loc) (ls : Array Slot), K99 σ v2 = some out → wI g q n σ A s.heap H locs → lv_has ls 3 [(0, .ref (ga g 59)), (1, .int u1)] → W p l e (qR 4 100) s m args below meth c H locs 0 0 Q (F0 m 99 ls [])) → W p l e (qR 4 100) s m args below meth c H locs 0 0 Q (F0 m 17 ls []) := by
  obtain ⟨hX, hK, hN, hZ, hA, hR⟩ := id hC
  have hx : p.tables.exec = Jvm.exec := hX.1
  have hb : c.code = cX12_codes := hX.2.1
  have hml : c.maxLocals = 3 := hX.2.2.1
  have hown : s.vm.findClass RX12 = some m.cls := hX.2.2.2.1
  have ht : ∀ w ∈ BIG, w.before args s = true := hX.2.2.2.2
  intro k
  induction k with
  | zero =>
    intro σ v2 H locs ls hm
    have hm : none = some out := hm
    exact nomatch hm
  | succ k ih =>
    intro σ v2 H locs ls hm hI hl hx99
    have hm : lb_X12_codes_17 N n u1 K99 (lf_X12_codes_17 N n u1 K99 k) σ v2 = some out := hm
    unfold lb_X12_codes_17 at hm
    refine lv_iload_n hx hb dX12_codes_17 rfl (lv_at hl 2 rfl) ?_
    refine lv_aload_n hx hb dX12_codes_18 rfl (lv_at hl 0 rfl) ?_
    refine gf_59_3 hx hb ht hK hI mw_756 (fun _ h9 => h9) hown dX12_codes_19 ?_
    refine lv_iload_n hx hb dX12_codes_22 rfl (lv_at hl 1 rfl) ?_
    obtain ⟨g2, hm⟩ := gb_some hm
    refine ld_61 hx hb hK hI g2 (v := σ 61 (ix u1)) rfl dX12_codes_23 ?_
    refine lv_icmp_ge (tgt := 99) hx hb dX12_codes_24 (by decide) (fun c3 => ?_) (fun c3 => ?_)
    · have hm := (if_pos c3).symm.trans hm
      exact hx99 σ v2 _ _ _ hm hI (lv_sub hl [0, 1] rfl)
    · have hm := (if_neg c3).symm.trans hm
      refine lv_aload_n hx hb dX12_codes_27 rfl (lv_at hl 0 rfl) ?_
      refine gf_59_12 hx hb ht hK hI (v := σ 59 12) rfl mw_888 (fun _ h9 => h9) hown dX12_codes_28 ?_
      refine lv_if_le (tgt := 93) hx hb dX12_codes_31 (by decide) (fun c4 => ?_) (fun c4 => ?_)
      · have hm := (if_pos c4).symm.trans hm
        refine lv_iinc (v := v2 + 1) (lv' := [(2, .int (v2 + 1)), (0, .ref (ga g 59)), (1, .int u1)]) hx hb dX12_codes_93 hl (k := 2) rfl (congrArg (fun z => v2 + z) (show Int32.ofInt 1 = 1 by decide)) (by decide) rfl (fun ls hl => ?_)
        refine lv_goto (tgt := 17) hx hb dX12_codes_96 (by decide) ?_
        exact ih σ (v2 + 1) _ _ _ hm hI (lv_sub hl [1, 2, 0] rfl) hx99
      · have hm := (if_neg c4).symm.trans hm
        refine lv_aload_n hx hb dX12_codes_34 rfl (lv_at hl 0 rfl) ?_
        refine gf_59_21 hx hb ht hK hI mw_771 (fun _ h9 => h9) hown dX12_codes_35 ?_
        refine lv_iconst (v := 0) hx hb dX12_codes_38 (by decide) ?_
        obtain ⟨g5, hm⟩ := gb_some hm
        refine ld_76 hx hb hK hI g5 (v := σ 76 (ix 0)) rfl dX12_codes_39 ?_
        refine lv_iload_n hx hb dX12_codes_40 rfl (lv_at hl 2 rfl) ?_
        refine lv_ishr hx hb dX12_codes_41 ?_
        refine lv_iconst (v := 1) hx hb dX12_codes_42 (by decide) ?_
        refine lv_iand hx hb dX12_codes_43 ?_
        refine lv_iconst (v := 1) hx hb dX12_codes_44 (by decide) ?_
        refine lv_icmp_ne (tgt := 93) hx hb dX12_codes_45 (by decide) (fun c6 => ?_) (fun c6 => ?_)
        · have hm := (if_neg c6).symm.trans hm
          refine lv_iinc (v := v2 + 1) (lv' := [(2, .int (v2 + 1)), (0, .ref (ga g 59)), (1, .int u1)]) hx hb dX12_codes_93 hl (k := 2) rfl (congrArg (fun z => v2 + z) (show Int32.ofInt 1 = 1 by decide)) (by decide) rfl (fun ls hl => ?_)
          refine lv_goto (tgt := 17) hx hb dX12_codes_96 (by decide) ?_
          exact ih σ (v2 + 1) _ _ _ hm hI (lv_sub hl [1, 2, 0] rfl) hx99
        · have hm := (if_pos c6).symm.trans hm
          refine lv_iload_n hx hb dX12_codes_48 rfl (lv_at hl 2 rfl) ?_
          refine lv_aload_n hx hb dX12_codes_49 rfl (lv_at hl 0 rfl) ?_
          refine gf_59_2 hx hb ht hK hI mw_755 (fun _ h9 => h9) hown dX12_codes_50 ?_
          refine lv_iload_n hx hb dX12_codes_53 rfl (lv_at hl 1 rfl) ?_
          obtain ⟨g7, hm⟩ := gb_some hm
          refine ld_60 hx hb hK hI g7 (v := σ 60 (ix u1)) rfl dX12_codes_54 ?_
          refine lv_icmp_ge (tgt := 75) hx hb dX12_codes_55 (by decide) (fun c8 => ?_) (fun c8 => ?_)
          · have hm := (if_pos c8).symm.trans hm
            refine lv_aload_n hx hb dX12_codes_75 rfl (lv_at hl 0 rfl) ?_
            refine lv_iconst (v := 0) hx hb dX12_codes_76 (by decide) ?_
            refine lv_aload_n hx hb dX12_codes_77 rfl (lv_at hl 0 rfl) ?_
            refine lv_iload_n hx hb dX12_codes_78 rfl (lv_at hl 2 rfl) ?_
            obtain ⟨r9, σ10, h11, hm⟩ := bd_some hm
            refine k_i hI hA (va_runV (As := [.int v2]) (rest := [.int 0, .ref (ga g 59)]) hX (c_X12_written N n h11 _) (cwV 1 ht (in_V mw_971 mw_972 mw_973 mw_861 mw_959) rfl rfl rfl pd_X12_written ⟨Nat.le_of_ble_eq_true rfl, Nat.le_of_ble_eq_true rfl⟩) ⟨q_blind, va_recv hK hI.1 (ci := 11) (q0 := 59) rfl rfl, q_to hI hK hN hZ hA⟩ rfl rfl hl.1 rfl (lv_room (Nat.le_of_ble_eq_true rfl)) dX12_codes_79 (by decide)) (fun H locs hI => ?_)
            refine lv_iconst (v := 0) hx hb dX12_codes_82 (by decide) ?_
            refine lv_iconst (v := 0) hx hb dX12_codes_83 (by decide) ?_
            refine lv_iconst (v := 0) hx hb dX12_codes_84 (by decide) ?_
            obtain ⟨r12, σ13, h14, hm⟩ := bd_some hm
            refine k_v hI hA (va_runV (As := [.int 0, .int r9, .int 0, .int 0, .int 0]) (rest := []) hX (c_X12_emit N n h14 _) (cwV 5 ht (in_V mw_956 mw_957 mw_958 mw_861 mw_943) rfl rfl rfl pd_X12_emit ⟨Nat.le_of_ble_eq_true rfl, Nat.le_of_ble_eq_true rfl⟩) ⟨q_blind, va_recv hK hI.1 (ci := 11) (q0 := 59) rfl rfl, q_to hI hK hN hZ hA⟩ rfl rfl hl.1 rfl (lv_room (Nat.le_of_ble_eq_true rfl)) dX12_codes_85 (by decide)) (fun H locs hI => ?_)
            refine lv_aload_n hx hb dX12_codes_88 rfl (lv_at hl 0 rfl) ?_
            refine lv_iload_n hx hb dX12_codes_89 rfl (lv_at hl 2 rfl) ?_
            obtain ⟨r15, σ16, h17, hm⟩ := bd_some hm
            refine k_v hI hA (va_runV (As := [.int v2]) (rest := []) hX (c_X12_saved N n h17 _) (cwV 1 ht (in_V mw_974 mw_975 mw_976 mw_861 mw_960) rfl rfl rfl pd_X12_saved ⟨Nat.le_of_ble_eq_true rfl, Nat.le_of_ble_eq_true rfl⟩) ⟨q_blind, va_recv hK hI.1 (ci := 11) (q0 := 59) rfl rfl, q_to hI hK hN hZ hA⟩ rfl rfl hl.1 rfl (lv_room (Nat.le_of_ble_eq_true rfl)) dX12_codes_90 (by decide)) (fun H locs hI => ?_)
            refine lv_iinc (v := v2 + 1) (lv' := [(2, .int (v2 + 1)), (0, .ref (ga g 59)), (1, .int u1)]) hx hb dX12_codes_93 hl (k := 2) rfl (congrArg (fun z => v2 + z) (show Int32.ofInt 1 = 1 by decide)) (by decide) rfl (fun ls hl => ?_)
            refine lv_goto (tgt := 17) hx hb dX12_codes_96 (by decide) ?_
            exact ih σ16 (v2 + 1) _ _ _ hm hI (lv_sub hl [1, 2, 0] rfl) hx99
          · have hm := (if_neg c8).symm.trans hm
            refine lv_aload_n hx hb dX12_codes_58 rfl (lv_at hl 0 rfl) ?_
            refine lv_bipush (v := 11) hx hb dX12_codes_59 (by decide) ?_
            refine lv_aload_n hx hb dX12_codes_61 rfl (lv_at hl 0 rfl) ?_
            refine lv_iload_n hx hb dX12_codes_62 rfl (lv_at hl 2 rfl) ?_
            obtain ⟨r18, σ19, h20, hm⟩ := bd_some hm
            refine k_i hI hA (va_runV (As := [.int v2]) (rest := [.int 11, .ref (ga g 59)]) hX (c_X12_written N n h20 _) (cwV 1 ht (in_V mw_971 mw_972 mw_973 mw_861 mw_959) rfl rfl rfl pd_X12_written ⟨Nat.le_of_ble_eq_true rfl, Nat.le_of_ble_eq_true rfl⟩) ⟨q_blind, va_recv hK hI.1 (ci := 11) (q0 := 59) rfl rfl, q_to hI hK hN hZ hA⟩ rfl rfl hl.1 rfl (lv_room (Nat.le_of_ble_eq_true rfl)) dX12_codes_63 (by decide)) (fun H locs hI => ?_)
            refine lv_iload_n hx hb dX12_codes_66 rfl (lv_at hl 2 rfl) ?_
            refine lv_iconst (v := 0) hx hb dX12_codes_67 (by decide) ?_
            refine lv_iconst (v := 0) hx hb dX12_codes_68 (by decide) ?_
            obtain ⟨r21, σ22, h23, hm⟩ := bd_some hm
            refine k_v hI hA (va_runV (As := [.int 11, .int r18, .int v2, .int 0, .int 0]) (rest := []) hX (c_X12_emit N n h23 _) (cwV 5 ht (in_V mw_956 mw_957 mw_958 mw_861 mw_943) rfl rfl rfl pd_X12_emit ⟨Nat.le_of_ble_eq_true rfl, Nat.le_of_ble_eq_true rfl⟩) ⟨q_blind, va_recv hK hI.1 (ci := 11) (q0 := 59) rfl rfl, q_to hI hK hN hZ hA⟩ rfl rfl hl.1 rfl (lv_room (Nat.le_of_ble_eq_true rfl)) dX12_codes_69 (by decide)) (fun H locs hI => ?_)
            refine lv_goto (tgt := 88) hx hb dX12_codes_72 (by decide) ?_
            refine lv_aload_n hx hb dX12_codes_88 rfl (lv_at hl 0 rfl) ?_
            refine lv_iload_n hx hb dX12_codes_89 rfl (lv_at hl 2 rfl) ?_
            obtain ⟨r24, σ25, h26, hm⟩ := bd_some hm
            refine k_v hI hA (va_runV (As := [.int v2]) (rest := []) hX (c_X12_saved N n h26 _) (cwV 1 ht (in_V mw_974 mw_975 mw_976 mw_861 mw_960) rfl rfl rfl pd_X12_saved ⟨Nat.le_of_ble_eq_true rfl, Nat.le_of_ble_eq_true rfl⟩) ⟨q_blind, va_recv hK hI.1 (ci := 11) (q0 := 59) rfl rfl, q_to hI hK hN hZ hA⟩ rfl rfl hl.1 rfl (lv_room (Nat.le_of_ble_eq_true rfl)) dX12_codes_90 (by decide)) (fun H locs hI => ?_)
            refine lv_iinc (v := v2 + 1) (lv' := [(2, .int (v2 + 1)), (0, .ref (ga g 59)), (1, .int u1)]) hx hb dX12_codes_93 hl (k := 2) rfl (congrArg (fun z => v2 + z) (show Int32.ofInt 1 = 1 by decide)) (by decide) rfl (fun ls hl => ?_)
            refine lv_goto (tgt := 17) hx hb dX12_codes_96 (by decide) ?_
            exact ih σ25 (v2 + 1) _ _ _ hm hI (lv_sub hl [1, 2, 0] rfl) hx99
set_option maxHeartbeats 4000000 in
set_option maxRecDepth 100000 in
theorem lp_X12_codes_101 {p : Program} {l : Launch} {e : Env} {s : State} {m : MethodId} {args : Array Value} {below : List Frame} {meth : Method} {c : Code} {Q : State → Prop} {A : Nat → Prop} {g : GG} {q N n : Nat} {out : Int32 × Sg} {u1 : Int32} {K137 : (Sg → Int32 → Option (Int32 × Sg))}
    (hC : CXv p l e (qR 4 100) s m args below meth c cX12_codes 3 RX12 g q n A Q (some out)) :
    ∀ (k : Nat) (σ : Sg) (v2 : Int32) (H : Heap) (locs : List Loc) (ls : Array Slot), lf_X12_codes_101 N n u1 K137 k σ v2 = some out → wI g q n σ A s.heap H locs → lv_has ls 3 [(0, .ref (ga g 59)), (1, .int u1), (2, .int v2)] → (∀ (σ : Sg) (v2 : Int32) (H : Heap) (locs : List Loc) (ls : Array Slot), K137 σ v2 = some out → wI g q n σ A s.heap H locs → lv_has ls 3 [(0, .ref (ga g 59)), (1, .int u1)] → W p l e (qR 4 100) s m args below meth c H locs 0 0 Q (F0 m 137 ls [])) → W p l e (qR 4 100) s m args below meth c H locs 0 0 Q (F0 m 101 ls []) := by
  obtain ⟨hX, hK, hN, hZ, hA, hR⟩ := id hC
  have hx : p.tables.exec = Jvm.exec := hX.1
  have hb : c.code = cX12_codes := hX.2.1
  have hml : c.maxLocals = 3 := hX.2.2.1
  have hown : s.vm.findClass RX12 = some m.cls := hX.2.2.2.1
  have ht : ∀ w ∈ BIG, w.before args s = true := hX.2.2.2.2
  intro k
  induction k with
  | zero =>
    intro σ v2 H locs ls hm
    have hm : none = some out := hm
    exact nomatch hm
  | succ k ih =>
    intro σ v2 H locs ls hm hI hl hx137
    have hm : lb_X12_codes_101 N n u1 K137 (lf_X12_codes_101 N n u1 K137 k) σ v2 = some out := hm
    unfold lb_X12_codes_101 at hm
    refine lv_iload_n hx hb dX12_codes_101 rfl (lv_at hl 2 rfl) ?_
    refine lv_aload_n hx hb dX12_codes_102 rfl (lv_at hl 0 rfl) ?_
    refine gf_59_12 hx hb ht hK hI (v := σ 59 12) rfl mw_888 (fun _ h9 => h9) hown dX12_codes_103 ?_
    refine lv_icmp_ge (tgt := 137) hx hb dX12_codes_106 (by decide) (fun c29 => ?_) (fun c29 => ?_)
    · have hm := (if_pos c29).symm.trans hm
      exact hx137 σ v2 _ _ _ hm hI (lv_sub hl [0, 1] rfl)
    · have hm := (if_neg c29).symm.trans hm
      refine lv_aload_n hx hb dX12_codes_109 rfl (lv_at hl 0 rfl) ?_
      refine gf_59_36 hx hb ht hK hI mw_782 (fun _ h9 => h9) hown dX12_codes_110 ?_
      refine lv_iload_n hx hb dX12_codes_113 rfl (lv_at hl 2 rfl) ?_
      refine lv_aload_n hx hb dX12_codes_114 rfl (lv_at hl 0 rfl) ?_
      refine gf_59_30 hx hb ht hK hI (v := σ 59 30) rfl mw_944 (fun _ h9 => h9) hown dX12_codes_115 ?_
      refine lv_aload_n hx hb dX12_codes_118 rfl (lv_at hl 0 rfl) ?_
      refine gf_59_32 hx hb ht hK hI mw_780 (fun _ h9 => h9) hown dX12_codes_119 ?_
      refine lv_iload_n hx hb dX12_codes_122 rfl (lv_at hl 1 rfl) ?_
      obtain ⟨g30, hm⟩ := gb_some hm
      refine ld_85 hx hb hK hI g30 (v := σ 85 (ix u1)) rfl dX12_codes_123 ?_
      refine lv_isub hx hb dX12_codes_124 ?_
      obtain ⟨g31, hm⟩ := gb_some hm
      refine sv_87 hx hb hK hI g31 dX12_codes_125 (fun H locs hI => ?_)
      refine lv_aload_n hx hb dX12_codes_126 rfl (lv_at hl 0 rfl) ?_
      refine lv_iload_n hx hb dX12_codes_127 rfl (lv_at hl 2 rfl) ?_
      obtain ⟨r32, σ33, h34, hm⟩ := bd_some hm
      refine k_v hI hA (va_runV (As := [.int v2]) (rest := []) hX (c_X12_codePlace N n h34 _) (cwV 1 ht (in_V mw_987 mw_988 mw_989 mw_861 mw_986) rfl rfl rfl pd_X12_codePlace ⟨Nat.le_of_ble_eq_true rfl, Nat.le_of_ble_eq_true rfl⟩) ⟨q_blind, va_recv hK hI.1 (ci := 11) (q0 := 59) rfl rfl, q_to hI hK hN hZ hA⟩ rfl rfl hl.1 rfl (lv_room (Nat.le_of_ble_eq_true rfl)) dX12_codes_128 (by decide)) (fun H locs hI => ?_)
      refine lv_iinc (v := v2 + 1) (lv' := [(2, .int (v2 + 1)), (0, .ref (ga g 59)), (1, .int u1)]) hx hb dX12_codes_131 hl (k := 2) rfl (congrArg (fun z => v2 + z) (show Int32.ofInt 1 = 1 by decide)) (by decide) rfl (fun ls hl => ?_)
      refine lv_goto (tgt := 101) hx hb dX12_codes_134 (by decide) ?_
      exact ih σ33 (v2 + 1) _ _ _ hm hI (lv_sub hl [1, 2, 0] rfl) hx137
set_option maxHeartbeats 4000000 in
set_option maxRecDepth 100000 in
theorem lp_X12_codes_181 {p : Program} {l : Launch} {e : Env} {s : State} {m : MethodId} {args : Array Value} {below : List Frame} {meth : Method} {c : Code} {Q : State → Prop} {A : Nat → Prop} {g : GG} {q N n : Nat} {out : Int32 × Sg}  {K272 : (Sg → Int32 → Option (Int32 × Sg))}
    (hC : CXv p l e (qR 4 100) s m args below meth c cX12_codes 3 RX12 g q n A Q (some out)) :
    ∀ (k : Nat) (σ : Sg) (v2 : Int32) (H : Heap) (locs : List Loc) (ls : Array Slot), lf_X12_codes_181 N n  K272 k σ v2 = some out → wI g q n σ A s.heap H locs → lv_has ls 3 [(0, .ref (ga g 59)), (2, .int v2)] → (∀ (σ : Sg) (v2 : Int32) (H : Heap) (locs : List Loc) (ls : Array Slot), K272 σ v2 = some out → wI g q n σ A s.heap H locs → lv_has ls 3 [] → W p l e (qR 4 100) s m args below meth c H locs 0 0 Q (F0 m 272 ls [])) → W p l e (qR 4 100) s m args below meth c H locs 0 0 Q (F0 m 181 ls []) := by
  obtain ⟨hX, hK, hN, hZ, hA, hR⟩ := id hC
  have hx : p.tables.exec = Jvm.exec := hX.1
  have hb : c.code = cX12_codes := hX.2.1
  have hml : c.maxLocals = 3 := hX.2.2.1
  have hown : s.vm.findClass RX12 = some m.cls := hX.2.2.2.1
  have ht : ∀ w ∈ BIG, w.before args s = true := hX.2.2.2.2
  intro k
  induction k with
  | zero =>
    intro σ v2 H locs ls hm
    have hm : none = some out := hm
    exact nomatch hm
  | succ k ih =>
    intro σ v2 H locs ls hm hI hl hx272
    have hm : lb_X12_codes_181 N n  K272 (lf_X12_codes_181 N n  K272 k) σ v2 = some out := hm
    unfold lb_X12_codes_181 at hm
    refine lv_iload_n hx hb dX12_codes_181 rfl (lv_at hl 1 rfl) ?_
    refine lv_aload_n hx hb dX12_codes_182 rfl (lv_at hl 0 rfl) ?_
    refine gf_59_30 hx hb ht hK hI (v := σ 59 30) rfl mw_944 (fun _ h9 => h9) hown dX12_codes_183 ?_
    refine lv_icmp_ge (tgt := 272) hx hb dX12_codes_186 (by decide) (fun c42 => ?_) (fun c42 => ?_)
    · have hm := (if_pos c42).symm.trans hm
      exact hx272 σ v2 _ _ _ hm hI (lv_sub hl [] rfl)
    · have hm := (if_neg c42).symm.trans hm
      refine lv_aload_n hx hb dX12_codes_189 rfl (lv_at hl 0 rfl) ?_
      refine gf_59_31 hx hb ht hK hI mw_779 (fun _ h9 => h9) hown dX12_codes_190 ?_
      refine lv_iconst (v := 5) hx hb dX12_codes_193 (by decide) ?_
      refine lv_iload_n hx hb dX12_codes_194 rfl (lv_at hl 1 rfl) ?_
      refine lv_imul hx hb dX12_codes_195 ?_
      obtain ⟨g43, hm⟩ := gb_some hm
      refine ld_84 hx hb hK hI g43 (v := σ 84 (ix (5 * v2))) rfl dX12_codes_196 ?_
      refine lv_iconst (v := 4) hx hb dX12_codes_197 (by decide) ?_
      refine lv_icmp_ne (tgt := 229) hx hb dX12_codes_198 (by decide) (fun c44 => ?_) (fun c44 => ?_)
      · have hm := (if_neg c44).symm.trans hm
        refine lv_aload_n hx hb dX12_codes_229 rfl (lv_at hl 0 rfl) ?_
        refine gf_59_31 hx hb ht hK hI mw_779 (fun _ h9 => h9) hown dX12_codes_230 ?_
        refine lv_iconst (v := 5) hx hb dX12_codes_233 (by decide) ?_
        refine lv_iload_n hx hb dX12_codes_234 rfl (lv_at hl 1 rfl) ?_
        refine lv_imul hx hb dX12_codes_235 ?_
        obtain ⟨g45, hm⟩ := gb_some hm
        refine ld_84 hx hb hK hI g45 (v := σ 84 (ix (5 * v2))) rfl dX12_codes_236 ?_
        refine lv_iconst (v := 5) hx hb dX12_codes_237 (by decide) ?_
        refine lv_icmp_ne (tgt := 266) hx hb dX12_codes_238 (by decide) (fun c46 => ?_) (fun c46 => ?_)
        · have hm := (if_neg c46).symm.trans hm
          refine lv_iinc (v := v2 + 1) (lv' := [(2, .int (v2 + 1)), (0, .ref (ga g 59))]) hx hb dX12_codes_266 hl (k := 1) rfl (congrArg (fun z => v2 + z) (show Int32.ofInt 1 = 1 by decide)) (by decide) rfl (fun ls hl => ?_)
          refine lv_goto (tgt := 181) hx hb dX12_codes_269 (by decide) ?_
          exact ih σ (v2 + 1) _ _ _ hm hI (lv_sub hl [1, 0] rfl) hx272
        · have hm := (if_pos c46).symm.trans hm
          refine lv_aload_n hx hb dX12_codes_241 rfl (lv_at hl 0 rfl) ?_
          refine gf_59_31 hx hb ht hK hI mw_779 (fun _ h9 => h9) hown dX12_codes_242 ?_
          refine lv_iconst (v := 5) hx hb dX12_codes_245 (by decide) ?_
          refine lv_iload_n hx hb dX12_codes_246 rfl (lv_at hl 1 rfl) ?_
          refine lv_imul hx hb dX12_codes_247 ?_
          refine lv_iconst (v := 2) hx hb dX12_codes_248 (by decide) ?_
          refine lv_iadd hx hb dX12_codes_249 ?_
          refine lv_aload_n hx hb dX12_codes_250 rfl (lv_at hl 0 rfl) ?_
          refine gf_59_36 hx hb ht hK hI mw_782 (fun _ h9 => h9) hown dX12_codes_251 ?_
          refine lv_aload_n hx hb dX12_codes_254 rfl (lv_at hl 0 rfl) ?_
          refine gf_59_31 hx hb ht hK hI mw_779 (fun _ h9 => h9) hown dX12_codes_255 ?_
          refine lv_iconst (v := 5) hx hb dX12_codes_258 (by decide) ?_
          refine lv_iload_n hx hb dX12_codes_259 rfl (lv_at hl 1 rfl) ?_
          refine lv_imul hx hb dX12_codes_260 ?_
          refine lv_iconst (v := 2) hx hb dX12_codes_261 (by decide) ?_
          refine lv_iadd hx hb dX12_codes_262 ?_
          obtain ⟨g47, hm⟩ := gb_some hm
          refine ld_84 hx hb hK hI g47 (v := σ 84 (ix ((5 * v2) + 2))) rfl dX12_codes_263 ?_
          obtain ⟨g48, hm⟩ := gb_some hm
          refine ld_87 hx hb hK hI g48 (v := σ 87 (ix (σ 84 (ix ((5 * v2) + 2))))) rfl dX12_codes_264 ?_
          obtain ⟨g49, hm⟩ := gb_some hm
          refine sv_84 hx hb hK hI g49 dX12_codes_265 (fun H locs hI => ?_)
          refine lv_iinc (v := v2 + 1) (lv' := [(2, .int (v2 + 1)), (0, .ref (ga g 59))]) hx hb dX12_codes_266 hl (k := 1) rfl (congrArg (fun z => v2 + z) (show Int32.ofInt 1 = 1 by decide)) (by decide) rfl (fun ls hl => ?_)
          refine lv_goto (tgt := 181) hx hb dX12_codes_269 (by decide) ?_
          exact ih (sg σ 84 (ix ((5 * v2) + 2)) (σ 87 (ix (σ 84 (ix ((5 * v2) + 2)))))) (v2 + 1) _ _ _ hm hI (lv_sub hl [1, 0] rfl) hx272
      · have hm := (if_pos c44).symm.trans hm
        refine lv_aload_n hx hb dX12_codes_201 rfl (lv_at hl 0 rfl) ?_
        refine gf_59_31 hx hb ht hK hI mw_779 (fun _ h9 => h9) hown dX12_codes_202 ?_
        refine lv_iconst (v := 5) hx hb dX12_codes_205 (by decide) ?_
        refine lv_iload_n hx hb dX12_codes_206 rfl (lv_at hl 1 rfl) ?_
        refine lv_imul hx hb dX12_codes_207 ?_
        refine lv_iconst (v := 1) hx hb dX12_codes_208 (by decide) ?_
        refine lv_iadd hx hb dX12_codes_209 ?_
        refine lv_aload_n hx hb dX12_codes_210 rfl (lv_at hl 0 rfl) ?_
        refine gf_59_36 hx hb ht hK hI mw_782 (fun _ h9 => h9) hown dX12_codes_211 ?_
        refine lv_aload_n hx hb dX12_codes_214 rfl (lv_at hl 0 rfl) ?_
        refine gf_59_31 hx hb ht hK hI mw_779 (fun _ h9 => h9) hown dX12_codes_215 ?_
        refine lv_iconst (v := 5) hx hb dX12_codes_218 (by decide) ?_
        refine lv_iload_n hx hb dX12_codes_219 rfl (lv_at hl 1 rfl) ?_
        refine lv_imul hx hb dX12_codes_220 ?_
        refine lv_iconst (v := 1) hx hb dX12_codes_221 (by decide) ?_
        refine lv_iadd hx hb dX12_codes_222 ?_
        obtain ⟨g50, hm⟩ := gb_some hm
        refine ld_84 hx hb hK hI g50 (v := σ 84 (ix ((5 * v2) + 1))) rfl dX12_codes_223 ?_
        obtain ⟨g51, hm⟩ := gb_some hm
        refine ld_87 hx hb hK hI g51 (v := σ 87 (ix (σ 84 (ix ((5 * v2) + 1))))) rfl dX12_codes_224 ?_
        obtain ⟨g52, hm⟩ := gb_some hm
        refine sv_84 hx hb hK hI g52 dX12_codes_225 (fun H locs hI => ?_)
        refine lv_goto (tgt := 266) hx hb dX12_codes_226 (by decide) ?_
        refine lv_iinc (v := v2 + 1) (lv' := [(2, .int (v2 + 1)), (0, .ref (ga g 59))]) hx hb dX12_codes_266 hl (k := 1) rfl (congrArg (fun z => v2 + z) (show Int32.ofInt 1 = 1 by decide)) (by decide) rfl (fun ls hl => ?_)
        refine lv_goto (tgt := 181) hx hb dX12_codes_269 (by decide) ?_
        exact ih (sg σ 84 (ix ((5 * v2) + 1)) (σ 87 (ix (σ 84 (ix ((5 * v2) + 1)))))) (v2 + 1) _ _ _ hm hI (lv_sub hl [1, 0] rfl) hx272
set_option maxHeartbeats 4000000 in
set_option maxRecDepth 100000 in
theorem c_X12_codes {l : Launch} {g : GG} {q : Nat} (N n : Nat) {σ : Sg} {p0 : Int32} {r : Int32} {σ' : Sg} (hm : f_X12_codes N n σ p0 = some (r, σ')) : CTv l yX12_codes cX12_codes 3 none 4 100 g q n [.ref (ga g 59), .int p0] σ σ' := by
  refine e_v (r := r) (by decide) (Nat.le_of_ble_eq_true rfl) ?_
  intro p e s m args below meth c A Q ls hC hl hI
  obtain ⟨hX, hK, hN, hZ, hA, hR⟩ := id hC
  have hx : p.tables.exec = Jvm.exec := hX.1
  have hb : c.code = cX12_codes := hX.2.1
  have hml : c.maxLocals = 3 := hX.2.2.1
  have hown : s.vm.findClass RX12 = some m.cls := hX.2.2.2.1
  have ht : ∀ w ∈ BIG, w.before args s = true := hX.2.2.2.2
  have hl : lv_has ls 3 [(0, .ref (ga g 59)), (1, .int p0)] := hl
  unfold f_X12_codes at hm
  refine lv_aload_n hx hb dX12_codes_0 rfl (lv_at hl 0 rfl) ?_
  refine lv_iload_n hx hb dX12_codes_1 rfl (lv_at hl 1 rfl) ?_
  refine pf_59_35 hx hb ht hK hI mw_947 (fun _ h9 => h9) hown dX12_codes_2 (fun H locs hI => ?_)
  refine lv_aload_n hx hb dX12_codes_5 rfl (lv_at hl 0 rfl) ?_
  refine gf_59_32 hx hb ht hK hI mw_780 (fun _ h9 => h9) hown dX12_codes_6 ?_
  refine lv_iload_n hx hb dX12_codes_9 rfl (lv_at hl 1 rfl) ?_
  refine lv_aload_n hx hb dX12_codes_10 rfl (lv_at hl 0 rfl) ?_
  refine gf_59_30 hx hb ht hK hI (v := σ 59 30) rfl mw_944 (fun _ h9 => h9) hown dX12_codes_11 ?_
  obtain ⟨g1, hm⟩ := gb_some hm
  refine sv_85 hx hb hK hI g1 dX12_codes_14 (fun H locs hI => ?_)
  refine lv_iconst (v := 0) hx hb dX12_codes_15 (by decide) ?_
  refine lv_istore_n (lv' := [(2, .int 0), (0, .ref (ga g 59)), (1, .int p0)]) hx hb dX12_codes_16 rfl hl (by decide) rfl (fun ls hl => ?_)
  refine lp_X12_codes_17 hC N _ _ _ _ _ hm hI (lv_sub hl [1, 2, 0] rfl) ?_
  intro σ27 w28 H locs ls hm hI hl
  refine lv_iconst (v := 0) hx hb dX12_codes_99 (by decide) ?_
  refine lv_istore_n (lv' := [(2, .int 0), (0, .ref (ga g 59)), (1, .int p0)]) hx hb dX12_codes_100 rfl hl (by decide) rfl (fun ls hl => ?_)
  refine lp_X12_codes_101 hC N _ _ _ _ _ hm hI (lv_sub hl [1, 2, 0] rfl) ?_
  intro σ35 w36 H locs ls hm hI hl
  refine lv_aload_n hx hb dX12_codes_137 rfl (lv_at hl 0 rfl) ?_
  refine gf_59_36 hx hb ht hK hI mw_782 (fun _ h9 => h9) hown dX12_codes_138 ?_
  refine lv_aload_n hx hb dX12_codes_141 rfl (lv_at hl 0 rfl) ?_
  refine gf_59_12 hx hb ht hK hI (v := σ35 59 12) rfl mw_888 (fun _ h9 => h9) hown dX12_codes_142 ?_
  refine lv_aload_n hx hb dX12_codes_145 rfl (lv_at hl 0 rfl) ?_
  refine gf_59_30 hx hb ht hK hI (v := σ35 59 30) rfl mw_944 (fun _ h9 => h9) hown dX12_codes_146 ?_
  refine lv_aload_n hx hb dX12_codes_149 rfl (lv_at hl 0 rfl) ?_
  refine gf_59_32 hx hb ht hK hI mw_780 (fun _ h9 => h9) hown dX12_codes_150 ?_
  refine lv_iload_n hx hb dX12_codes_153 rfl (lv_at hl 1 rfl) ?_
  obtain ⟨g37, hm⟩ := gb_some hm
  refine ld_85 hx hb hK hI g37 (v := σ35 85 (ix p0)) rfl dX12_codes_154 ?_
  refine lv_isub hx hb dX12_codes_155 ?_
  obtain ⟨g38, hm⟩ := gb_some hm
  refine sv_87 hx hb hK hI g38 dX12_codes_156 (fun H locs hI => ?_)
  refine lv_aload_n hx hb dX12_codes_157 rfl (lv_at hl 0 rfl) ?_
  refine gf_59_33 hx hb ht hK hI mw_781 (fun _ h9 => h9) hown dX12_codes_158 ?_
  refine lv_iload_n hx hb dX12_codes_161 rfl (lv_at hl 1 rfl) ?_
  refine lv_aload_n hx hb dX12_codes_162 rfl (lv_at hl 0 rfl) ?_
  refine gf_59_30 hx hb ht hK hI (v := σ35 59 30) rfl mw_944 (fun _ h9 => h9) hown dX12_codes_163 ?_
  refine lv_aload_n hx hb dX12_codes_166 rfl (lv_at hl 0 rfl) ?_
  refine gf_59_32 hx hb ht hK hI mw_780 (fun _ h9 => h9) hown dX12_codes_167 ?_
  refine lv_iload_n hx hb dX12_codes_170 rfl (lv_at hl 1 rfl) ?_
  obtain ⟨g39, hm⟩ := gb_some hm
  refine ld_85 hx hb hK hI g39 (v := σ35 85 (ix p0)) rfl dX12_codes_171 ?_
  refine lv_isub hx hb dX12_codes_172 ?_
  obtain ⟨g40, hm⟩ := gb_some hm
  refine sv_86 hx hb hK hI g40 dX12_codes_173 (fun H locs hI => ?_)
  refine lv_aload_n hx hb dX12_codes_174 rfl (lv_at hl 0 rfl) ?_
  refine gf_59_32 hx hb ht hK hI mw_780 (fun _ h9 => h9) hown dX12_codes_175 ?_
  refine lv_iload_n hx hb dX12_codes_178 rfl (lv_at hl 1 rfl) ?_
  obtain ⟨g41, hm⟩ := gb_some hm
  refine ld_85 hx hb hK hI g41 (v := σ35 85 (ix p0)) rfl dX12_codes_179 ?_
  refine lv_istore_n (lv' := [(2, .int (σ35 85 (ix p0))), (0, .ref (ga g 59)), (1, .int p0)]) hx hb dX12_codes_180 rfl hl (by decide) rfl (fun ls hl => ?_)
  refine lp_X12_codes_181 hC N _ _ _ _ _ hm hI (lv_sub hl [1, 0] rfl) ?_
  intro σ53 w54 H locs ls hm hI hl
  exact hR _ _ _ _ _ hm hI dX12_codes_272
def f_X12_count (N n : Nat) (σ : Sg) (p0 : Int32) : Option (Int32 × Sg) := if p0 = 0 then (some (σ 59 1, sg σ 59 0 0)) else (if p0 = 1 then (some (σ 59 6, sg σ 59 0 0)) else (if p0 = 2 then (if (σ 59 10) = 0 then (some (0, sg σ 59 0 0)) else (some (1, sg σ 59 0 0))) else (if p0 = 3 then (if (σ 59 37) = 0 then (some (0, sg σ 59 0 0)) else (some (σ 59 22, sg σ 59 0 0))) else (if p0 = 4 then (if (σ 59 37) = 0 then (some (0, sg σ 59 0 0)) else (some (σ 59 30, sg σ 59 0 0))) else (some ((-1), sg σ 59 0 0))))))
set_option maxHeartbeats 4000000 in
set_option maxRecDepth 100000 in
theorem c_X12_count {l : Launch} {g : GG} {q : Nat} (N n : Nat) {σ : Sg} {p0 : Int32} {r : Int32} {σ' : Sg} (hm : f_X12_count N n σ p0 = some (r, σ')) : CTi l yX12_count cX12_count 2 (some .int) 0 0 g q n [.ref (ga g 59), .int p0] σ r σ' := by
  refine e_i (r := r) (by decide) (Nat.le_of_ble_eq_true rfl) ?_
  intro p e s m args below meth c A Q ls hC hl hI
  obtain ⟨hX, hK, hN, hZ, hA, hR⟩ := id hC
  have hx : p.tables.exec = Jvm.exec := hX.1
  have hb : c.code = cX12_count := hX.2.1
  have hml : c.maxLocals = 2 := hX.2.2.1
  have hown : s.vm.findClass RX12 = some m.cls := hX.2.2.2.1
  have ht : ∀ w ∈ BIG, w.before args s = true := hX.2.2.2.2
  have hl : lv_has ls 2 [(0, .ref (ga g 59)), (1, .int p0)] := hl
  unfold f_X12_count at hm
  refine lv_aload_n hx hb dX12_count_0 rfl (lv_at hl 0 rfl) ?_
  refine lv_iconst (v := 0) hx hb dX12_count_1 (by decide) ?_
  refine pf_59_0 hx hb ht hK hI mw_851 (fun _ h9 => h9) hown dX12_count_2 (fun H locs hI => ?_)
  refine lv_iload_n hx hb dX12_count_5 rfl (lv_at hl 1 rfl) ?_
  refine lv_if_ne (tgt := 16) hx hb dX12_count_6 (by decide) (fun c1 => ?_) (fun c1 => ?_)
  · have hm := (if_neg c1).symm.trans hm
    refine lv_iload_n hx hb dX12_count_16 rfl (lv_at hl 1 rfl) ?_
    refine lv_iconst (v := 1) hx hb dX12_count_17 (by decide) ?_
    refine lv_icmp_ne (tgt := 28) hx hb dX12_count_18 (by decide) (fun c2 => ?_) (fun c2 => ?_)
    · have hm := (if_neg c2).symm.trans hm
      refine lv_iload_n hx hb dX12_count_28 rfl (lv_at hl 1 rfl) ?_
      refine lv_iconst (v := 2) hx hb dX12_count_29 (by decide) ?_
      refine lv_icmp_ne (tgt := 48) hx hb dX12_count_30 (by decide) (fun c3 => ?_) (fun c3 => ?_)
      · have hm := (if_neg c3).symm.trans hm
        refine lv_iload_n hx hb dX12_count_48 rfl (lv_at hl 1 rfl) ?_
        refine lv_iconst (v := 3) hx hb dX12_count_49 (by decide) ?_
        refine lv_icmp_ne (tgt := 71) hx hb dX12_count_50 (by decide) (fun c4 => ?_) (fun c4 => ?_)
        · have hm := (if_neg c4).symm.trans hm
          refine lv_iload_n hx hb dX12_count_71 rfl (lv_at hl 1 rfl) ?_
          refine lv_iconst (v := 4) hx hb dX12_count_72 (by decide) ?_
          refine lv_icmp_ne (tgt := 94) hx hb dX12_count_73 (by decide) (fun c5 => ?_) (fun c5 => ?_)
          · have hm := (if_neg c5).symm.trans hm
            refine lv_iconst (v := (-1)) hx hb dX12_count_94 (by decide) ?_
            exact hR _ _ _ _ _ _ hm hI dX12_count_95
          · have hm := (if_pos c5).symm.trans hm
            refine lv_aload_n hx hb dX12_count_76 rfl (lv_at hl 0 rfl) ?_
            refine gf_59_37 hx hb ht hK hI (v := σ 59 37) rfl mw_991 (fun _ h9 => h9) hown dX12_count_77 ?_
            refine lv_if_eq (tgt := 90) hx hb dX12_count_80 (by decide) (fun c6 => ?_) (fun c6 => ?_)
            · have hm := (if_pos c6).symm.trans hm
              refine lv_iconst (v := 0) hx hb dX12_count_90 (by decide) ?_
              refine lv_goto (tgt := 95) hx hb dX12_count_91 (by decide) ?_
              exact hR _ _ _ _ _ _ hm hI dX12_count_95
            · have hm := (if_neg c6).symm.trans hm
              refine lv_aload_n hx hb dX12_count_83 rfl (lv_at hl 0 rfl) ?_
              refine gf_59_30 hx hb ht hK hI (v := σ 59 30) rfl mw_944 (fun _ h9 => h9) hown dX12_count_84 ?_
              refine lv_goto (tgt := 95) hx hb dX12_count_87 (by decide) ?_
              exact hR _ _ _ _ _ _ hm hI dX12_count_95
        · have hm := (if_pos c4).symm.trans hm
          refine lv_aload_n hx hb dX12_count_53 rfl (lv_at hl 0 rfl) ?_
          refine gf_59_37 hx hb ht hK hI (v := σ 59 37) rfl mw_991 (fun _ h9 => h9) hown dX12_count_54 ?_
          refine lv_if_eq (tgt := 67) hx hb dX12_count_57 (by decide) (fun c7 => ?_) (fun c7 => ?_)
          · have hm := (if_pos c7).symm.trans hm
            refine lv_iconst (v := 0) hx hb dX12_count_67 (by decide) ?_
            refine lv_goto (tgt := 95) hx hb dX12_count_68 (by decide) ?_
            exact hR _ _ _ _ _ _ hm hI dX12_count_95
          · have hm := (if_neg c7).symm.trans hm
            refine lv_aload_n hx hb dX12_count_60 rfl (lv_at hl 0 rfl) ?_
            refine gf_59_22 hx hb ht hK hI (v := σ 59 22) rfl mw_938 (fun _ h9 => h9) hown dX12_count_61 ?_
            refine lv_goto (tgt := 95) hx hb dX12_count_64 (by decide) ?_
            exact hR _ _ _ _ _ _ hm hI dX12_count_95
      · have hm := (if_pos c3).symm.trans hm
        refine lv_aload_n hx hb dX12_count_33 rfl (lv_at hl 0 rfl) ?_
        refine gf_59_10 hx hb ht hK hI (v := σ 59 10) rfl mw_853 (fun _ h9 => h9) hown dX12_count_34 ?_
        refine lv_if_eq (tgt := 44) hx hb dX12_count_37 (by decide) (fun c8 => ?_) (fun c8 => ?_)
        · have hm := (if_pos c8).symm.trans hm
          refine lv_iconst (v := 0) hx hb dX12_count_44 (by decide) ?_
          refine lv_goto (tgt := 95) hx hb dX12_count_45 (by decide) ?_
          exact hR _ _ _ _ _ _ hm hI dX12_count_95
        · have hm := (if_neg c8).symm.trans hm
          refine lv_iconst (v := 1) hx hb dX12_count_40 (by decide) ?_
          refine lv_goto (tgt := 95) hx hb dX12_count_41 (by decide) ?_
          exact hR _ _ _ _ _ _ hm hI dX12_count_95
    · have hm := (if_pos c2).symm.trans hm
      refine lv_aload_n hx hb dX12_count_21 rfl (lv_at hl 0 rfl) ?_
      refine gf_59_6 hx hb ht hK hI (v := σ 59 6) rfl mw_854 (fun _ h9 => h9) hown dX12_count_22 ?_
      refine lv_goto (tgt := 95) hx hb dX12_count_25 (by decide) ?_
      exact hR _ _ _ _ _ _ hm hI dX12_count_95
  · have hm := (if_pos c1).symm.trans hm
    refine lv_aload_n hx hb dX12_count_9 rfl (lv_at hl 0 rfl) ?_
    refine gf_59_1 hx hb ht hK hI (v := σ 59 1) rfl mw_852 (fun _ h9 => h9) hown dX12_count_10 ?_
    refine lv_goto (tgt := 95) hx hb dX12_count_13 (by decide) ?_
    exact hR _ _ _ _ _ _ hm hI dX12_count_95
def f_X12_depth (N n : Nat) (σ : Sg) (p0 : Int32) (p1 : Int32) : Option (Int32 × Sg) := if (σ 59 10) = 0 then (some ((-1), sg σ 59 0 0)) else (if p0 < 0 then (some ((-1), sg σ 59 0 0)) else (if (σ 59 1) ≤ p0 then (some ((-1), sg σ 59 0 0)) else (if p1 < 0 then (some ((-1), sg σ 59 0 0)) else (gb p0 12 (if p1 < (σ 63 (ix p0)) then (gb p0 12 (gb ((σ 62 (ix p0)) + p1) 300 (some (σ 66 (ix ((σ 62 (ix p0)) + p1)), sg σ 59 0 0)))) else (some ((-1), sg σ 59 0 0)))))))
set_option maxHeartbeats 4000000 in
set_option maxRecDepth 100000 in
theorem c_X12_depth {l : Launch} {g : GG} {q : Nat} (N n : Nat) {σ : Sg} {p0 : Int32} {p1 : Int32} {r : Int32} {σ' : Sg} (hm : f_X12_depth N n σ p0 p1 = some (r, σ')) : CTi l yX12_depth cX12_depth 3 (some .int) 0 0 g q n [.ref (ga g 59), .int p0, .int p1] σ r σ' := by
  refine e_i (r := r) (by decide) (Nat.le_of_ble_eq_true rfl) ?_
  intro p e s m args below meth c A Q ls hC hl hI
  obtain ⟨hX, hK, hN, hZ, hA, hR⟩ := id hC
  have hx : p.tables.exec = Jvm.exec := hX.1
  have hb : c.code = cX12_depth := hX.2.1
  have hml : c.maxLocals = 3 := hX.2.2.1
  have hown : s.vm.findClass RX12 = some m.cls := hX.2.2.2.1
  have ht : ∀ w ∈ BIG, w.before args s = true := hX.2.2.2.2
  have hl : lv_has ls 3 [(0, .ref (ga g 59)), (1, .int p0), (2, .int p1)] := hl
  unfold f_X12_depth at hm
  refine lv_aload_n hx hb dX12_depth_0 rfl (lv_at hl 0 rfl) ?_
  refine lv_iconst (v := 0) hx hb dX12_depth_1 (by decide) ?_
  refine pf_59_0 hx hb ht hK hI mw_851 (fun _ h9 => h9) hown dX12_depth_2 (fun H locs hI => ?_)
  refine lv_aload_n hx hb dX12_depth_5 rfl (lv_at hl 0 rfl) ?_
  refine gf_59_10 hx hb ht hK hI (v := σ 59 10) rfl mw_853 (fun _ h9 => h9) hown dX12_depth_6 ?_
  refine lv_if_eq (tgt := 38) hx hb dX12_depth_9 (by decide) (fun c1 => ?_) (fun c1 => ?_)
  · have hm := (if_pos c1).symm.trans hm
    refine lv_iconst (v := (-1)) hx hb dX12_depth_38 (by decide) ?_
    exact hR _ _ _ _ _ _ hm hI dX12_depth_39
  · have hm := (if_neg c1).symm.trans hm
    refine lv_iload_n hx hb dX12_depth_12 rfl (lv_at hl 1 rfl) ?_
    refine lv_if_lt (tgt := 38) hx hb dX12_depth_13 (by decide) (fun c2 => ?_) (fun c2 => ?_)
    · have hm := (if_pos c2).symm.trans hm
      refine lv_iconst (v := (-1)) hx hb dX12_depth_38 (by decide) ?_
      exact hR _ _ _ _ _ _ hm hI dX12_depth_39
    · have hm := (if_neg c2).symm.trans hm
      refine lv_iload_n hx hb dX12_depth_16 rfl (lv_at hl 1 rfl) ?_
      refine lv_aload_n hx hb dX12_depth_17 rfl (lv_at hl 0 rfl) ?_
      refine gf_59_1 hx hb ht hK hI (v := σ 59 1) rfl mw_852 (fun _ h9 => h9) hown dX12_depth_18 ?_
      refine lv_icmp_ge (tgt := 38) hx hb dX12_depth_21 (by decide) (fun c3 => ?_) (fun c3 => ?_)
      · have hm := (if_pos c3).symm.trans hm
        refine lv_iconst (v := (-1)) hx hb dX12_depth_38 (by decide) ?_
        exact hR _ _ _ _ _ _ hm hI dX12_depth_39
      · have hm := (if_neg c3).symm.trans hm
        refine lv_iload_n hx hb dX12_depth_24 rfl (lv_at hl 2 rfl) ?_
        refine lv_if_lt (tgt := 38) hx hb dX12_depth_25 (by decide) (fun c4 => ?_) (fun c4 => ?_)
        · have hm := (if_pos c4).symm.trans hm
          refine lv_iconst (v := (-1)) hx hb dX12_depth_38 (by decide) ?_
          exact hR _ _ _ _ _ _ hm hI dX12_depth_39
        · have hm := (if_neg c4).symm.trans hm
          refine lv_iload_n hx hb dX12_depth_28 rfl (lv_at hl 2 rfl) ?_
          refine lv_aload_n hx hb dX12_depth_29 rfl (lv_at hl 0 rfl) ?_
          refine gf_59_5 hx hb ht hK hI mw_758 (fun _ h9 => h9) hown dX12_depth_30 ?_
          refine lv_iload_n hx hb dX12_depth_33 rfl (lv_at hl 1 rfl) ?_
          obtain ⟨g5, hm⟩ := gb_some hm
          refine ld_63 hx hb hK hI g5 (v := σ 63 (ix p0)) rfl dX12_depth_34 ?_
          refine lv_icmp_lt (tgt := 40) hx hb dX12_depth_35 (by decide) (fun c6 => ?_) (fun c6 => ?_)
          · have hm := (if_pos c6).symm.trans hm
            refine lv_aload_n hx hb dX12_depth_40 rfl (lv_at hl 0 rfl) ?_
            refine gf_59_9 hx hb ht hK hI mw_761 (fun _ h9 => h9) hown dX12_depth_41 ?_
            refine lv_aload_n hx hb dX12_depth_44 rfl (lv_at hl 0 rfl) ?_
            refine gf_59_4 hx hb ht hK hI mw_757 (fun _ h9 => h9) hown dX12_depth_45 ?_
            refine lv_iload_n hx hb dX12_depth_48 rfl (lv_at hl 1 rfl) ?_
            obtain ⟨g7, hm⟩ := gb_some hm
            refine ld_62 hx hb hK hI g7 (v := σ 62 (ix p0)) rfl dX12_depth_49 ?_
            refine lv_iload_n hx hb dX12_depth_50 rfl (lv_at hl 2 rfl) ?_
            refine lv_iadd hx hb dX12_depth_51 ?_
            obtain ⟨g8, hm⟩ := gb_some hm
            refine ld_66 hx hb hK hI g8 (v := σ 66 (ix ((σ 62 (ix p0)) + p1))) rfl dX12_depth_52 ?_
            exact hR _ _ _ _ _ _ hm hI dX12_depth_53
          · have hm := (if_neg c6).symm.trans hm
            refine lv_iconst (v := (-1)) hx hb dX12_depth_38 (by decide) ?_
            exact hR _ _ _ _ _ _ hm hI dX12_depth_39
def lb_X12_forgets_9 (N n : Nat) (u1 : Int32) (K47 : (Sg → Int32 → Option (Int32 × Sg))) (rec : (Sg → Int32 → Option (Int32 × Sg))) (σ : Sg) (v2 : Int32) : Option (Int32 × Sg) := if 24 ≤ v2 then (K47 σ v2) else (gb v2 24 (if (σ 75 (ix v2)) = u1 then (gb v2 24 (rec (sg σ 75 (ix v2) (-1)) (v2 + 1))) else (gb v2 24 (gb v2 24 (rec (sg σ 75 (ix v2) (σ 75 (ix v2))) (v2 + 1))))))
def lf_X12_forgets_9 (N n : Nat) (u1 : Int32) (K47 : (Sg → Int32 → Option (Int32 × Sg))) : Nat → (Sg → Int32 → Option (Int32 × Sg))
  | 0 => fun _ _ => none
  | k + 1 => lb_X12_forgets_9 N n u1 K47 (lf_X12_forgets_9 N n u1 K47 k)
def f_X12_forgets (N n : Nat) (σ : Sg) (p0 : Int32) : Option (Int32 × Sg) := gb p0 24 (lf_X12_forgets_9 N n p0 (fun σ8 w9 => some (0, σ8)) N (sg σ 75 (ix p0) (-1)) 0)
set_option maxHeartbeats 4000000 in
set_option maxRecDepth 100000 in
theorem lp_X12_forgets_9 {p : Program} {l : Launch} {e : Env} {s : State} {m : MethodId} {args : Array Value} {below : List Frame} {meth : Method} {c : Code} {Q : State → Prop} {A : Nat → Prop} {g : GG} {q N n : Nat} {out : Int32 × Sg} {u1 : Int32} {K47 : (Sg → Int32 → Option (Int32 × Sg))}
    (hC : CXv p l e (qR 0 0) s m args below meth c cX12_forgets 3 RX12 g q n A Q (some out)) :
    ∀ (k : Nat) (σ : Sg) (v2 : Int32) (H : Heap) (locs : List Loc) (ls : Array Slot), lf_X12_forgets_9 N n u1 K47 k σ v2 = some out → wI g q n σ A s.heap H locs → lv_has ls 3 [(0, .ref (ga g 59)), (1, .int u1), (2, .int v2)] → (∀ (σ : Sg) (v2 : Int32) (H : Heap) (locs : List Loc) (ls : Array Slot), K47 σ v2 = some out → wI g q n σ A s.heap H locs → lv_has ls 3 [] → W p l e (qR 0 0) s m args below meth c H locs 0 0 Q (F0 m 47 ls [])) → W p l e (qR 0 0) s m args below meth c H locs 0 0 Q (F0 m 9 ls []) := by
  obtain ⟨hX, hK, hN, hZ, hA, hR⟩ := id hC
  have hx : p.tables.exec = Jvm.exec := hX.1
  have hb : c.code = cX12_forgets := hX.2.1
  have hml : c.maxLocals = 3 := hX.2.2.1
  have hown : s.vm.findClass RX12 = some m.cls := hX.2.2.2.1
  have ht : ∀ w ∈ BIG, w.before args s = true := hX.2.2.2.2
  intro k
  induction k with
  | zero =>
    intro σ v2 H locs ls hm
    have hm : none = some out := hm
    exact nomatch hm
  | succ k ih =>
    intro σ v2 H locs ls hm hI hl hx47
    have hm : lb_X12_forgets_9 N n u1 K47 (lf_X12_forgets_9 N n u1 K47 k) σ v2 = some out := hm
    unfold lb_X12_forgets_9 at hm
    refine lv_iload_n hx hb dX12_forgets_9 rfl (lv_at hl 2 rfl) ?_
    refine lv_bipush (v := 24) hx hb dX12_forgets_10 (by decide) ?_
    refine lv_icmp_ge (tgt := 47) hx hb dX12_forgets_12 (by decide) (fun c2 => ?_) (fun c2 => ?_)
    · have hm := (if_pos c2).symm.trans hm
      exact hx47 σ v2 _ _ _ hm hI (lv_sub hl [] rfl)
    · have hm := (if_neg c2).symm.trans hm
      refine lv_aload_n hx hb dX12_forgets_15 rfl (lv_at hl 0 rfl) ?_
      refine gf_59_20 hx hb ht hK hI mw_770 (fun _ h9 => h9) hown dX12_forgets_16 ?_
      refine lv_iload_n hx hb dX12_forgets_19 rfl (lv_at hl 2 rfl) ?_
      refine lv_aload_n hx hb dX12_forgets_20 rfl (lv_at hl 0 rfl) ?_
      refine gf_59_20 hx hb ht hK hI mw_770 (fun _ h9 => h9) hown dX12_forgets_21 ?_
      refine lv_iload_n hx hb dX12_forgets_24 rfl (lv_at hl 2 rfl) ?_
      obtain ⟨g3, hm⟩ := gb_some hm
      refine ld_75 hx hb hK hI g3 (v := σ 75 (ix v2)) rfl dX12_forgets_25 ?_
      refine lv_iload_n hx hb dX12_forgets_26 rfl (lv_at hl 1 rfl) ?_
      refine lv_icmp_ne (tgt := 34) hx hb dX12_forgets_27 (by decide) (fun c4 => ?_) (fun c4 => ?_)
      · have hm := (if_neg c4).symm.trans hm
        refine lv_aload_n hx hb dX12_forgets_34 rfl (lv_at hl 0 rfl) ?_
        refine gf_59_20 hx hb ht hK hI mw_770 (fun _ h9 => h9) hown dX12_forgets_35 ?_
        refine lv_iload_n hx hb dX12_forgets_38 rfl (lv_at hl 2 rfl) ?_
        obtain ⟨g5, hm⟩ := gb_some hm
        refine ld_75 hx hb hK hI g5 (v := σ 75 (ix v2)) rfl dX12_forgets_39 ?_
        obtain ⟨g6, hm⟩ := gb_some hm
        refine sv_75 hx hb hK hI g6 dX12_forgets_40 (fun H locs hI => ?_)
        refine lv_iinc (v := v2 + 1) (lv' := [(2, .int (v2 + 1)), (0, .ref (ga g 59)), (1, .int u1)]) hx hb dX12_forgets_41 hl (k := 2) rfl (congrArg (fun z => v2 + z) (show Int32.ofInt 1 = 1 by decide)) (by decide) rfl (fun ls hl => ?_)
        refine lv_goto (tgt := 9) hx hb dX12_forgets_44 (by decide) ?_
        exact ih (sg σ 75 (ix v2) (σ 75 (ix v2))) (v2 + 1) _ _ _ hm hI (lv_sub hl [1, 2, 0] rfl) hx47
      · have hm := (if_pos c4).symm.trans hm
        refine lv_iconst (v := (-1)) hx hb dX12_forgets_30 (by decide) ?_
        refine lv_goto (tgt := 40) hx hb dX12_forgets_31 (by decide) ?_
        obtain ⟨g7, hm⟩ := gb_some hm
        refine sv_75 hx hb hK hI g7 dX12_forgets_40 (fun H locs hI => ?_)
        refine lv_iinc (v := v2 + 1) (lv' := [(2, .int (v2 + 1)), (0, .ref (ga g 59)), (1, .int u1)]) hx hb dX12_forgets_41 hl (k := 2) rfl (congrArg (fun z => v2 + z) (show Int32.ofInt 1 = 1 by decide)) (by decide) rfl (fun ls hl => ?_)
        refine lv_goto (tgt := 9) hx hb dX12_forgets_44 (by decide) ?_
        exact ih (sg σ 75 (ix v2) (-1)) (v2 + 1) _ _ _ hm hI (lv_sub hl [1, 2, 0] rfl) hx47
set_option maxHeartbeats 4000000 in
set_option maxRecDepth 100000 in
theorem c_X12_forgets {l : Launch} {g : GG} {q : Nat} (N n : Nat) {σ : Sg} {p0 : Int32} {r : Int32} {σ' : Sg} (hm : f_X12_forgets N n σ p0 = some (r, σ')) : CTv l yX12_forgets cX12_forgets 3 none 0 0 g q n [.ref (ga g 59), .int p0] σ σ' := by
  refine e_v (r := r) (by decide) (Nat.le_of_ble_eq_true rfl) ?_
  intro p e s m args below meth c A Q ls hC hl hI
  obtain ⟨hX, hK, hN, hZ, hA, hR⟩ := id hC
  have hx : p.tables.exec = Jvm.exec := hX.1
  have hb : c.code = cX12_forgets := hX.2.1
  have hml : c.maxLocals = 3 := hX.2.2.1
  have hown : s.vm.findClass RX12 = some m.cls := hX.2.2.2.1
  have ht : ∀ w ∈ BIG, w.before args s = true := hX.2.2.2.2
  have hl : lv_has ls 3 [(0, .ref (ga g 59)), (1, .int p0)] := hl
  unfold f_X12_forgets at hm
  refine lv_aload_n hx hb dX12_forgets_0 rfl (lv_at hl 0 rfl) ?_
  refine gf_59_20 hx hb ht hK hI mw_770 (fun _ h9 => h9) hown dX12_forgets_1 ?_
  refine lv_iload_n hx hb dX12_forgets_4 rfl (lv_at hl 1 rfl) ?_
  refine lv_iconst (v := (-1)) hx hb dX12_forgets_5 (by decide) ?_
  obtain ⟨g1, hm⟩ := gb_some hm
  refine sv_75 hx hb hK hI g1 dX12_forgets_6 (fun H locs hI => ?_)
  refine lv_iconst (v := 0) hx hb dX12_forgets_7 (by decide) ?_
  refine lv_istore_n (lv' := [(2, .int 0), (0, .ref (ga g 59)), (1, .int p0)]) hx hb dX12_forgets_8 rfl hl (by decide) rfl (fun ls hl => ?_)
  refine lp_X12_forgets_9 hC N _ _ _ _ _ hm hI (lv_sub hl [1, 2, 0] rfl) ?_
  intro σ8 w9 H locs ls hm hI hl
  exact hR _ _ _ _ _ hm hI dX12_forgets_47
def f_X12_writes (N n : Nat) (σ : Sg) (p0 : Int32) : Option (Int32 × Sg) := if p0 = 0 then (some (1, σ)) else (if p0 = 1 then (some (1, σ)) else (if p0 = 2 then (some (1, σ)) else (if p0 = 7 then (some (1, σ)) else (if p0 = 13 then (some (1, σ)) else (some (0, σ))))))
set_option maxHeartbeats 4000000 in
set_option maxRecDepth 100000 in
theorem c_X12_writes {l : Launch} {g : GG} {q : Nat} (N n : Nat) {σ : Sg} {p0 : Int32} {r : Int32} {σ' : Sg} (hm : f_X12_writes N n σ p0 = some (r, σ')) : CTi l yX12_writes cX12_writes 1 (some .boolean) 0 0 g q n [.int p0] σ r σ' := by
  refine e_z (r := r) (by decide) (Nat.le_of_ble_eq_true rfl) ?_
  intro p e s m args below meth c A Q ls hC hl hI
  obtain ⟨hX, hK, hN, hZ, hA, hR⟩ := id hC
  have hx : p.tables.exec = Jvm.exec := hX.1
  have hb : c.code = cX12_writes := hX.2.1
  have hml : c.maxLocals = 1 := hX.2.2.1
  have hown : s.vm.findClass RX12 = some m.cls := hX.2.2.2.1
  have ht : ∀ w ∈ BIG, w.before args s = true := hX.2.2.2.2
  have hl : lv_has ls 1 [(0, .int p0)] := hl
  unfold f_X12_writes at hm
  refine lv_iload_n hx hb dX12_writes_0 rfl (lv_at hl 0 rfl) ?_
  refine lv_if_eq (tgt := 26) hx hb dX12_writes_1 (by decide) (fun c1 => ?_) (fun c1 => ?_)
  · have hm := (if_pos c1).symm.trans hm
    refine lv_iconst (v := 1) hx hb dX12_writes_26 (by decide) ?_
    refine lv_goto (tgt := 31) hx hb dX12_writes_27 (by decide) ?_
    exact hR _ _ _ _ _ _ hm hI (by decide) dX12_writes_31
  · have hm := (if_neg c1).symm.trans hm
    refine lv_iload_n hx hb dX12_writes_4 rfl (lv_at hl 0 rfl) ?_
    refine lv_iconst (v := 1) hx hb dX12_writes_5 (by decide) ?_
    refine lv_icmp_eq (tgt := 26) hx hb dX12_writes_6 (by decide) (fun c2 => ?_) (fun c2 => ?_)
    · have hm := (if_pos c2).symm.trans hm
      refine lv_iconst (v := 1) hx hb dX12_writes_26 (by decide) ?_
      refine lv_goto (tgt := 31) hx hb dX12_writes_27 (by decide) ?_
      exact hR _ _ _ _ _ _ hm hI (by decide) dX12_writes_31
    · have hm := (if_neg c2).symm.trans hm
      refine lv_iload_n hx hb dX12_writes_9 rfl (lv_at hl 0 rfl) ?_
      refine lv_iconst (v := 2) hx hb dX12_writes_10 (by decide) ?_
      refine lv_icmp_eq (tgt := 26) hx hb dX12_writes_11 (by decide) (fun c3 => ?_) (fun c3 => ?_)
      · have hm := (if_pos c3).symm.trans hm
        refine lv_iconst (v := 1) hx hb dX12_writes_26 (by decide) ?_
        refine lv_goto (tgt := 31) hx hb dX12_writes_27 (by decide) ?_
        exact hR _ _ _ _ _ _ hm hI (by decide) dX12_writes_31
      · have hm := (if_neg c3).symm.trans hm
        refine lv_iload_n hx hb dX12_writes_14 rfl (lv_at hl 0 rfl) ?_
        refine lv_bipush (v := 7) hx hb dX12_writes_15 (by decide) ?_
        refine lv_icmp_eq (tgt := 26) hx hb dX12_writes_17 (by decide) (fun c4 => ?_) (fun c4 => ?_)
        · have hm := (if_pos c4).symm.trans hm
          refine lv_iconst (v := 1) hx hb dX12_writes_26 (by decide) ?_
          refine lv_goto (tgt := 31) hx hb dX12_writes_27 (by decide) ?_
          exact hR _ _ _ _ _ _ hm hI (by decide) dX12_writes_31
        · have hm := (if_neg c4).symm.trans hm
          refine lv_iload_n hx hb dX12_writes_20 rfl (lv_at hl 0 rfl) ?_
          refine lv_bipush (v := 13) hx hb dX12_writes_21 (by decide) ?_
          refine lv_icmp_ne (tgt := 30) hx hb dX12_writes_23 (by decide) (fun c5 => ?_) (fun c5 => ?_)
          · have hm := (if_neg c5).symm.trans hm
            refine lv_iconst (v := 0) hx hb dX12_writes_30 (by decide) ?_
            exact hR _ _ _ _ _ _ hm hI (by decide) dX12_writes_31
          · have hm := (if_pos c5).symm.trans hm
            refine lv_iconst (v := 1) hx hb dX12_writes_26 (by decide) ?_
            refine lv_goto (tgt := 31) hx hb dX12_writes_27 (by decide) ?_
            exact hR _ _ _ _ _ _ hm hI (by decide) dX12_writes_31
def lb_X12_forward_20 (N n : Nat) (u1 : Int32) (u2 : Int32) (K87 : (Sg → Int32 → Option (Int32 × Sg))) (rec : (Sg → Int32 → Option (Int32 × Sg))) (σ : Sg) (v3 : Int32) : Option (Int32 × Sg) := gb u1 300 (if (σ 71 (ix u1)) ≤ v3 then (K87 σ v3) else (if u2 = 3 then (K87 σ v3) else (gb ((8 * u1) + v3) 2400 (gb (σ 70 (ix ((8 * u1) + v3))) 24 (if (σ 75 (ix (σ 70 (ix ((8 * u1) + v3))))) < 0 then (gb ((8 * u1) + v3) 2400 (rec (sg σ 70 (ix ((8 * u1) + v3)) (σ 70 (ix ((8 * u1) + v3)))) (v3 + 1))) else (gb (σ 70 (ix ((8 * u1) + v3))) 24 (gb ((8 * u1) + v3) 2400 (rec (sg σ 70 (ix ((8 * u1) + v3)) (σ 75 (ix (σ 70 (ix ((8 * u1) + v3)))))) (v3 + 1)))))))))
def lf_X12_forward_20 (N n : Nat) (u1 : Int32) (u2 : Int32) (K87 : (Sg → Int32 → Option (Int32 × Sg))) : Nat → (Sg → Int32 → Option (Int32 × Sg))
  | 0 => fun _ _ => none
  | k + 1 => lb_X12_forward_20 N n u1 u2 K87 (lf_X12_forward_20 N n u1 u2 K87 k)
def f_X12_forward (N n : Nat) (σ : Sg) (p0 : Int32) : Option (Int32 × Sg) := gb p0 300 (bd (f_X12_writes N n σ (σ 68 (ix p0))) (fun r2 σ3 => if r2 = 0 then (lf_X12_forward_20 N n p0 (σ 68 (ix p0)) (fun σ15 w16 => bd (f_X12_writes N n σ15 (σ 68 (ix p0))) (fun r17 σ18 => if r17 = 0 then (if (σ 68 (ix p0)) = 3 then (gb (8 * p0) 2400 (bd (f_X12_forgets N n σ18 (σ18 70 (ix (8 * p0)))) (fun r30 σ31 => gb ((8 * p0) + 1) 2400 (bd (f_X12_forgets N n σ31 (σ31 70 (ix ((8 * p0) + 1)))) (fun r34 σ35 => if (σ 68 (ix p0)) = 1 then (gb (8 * p0) 2400 (gb ((8 * p0) + 1) 2400 (if (σ35 70 (ix (8 * p0))) = (σ35 70 (ix ((8 * p0) + 1))) then (some (0, σ35)) else (gb (8 * p0) 2400 (gb ((8 * p0) + 1) 2400 (gb (σ35 70 (ix (8 * p0))) 24 (some (0, sg σ35 75 (ix (σ35 70 (ix (8 * p0)))) (σ35 70 (ix ((8 * p0) + 1))))))))))) else (some (0, σ35))))))) else (if (σ 68 (ix p0)) = 1 then (gb (8 * p0) 2400 (gb ((8 * p0) + 1) 2400 (if (σ18 70 (ix (8 * p0))) = (σ18 70 (ix ((8 * p0) + 1))) then (some (0, σ18)) else (gb (8 * p0) 2400 (gb ((8 * p0) + 1) 2400 (gb (σ18 70 (ix (8 * p0))) 24 (some (0, sg σ18 75 (ix (σ18 70 (ix (8 * p0)))) (σ18 70 (ix ((8 * p0) + 1))))))))))) else (some (0, σ18)))) else (gb (8 * p0) 2400 (bd (f_X12_forgets N n σ18 (σ18 70 (ix (8 * p0)))) (fun r45 σ46 => if (σ 68 (ix p0)) = 3 then (gb (8 * p0) 2400 (bd (f_X12_forgets N n σ46 (σ46 70 (ix (8 * p0)))) (fun r57 σ58 => gb ((8 * p0) + 1) 2400 (bd (f_X12_forgets N n σ58 (σ58 70 (ix ((8 * p0) + 1)))) (fun r61 σ62 => if (σ 68 (ix p0)) = 1 then (gb (8 * p0) 2400 (gb ((8 * p0) + 1) 2400 (if (σ62 70 (ix (8 * p0))) = (σ62 70 (ix ((8 * p0) + 1))) then (some (0, σ62)) else (gb (8 * p0) 2400 (gb ((8 * p0) + 1) 2400 (gb (σ62 70 (ix (8 * p0))) 24 (some (0, sg σ62 75 (ix (σ62 70 (ix (8 * p0)))) (σ62 70 (ix ((8 * p0) + 1))))))))))) else (some (0, σ62))))))) else (if (σ 68 (ix p0)) = 1 then (gb (8 * p0) 2400 (gb ((8 * p0) + 1) 2400 (if (σ46 70 (ix (8 * p0))) = (σ46 70 (ix ((8 * p0) + 1))) then (some (0, σ46)) else (gb (8 * p0) 2400 (gb ((8 * p0) + 1) 2400 (gb (σ46 70 (ix (8 * p0))) 24 (some (0, sg σ46 75 (ix (σ46 70 (ix (8 * p0)))) (σ46 70 (ix ((8 * p0) + 1))))))))))) else (some (0, σ46)))))))) N σ3 0) else (lf_X12_forward_20 N n p0 (σ 68 (ix p0)) (fun σ71 w72 => bd (f_X12_writes N n σ71 (σ 68 (ix p0))) (fun r73 σ74 => if r73 = 0 then (if (σ 68 (ix p0)) = 3 then (gb (8 * p0) 2400 (bd (f_X12_forgets N n σ74 (σ74 70 (ix (8 * p0)))) (fun r86 σ87 => gb ((8 * p0) + 1) 2400 (bd (f_X12_forgets N n σ87 (σ87 70 (ix ((8 * p0) + 1)))) (fun r90 σ91 => if (σ 68 (ix p0)) = 1 then (gb (8 * p0) 2400 (gb ((8 * p0) + 1) 2400 (if (σ91 70 (ix (8 * p0))) = (σ91 70 (ix ((8 * p0) + 1))) then (some (0, σ91)) else (gb (8 * p0) 2400 (gb ((8 * p0) + 1) 2400 (gb (σ91 70 (ix (8 * p0))) 24 (some (0, sg σ91 75 (ix (σ91 70 (ix (8 * p0)))) (σ91 70 (ix ((8 * p0) + 1))))))))))) else (some (0, σ91))))))) else (if (σ 68 (ix p0)) = 1 then (gb (8 * p0) 2400 (gb ((8 * p0) + 1) 2400 (if (σ74 70 (ix (8 * p0))) = (σ74 70 (ix ((8 * p0) + 1))) then (some (0, σ74)) else (gb (8 * p0) 2400 (gb ((8 * p0) + 1) 2400 (gb (σ74 70 (ix (8 * p0))) 24 (some (0, sg σ74 75 (ix (σ74 70 (ix (8 * p0)))) (σ74 70 (ix ((8 * p0) + 1))))))))))) else (some (0, σ74)))) else (gb (8 * p0) 2400 (bd (f_X12_forgets N n σ74 (σ74 70 (ix (8 * p0)))) (fun r101 σ102 => if (σ 68 (ix p0)) = 3 then (gb (8 * p0) 2400 (bd (f_X12_forgets N n σ102 (σ102 70 (ix (8 * p0)))) (fun r113 σ114 => gb ((8 * p0) + 1) 2400 (bd (f_X12_forgets N n σ114 (σ114 70 (ix ((8 * p0) + 1)))) (fun r117 σ118 => if (σ 68 (ix p0)) = 1 then (gb (8 * p0) 2400 (gb ((8 * p0) + 1) 2400 (if (σ118 70 (ix (8 * p0))) = (σ118 70 (ix ((8 * p0) + 1))) then (some (0, σ118)) else (gb (8 * p0) 2400 (gb ((8 * p0) + 1) 2400 (gb (σ118 70 (ix (8 * p0))) 24 (some (0, sg σ118 75 (ix (σ118 70 (ix (8 * p0)))) (σ118 70 (ix ((8 * p0) + 1))))))))))) else (some (0, σ118))))))) else (if (σ 68 (ix p0)) = 1 then (gb (8 * p0) 2400 (gb ((8 * p0) + 1) 2400 (if (σ102 70 (ix (8 * p0))) = (σ102 70 (ix ((8 * p0) + 1))) then (some (0, σ102)) else (gb (8 * p0) 2400 (gb ((8 * p0) + 1) 2400 (gb (σ102 70 (ix (8 * p0))) 24 (some (0, sg σ102 75 (ix (σ102 70 (ix (8 * p0)))) (σ102 70 (ix ((8 * p0) + 1))))))))))) else (some (0, σ102)))))))) N σ3 1)))
set_option maxHeartbeats 4000000 in
set_option maxRecDepth 100000 in
theorem lp_X12_forward_20 {p : Program} {l : Launch} {e : Env} {s : State} {m : MethodId} {args : Array Value} {below : List Frame} {meth : Method} {c : Code} {Q : State → Prop} {A : Nat → Prop} {g : GG} {q N n : Nat} {out : Int32 × Sg} {u1 : Int32} {u2 : Int32} {K87 : (Sg → Int32 → Option (Int32 × Sg))}
    (hC : CXv p l e (qR 1 22) s m args below meth c cX12_forward 5 RX12 g q n A Q (some out)) :
    ∀ (k : Nat) (σ : Sg) (v3 : Int32) (H : Heap) (locs : List Loc) (ls : Array Slot), lf_X12_forward_20 N n u1 u2 K87 k σ v3 = some out → wI g q n σ A s.heap H locs → lv_has ls 5 [(0, .ref (ga g 59)), (1, .int u1), (2, .int u2), (3, .int v3)] → (∀ (σ : Sg) (v3 : Int32) (H : Heap) (locs : List Loc) (ls : Array Slot), K87 σ v3 = some out → wI g q n σ A s.heap H locs → lv_has ls 5 [(0, .ref (ga g 59)), (1, .int u1), (2, .int u2)] → W p l e (qR 1 22) s m args below meth c H locs 0 0 Q (F0 m 87 ls [])) → W p l e (qR 1 22) s m args below meth c H locs 0 0 Q (F0 m 20 ls []) := by
  obtain ⟨hX, hK, hN, hZ, hA, hR⟩ := id hC
  have hx : p.tables.exec = Jvm.exec := hX.1
  have hb : c.code = cX12_forward := hX.2.1
  have hml : c.maxLocals = 5 := hX.2.2.1
  have hown : s.vm.findClass RX12 = some m.cls := hX.2.2.2.1
  have ht : ∀ w ∈ BIG, w.before args s = true := hX.2.2.2.2
  intro k
  induction k with
  | zero =>
    intro σ v3 H locs ls hm
    have hm : none = some out := hm
    exact nomatch hm
  | succ k ih =>
    intro σ v3 H locs ls hm hI hl hx87
    have hm : lb_X12_forward_20 N n u1 u2 K87 (lf_X12_forward_20 N n u1 u2 K87 k) σ v3 = some out := hm
    unfold lb_X12_forward_20 at hm
    refine lv_iload_n hx hb dX12_forward_20 rfl (lv_at hl 3 rfl) ?_
    refine lv_aload_n hx hb dX12_forward_21 rfl (lv_at hl 0 rfl) ?_
    refine gf_59_16 hx hb ht hK hI mw_766 (fun _ h9 => h9) hown dX12_forward_22 ?_
    refine lv_iload_n hx hb dX12_forward_25 rfl (lv_at hl 1 rfl) ?_
    obtain ⟨g6, hm⟩ := gb_some hm
    refine ld_71 hx hb hK hI g6 (v := σ 71 (ix u1)) rfl dX12_forward_26 ?_
    refine lv_icmp_ge (tgt := 87) hx hb dX12_forward_27 (by decide) (fun c7 => ?_) (fun c7 => ?_)
    · have hm := (if_pos c7).symm.trans hm
      exact hx87 σ v3 _ _ _ hm hI (lv_sub hl [0, 1, 2] rfl)
    · have hm := (if_neg c7).symm.trans hm
      refine lv_iload_n hx hb dX12_forward_30 rfl (lv_at hl 2 rfl) ?_
      refine lv_iconst (v := 3) hx hb dX12_forward_31 (by decide) ?_
      refine lv_icmp_eq (tgt := 87) hx hb dX12_forward_32 (by decide) (fun c8 => ?_) (fun c8 => ?_)
      · have hm := (if_pos c8).symm.trans hm
        exact hx87 σ v3 _ _ _ hm hI (lv_sub hl [0, 1, 2] rfl)
      · have hm := (if_neg c8).symm.trans hm
        refine lv_aload_n hx hb dX12_forward_35 rfl (lv_at hl 0 rfl) ?_
        refine gf_59_15 hx hb ht hK hI mw_765 (fun _ h9 => h9) hown dX12_forward_36 ?_
        refine lv_bipush (v := 8) hx hb dX12_forward_39 (by decide) ?_
        refine lv_iload_n hx hb dX12_forward_41 rfl (lv_at hl 1 rfl) ?_
        refine lv_imul hx hb dX12_forward_42 ?_
        refine lv_iload_n hx hb dX12_forward_43 rfl (lv_at hl 3 rfl) ?_
        refine lv_iadd hx hb dX12_forward_44 ?_
        obtain ⟨g9, hm⟩ := gb_some hm
        refine ld_70 hx hb hK hI g9 (v := σ 70 (ix ((8 * u1) + v3))) rfl dX12_forward_45 ?_
        refine lv_istore (lv' := [(4, .int (σ 70 (ix ((8 * u1) + v3)))), (0, .ref (ga g 59)), (1, .int u1), (2, .int u2), (3, .int v3)]) hx hb dX12_forward_46 hl (by decide) rfl (fun ls hl => ?_)
        refine lv_aload_n hx hb dX12_forward_48 rfl (lv_at hl 1 rfl) ?_
        refine gf_59_15 hx hb ht hK hI mw_765 (fun _ h9 => h9) hown dX12_forward_49 ?_
        refine lv_bipush (v := 8) hx hb dX12_forward_52 (by decide) ?_
        refine lv_iload_n hx hb dX12_forward_54 rfl (lv_at hl 2 rfl) ?_
        refine lv_imul hx hb dX12_forward_55 ?_
        refine lv_iload_n hx hb dX12_forward_56 rfl (lv_at hl 4 rfl) ?_
        refine lv_iadd hx hb dX12_forward_57 ?_
        refine lv_aload_n hx hb dX12_forward_58 rfl (lv_at hl 1 rfl) ?_
        refine gf_59_20 hx hb ht hK hI mw_770 (fun _ h9 => h9) hown dX12_forward_59 ?_
        refine lv_iload hx hb dX12_forward_62 (lv_at hl 0 rfl) ?_
        obtain ⟨g10, hm⟩ := gb_some hm
        refine ld_75 hx hb hK hI g10 (v := σ 75 (ix (σ 70 (ix ((8 * u1) + v3))))) rfl dX12_forward_64 ?_
        refine lv_if_lt (tgt := 78) hx hb dX12_forward_65 (by decide) (fun c11 => ?_) (fun c11 => ?_)
        · have hm := (if_pos c11).symm.trans hm
          refine lv_iload hx hb dX12_forward_78 (lv_at hl 0 rfl) ?_
          obtain ⟨g12, hm⟩ := gb_some hm
          refine sv_70 hx hb hK hI g12 dX12_forward_80 (fun H locs hI => ?_)
          refine lv_iinc (v := v3 + 1) (lv' := [(3, .int (v3 + 1)), (4, .int (σ 70 (ix ((8 * u1) + v3)))), (0, .ref (ga g 59)), (1, .int u1), (2, .int u2)]) hx hb dX12_forward_81 hl (k := 4) rfl (congrArg (fun z => v3 + z) (show Int32.ofInt 1 = 1 by decide)) (by decide) rfl (fun ls hl => ?_)
          refine lv_goto (tgt := 20) hx hb dX12_forward_84 (by decide) ?_
          exact ih (sg σ 70 (ix ((8 * u1) + v3)) (σ 70 (ix ((8 * u1) + v3)))) (v3 + 1) _ _ _ hm hI (lv_sub hl [2, 3, 4, 0] rfl) hx87
        · have hm := (if_neg c11).symm.trans hm
          refine lv_aload_n hx hb dX12_forward_68 rfl (lv_at hl 1 rfl) ?_
          refine gf_59_20 hx hb ht hK hI mw_770 (fun _ h9 => h9) hown dX12_forward_69 ?_
          refine lv_iload hx hb dX12_forward_72 (lv_at hl 0 rfl) ?_
          obtain ⟨g13, hm⟩ := gb_some hm
          refine ld_75 hx hb hK hI g13 (v := σ 75 (ix (σ 70 (ix ((8 * u1) + v3))))) rfl dX12_forward_74 ?_
          refine lv_goto (tgt := 80) hx hb dX12_forward_75 (by decide) ?_
          obtain ⟨g14, hm⟩ := gb_some hm
          refine sv_70 hx hb hK hI g14 dX12_forward_80 (fun H locs hI => ?_)
          refine lv_iinc (v := v3 + 1) (lv' := [(3, .int (v3 + 1)), (4, .int (σ 70 (ix ((8 * u1) + v3)))), (0, .ref (ga g 59)), (1, .int u1), (2, .int u2)]) hx hb dX12_forward_81 hl (k := 4) rfl (congrArg (fun z => v3 + z) (show Int32.ofInt 1 = 1 by decide)) (by decide) rfl (fun ls hl => ?_)
          refine lv_goto (tgt := 20) hx hb dX12_forward_84 (by decide) ?_
          exact ih (sg σ 70 (ix ((8 * u1) + v3)) (σ 75 (ix (σ 70 (ix ((8 * u1) + v3)))))) (v3 + 1) _ _ _ hm hI (lv_sub hl [2, 3, 4, 0] rfl) hx87
set_option maxHeartbeats 4000000 in
set_option maxRecDepth 100000 in
theorem c_X12_forward {l : Launch} {g : GG} {q : Nat} (N n : Nat) {σ : Sg} {p0 : Int32} {r : Int32} {σ' : Sg} (hm : f_X12_forward N n σ p0 = some (r, σ')) : CTv l yX12_forward cX12_forward 5 none 1 22 g q n [.ref (ga g 59), .int p0] σ σ' := by
  refine e_v (r := r) (by decide) (Nat.le_of_ble_eq_true rfl) ?_
  intro p e s m args below meth c A Q ls hC hl hI
  obtain ⟨hX, hK, hN, hZ, hA, hR⟩ := id hC
  have hx : p.tables.exec = Jvm.exec := hX.1
  have hb : c.code = cX12_forward := hX.2.1
  have hml : c.maxLocals = 5 := hX.2.2.1
  have hown : s.vm.findClass RX12 = some m.cls := hX.2.2.2.1
  have ht : ∀ w ∈ BIG, w.before args s = true := hX.2.2.2.2
  have hl : lv_has ls 5 [(0, .ref (ga g 59)), (1, .int p0)] := hl
  unfold f_X12_forward at hm
  refine lv_aload_n hx hb dX12_forward_0 rfl (lv_at hl 0 rfl) ?_
  refine gf_59_13 hx hb ht hK hI mw_763 (fun _ h9 => h9) hown dX12_forward_1 ?_
  refine lv_iload_n hx hb dX12_forward_4 rfl (lv_at hl 1 rfl) ?_
  obtain ⟨g1, hm⟩ := gb_some hm
  refine ld_68 hx hb hK hI g1 (v := σ 68 (ix p0)) rfl dX12_forward_5 ?_
  refine lv_istore_n (lv' := [(2, .int (σ 68 (ix p0))), (0, .ref (ga g 59)), (1, .int p0)]) hx hb dX12_forward_6 rfl hl (by decide) rfl (fun ls hl => ?_)
  refine lv_iload_n hx hb dX12_forward_7 rfl (lv_at hl 0 rfl) ?_
  obtain ⟨r2, σ3, h4, hm⟩ := bd_some hm
  refine k_i hI hA (va_runS (As := [.int (σ 68 (ix p0))]) (rest := []) hX (c_X12_writes N n h4 _) (va_cwS 1 ht (in_S mw_907 mw_908 mw_861 mw_890) rfl rfl rfl pd_X12_writes ⟨Nat.le_of_ble_eq_true rfl, Nat.le_of_ble_eq_true rfl⟩) ⟨q_blind, q_to hI hK hN hZ hA⟩ rfl rfl hl.1 rfl (lv_room (Nat.le_of_ble_eq_true rfl)) dX12_forward_8 (by decide)) (fun H locs hI => ?_)
  refine lv_if_eq (tgt := 18) hx hb dX12_forward_11 (by decide) (fun c5 => ?_) (fun c5 => ?_)
  · have hm := (if_pos c5).symm.trans hm
    refine lv_iconst (v := 0) hx hb dX12_forward_18 (by decide) ?_
    refine lv_istore_n (lv' := [(3, .int 0), (2, .int (σ 68 (ix p0))), (0, .ref (ga g 59)), (1, .int p0)]) hx hb dX12_forward_19 rfl hl (by decide) rfl (fun ls hl => ?_)
    refine lp_X12_forward_20 hC N _ _ _ _ _ hm hI (lv_sub hl [2, 3, 1, 0] rfl) ?_
    intro σ15 w16 H locs ls hm hI hl
    refine lv_iload_n hx hb dX12_forward_87 rfl (lv_at hl 2 rfl) ?_
    obtain ⟨r17, σ18, h19, hm⟩ := bd_some hm
    refine k_i hI hA (va_runS (As := [.int (σ 68 (ix p0))]) (rest := []) hX (c_X12_writes N n h19 _) (va_cwS 1 ht (in_S mw_907 mw_908 mw_861 mw_890) rfl rfl rfl pd_X12_writes ⟨Nat.le_of_ble_eq_true rfl, Nat.le_of_ble_eq_true rfl⟩) ⟨q_blind, q_to hI hK hN hZ hA⟩ rfl rfl hl.1 rfl (lv_room (Nat.le_of_ble_eq_true rfl)) dX12_forward_88 (by decide)) (fun H locs hI => ?_)
    refine lv_if_eq (tgt := 107) hx hb dX12_forward_91 (by decide) (fun c20 => ?_) (fun c20 => ?_)
    · have hm := (if_pos c20).symm.trans hm
      refine lv_iload_n hx hb dX12_forward_107 rfl (lv_at hl 2 rfl) ?_
      refine lv_iconst (v := 3) hx hb dX12_forward_108 (by decide) ?_
      refine lv_icmp_ne (tgt := 140) hx hb dX12_forward_109 (by decide) (fun c21 => ?_) (fun c21 => ?_)
      · have hm := (if_neg c21).symm.trans hm
        refine lv_iload_n hx hb dX12_forward_140 rfl (lv_at hl 2 rfl) ?_
        refine lv_iconst (v := 1) hx hb dX12_forward_141 (by decide) ?_
        refine lv_icmp_ne (tgt := 193) hx hb dX12_forward_142 (by decide) (fun c22 => ?_) (fun c22 => ?_)
        · have hm := (if_neg c22).symm.trans hm
          exact hR _ _ _ _ _ hm hI dX12_forward_193
        · have hm := (if_pos c22).symm.trans hm
          refine lv_aload_n hx hb dX12_forward_145 rfl (lv_at hl 0 rfl) ?_
          refine gf_59_15 hx hb ht hK hI mw_765 (fun _ h9 => h9) hown dX12_forward_146 ?_
          refine lv_bipush (v := 8) hx hb dX12_forward_149 (by decide) ?_
          refine lv_iload_n hx hb dX12_forward_151 rfl (lv_at hl 1 rfl) ?_
          refine lv_imul hx hb dX12_forward_152 ?_
          obtain ⟨g23, hm⟩ := gb_some hm
          refine ld_70 hx hb hK hI g23 (v := σ18 70 (ix (8 * p0))) rfl dX12_forward_153 ?_
          refine lv_aload_n hx hb dX12_forward_154 rfl (lv_at hl 0 rfl) ?_
          refine gf_59_15 hx hb ht hK hI mw_765 (fun _ h9 => h9) hown dX12_forward_155 ?_
          refine lv_bipush (v := 8) hx hb dX12_forward_158 (by decide) ?_
          refine lv_iload_n hx hb dX12_forward_160 rfl (lv_at hl 1 rfl) ?_
          refine lv_imul hx hb dX12_forward_161 ?_
          refine lv_iconst (v := 1) hx hb dX12_forward_162 (by decide) ?_
          refine lv_iadd hx hb dX12_forward_163 ?_
          obtain ⟨g24, hm⟩ := gb_some hm
          refine ld_70 hx hb hK hI g24 (v := σ18 70 (ix ((8 * p0) + 1))) rfl dX12_forward_164 ?_
          refine lv_icmp_eq (tgt := 193) hx hb dX12_forward_165 (by decide) (fun c25 => ?_) (fun c25 => ?_)
          · have hm := (if_pos c25).symm.trans hm
            exact hR _ _ _ _ _ hm hI dX12_forward_193
          · have hm := (if_neg c25).symm.trans hm
            refine lv_aload_n hx hb dX12_forward_168 rfl (lv_at hl 0 rfl) ?_
            refine gf_59_20 hx hb ht hK hI mw_770 (fun _ h9 => h9) hown dX12_forward_169 ?_
            refine lv_aload_n hx hb dX12_forward_172 rfl (lv_at hl 0 rfl) ?_
            refine gf_59_15 hx hb ht hK hI mw_765 (fun _ h9 => h9) hown dX12_forward_173 ?_
            refine lv_bipush (v := 8) hx hb dX12_forward_176 (by decide) ?_
            refine lv_iload_n hx hb dX12_forward_178 rfl (lv_at hl 1 rfl) ?_
            refine lv_imul hx hb dX12_forward_179 ?_
            obtain ⟨g26, hm⟩ := gb_some hm
            refine ld_70 hx hb hK hI g26 (v := σ18 70 (ix (8 * p0))) rfl dX12_forward_180 ?_
            refine lv_aload_n hx hb dX12_forward_181 rfl (lv_at hl 0 rfl) ?_
            refine gf_59_15 hx hb ht hK hI mw_765 (fun _ h9 => h9) hown dX12_forward_182 ?_
            refine lv_bipush (v := 8) hx hb dX12_forward_185 (by decide) ?_
            refine lv_iload_n hx hb dX12_forward_187 rfl (lv_at hl 1 rfl) ?_
            refine lv_imul hx hb dX12_forward_188 ?_
            refine lv_iconst (v := 1) hx hb dX12_forward_189 (by decide) ?_
            refine lv_iadd hx hb dX12_forward_190 ?_
            obtain ⟨g27, hm⟩ := gb_some hm
            refine ld_70 hx hb hK hI g27 (v := σ18 70 (ix ((8 * p0) + 1))) rfl dX12_forward_191 ?_
            obtain ⟨g28, hm⟩ := gb_some hm
            refine sv_75 hx hb hK hI g28 dX12_forward_192 (fun H locs hI => ?_)
            exact hR _ _ _ _ _ hm hI dX12_forward_193
      · have hm := (if_pos c21).symm.trans hm
        refine lv_aload_n hx hb dX12_forward_112 rfl (lv_at hl 0 rfl) ?_
        refine lv_aload_n hx hb dX12_forward_113 rfl (lv_at hl 0 rfl) ?_
        refine gf_59_15 hx hb ht hK hI mw_765 (fun _ h9 => h9) hown dX12_forward_114 ?_
        refine lv_bipush (v := 8) hx hb dX12_forward_117 (by decide) ?_
        refine lv_iload_n hx hb dX12_forward_119 rfl (lv_at hl 1 rfl) ?_
        refine lv_imul hx hb dX12_forward_120 ?_
        obtain ⟨g29, hm⟩ := gb_some hm
        refine ld_70 hx hb hK hI g29 (v := σ18 70 (ix (8 * p0))) rfl dX12_forward_121 ?_
        obtain ⟨r30, σ31, h32, hm⟩ := bd_some hm
        refine k_v hI hA (va_runV (As := [.int (σ18 70 (ix (8 * p0)))]) (rest := []) hX (c_X12_forgets N n h32 _) (cwV 1 ht (in_V mw_909 mw_910 mw_911 mw_861 mw_905) rfl rfl rfl pd_X12_forgets ⟨Nat.le_of_ble_eq_true rfl, Nat.le_of_ble_eq_true rfl⟩) ⟨q_blind, va_recv hK hI.1 (ci := 11) (q0 := 59) rfl rfl, q_to hI hK hN hZ hA⟩ rfl rfl hl.1 rfl (lv_room (Nat.le_of_ble_eq_true rfl)) dX12_forward_122 (by decide)) (fun H locs hI => ?_)
        refine lv_aload_n hx hb dX12_forward_125 rfl (lv_at hl 0 rfl) ?_
        refine lv_aload_n hx hb dX12_forward_126 rfl (lv_at hl 0 rfl) ?_
        refine gf_59_15 hx hb ht hK hI mw_765 (fun _ h9 => h9) hown dX12_forward_127 ?_
        refine lv_bipush (v := 8) hx hb dX12_forward_130 (by decide) ?_
        refine lv_iload_n hx hb dX12_forward_132 rfl (lv_at hl 1 rfl) ?_
        refine lv_imul hx hb dX12_forward_133 ?_
        refine lv_iconst (v := 1) hx hb dX12_forward_134 (by decide) ?_
        refine lv_iadd hx hb dX12_forward_135 ?_
        obtain ⟨g33, hm⟩ := gb_some hm
        refine ld_70 hx hb hK hI g33 (v := σ31 70 (ix ((8 * p0) + 1))) rfl dX12_forward_136 ?_
        obtain ⟨r34, σ35, h36, hm⟩ := bd_some hm
        refine k_v hI hA (va_runV (As := [.int (σ31 70 (ix ((8 * p0) + 1)))]) (rest := []) hX (c_X12_forgets N n h36 _) (cwV 1 ht (in_V mw_909 mw_910 mw_911 mw_861 mw_905) rfl rfl rfl pd_X12_forgets ⟨Nat.le_of_ble_eq_true rfl, Nat.le_of_ble_eq_true rfl⟩) ⟨q_blind, va_recv hK hI.1 (ci := 11) (q0 := 59) rfl rfl, q_to hI hK hN hZ hA⟩ rfl rfl hl.1 rfl (lv_room (Nat.le_of_ble_eq_true rfl)) dX12_forward_137 (by decide)) (fun H locs hI => ?_)
        refine lv_iload_n hx hb dX12_forward_140 rfl (lv_at hl 2 rfl) ?_
        refine lv_iconst (v := 1) hx hb dX12_forward_141 (by decide) ?_
        refine lv_icmp_ne (tgt := 193) hx hb dX12_forward_142 (by decide) (fun c37 => ?_) (fun c37 => ?_)
        · have hm := (if_neg c37).symm.trans hm
          exact hR _ _ _ _ _ hm hI dX12_forward_193
        · have hm := (if_pos c37).symm.trans hm
          refine lv_aload_n hx hb dX12_forward_145 rfl (lv_at hl 0 rfl) ?_
          refine gf_59_15 hx hb ht hK hI mw_765 (fun _ h9 => h9) hown dX12_forward_146 ?_
          refine lv_bipush (v := 8) hx hb dX12_forward_149 (by decide) ?_
          refine lv_iload_n hx hb dX12_forward_151 rfl (lv_at hl 1 rfl) ?_
          refine lv_imul hx hb dX12_forward_152 ?_
          obtain ⟨g38, hm⟩ := gb_some hm
          refine ld_70 hx hb hK hI g38 (v := σ35 70 (ix (8 * p0))) rfl dX12_forward_153 ?_
          refine lv_aload_n hx hb dX12_forward_154 rfl (lv_at hl 0 rfl) ?_
          refine gf_59_15 hx hb ht hK hI mw_765 (fun _ h9 => h9) hown dX12_forward_155 ?_
          refine lv_bipush (v := 8) hx hb dX12_forward_158 (by decide) ?_
          refine lv_iload_n hx hb dX12_forward_160 rfl (lv_at hl 1 rfl) ?_
          refine lv_imul hx hb dX12_forward_161 ?_
          refine lv_iconst (v := 1) hx hb dX12_forward_162 (by decide) ?_
          refine lv_iadd hx hb dX12_forward_163 ?_
          obtain ⟨g39, hm⟩ := gb_some hm
          refine ld_70 hx hb hK hI g39 (v := σ35 70 (ix ((8 * p0) + 1))) rfl dX12_forward_164 ?_
          refine lv_icmp_eq (tgt := 193) hx hb dX12_forward_165 (by decide) (fun c40 => ?_) (fun c40 => ?_)
          · have hm := (if_pos c40).symm.trans hm
            exact hR _ _ _ _ _ hm hI dX12_forward_193
          · have hm := (if_neg c40).symm.trans hm
            refine lv_aload_n hx hb dX12_forward_168 rfl (lv_at hl 0 rfl) ?_
            refine gf_59_20 hx hb ht hK hI mw_770 (fun _ h9 => h9) hown dX12_forward_169 ?_
            refine lv_aload_n hx hb dX12_forward_172 rfl (lv_at hl 0 rfl) ?_
            refine gf_59_15 hx hb ht hK hI mw_765 (fun _ h9 => h9) hown dX12_forward_173 ?_
            refine lv_bipush (v := 8) hx hb dX12_forward_176 (by decide) ?_
            refine lv_iload_n hx hb dX12_forward_178 rfl (lv_at hl 1 rfl) ?_
            refine lv_imul hx hb dX12_forward_179 ?_
            obtain ⟨g41, hm⟩ := gb_some hm
            refine ld_70 hx hb hK hI g41 (v := σ35 70 (ix (8 * p0))) rfl dX12_forward_180 ?_
            refine lv_aload_n hx hb dX12_forward_181 rfl (lv_at hl 0 rfl) ?_
            refine gf_59_15 hx hb ht hK hI mw_765 (fun _ h9 => h9) hown dX12_forward_182 ?_
            refine lv_bipush (v := 8) hx hb dX12_forward_185 (by decide) ?_
            refine lv_iload_n hx hb dX12_forward_187 rfl (lv_at hl 1 rfl) ?_
            refine lv_imul hx hb dX12_forward_188 ?_
            refine lv_iconst (v := 1) hx hb dX12_forward_189 (by decide) ?_
            refine lv_iadd hx hb dX12_forward_190 ?_
            obtain ⟨g42, hm⟩ := gb_some hm
            refine ld_70 hx hb hK hI g42 (v := σ35 70 (ix ((8 * p0) + 1))) rfl dX12_forward_191 ?_
            obtain ⟨g43, hm⟩ := gb_some hm
            refine sv_75 hx hb hK hI g43 dX12_forward_192 (fun H locs hI => ?_)
            exact hR _ _ _ _ _ hm hI dX12_forward_193
    · have hm := (if_neg c20).symm.trans hm
      refine lv_aload_n hx hb dX12_forward_94 rfl (lv_at hl 0 rfl) ?_
      refine lv_aload_n hx hb dX12_forward_95 rfl (lv_at hl 0 rfl) ?_
      refine gf_59_15 hx hb ht hK hI mw_765 (fun _ h9 => h9) hown dX12_forward_96 ?_
      refine lv_bipush (v := 8) hx hb dX12_forward_99 (by decide) ?_
      refine lv_iload_n hx hb dX12_forward_101 rfl (lv_at hl 1 rfl) ?_
      refine lv_imul hx hb dX12_forward_102 ?_
      obtain ⟨g44, hm⟩ := gb_some hm
      refine ld_70 hx hb hK hI g44 (v := σ18 70 (ix (8 * p0))) rfl dX12_forward_103 ?_
      obtain ⟨r45, σ46, h47, hm⟩ := bd_some hm
      refine k_v hI hA (va_runV (As := [.int (σ18 70 (ix (8 * p0)))]) (rest := []) hX (c_X12_forgets N n h47 _) (cwV 1 ht (in_V mw_909 mw_910 mw_911 mw_861 mw_905) rfl rfl rfl pd_X12_forgets ⟨Nat.le_of_ble_eq_true rfl, Nat.le_of_ble_eq_true rfl⟩) ⟨q_blind, va_recv hK hI.1 (ci := 11) (q0 := 59) rfl rfl, q_to hI hK hN hZ hA⟩ rfl rfl hl.1 rfl (lv_room (Nat.le_of_ble_eq_true rfl)) dX12_forward_104 (by decide)) (fun H locs hI => ?_)
      refine lv_iload_n hx hb dX12_forward_107 rfl (lv_at hl 2 rfl) ?_
      refine lv_iconst (v := 3) hx hb dX12_forward_108 (by decide) ?_
      refine lv_icmp_ne (tgt := 140) hx hb dX12_forward_109 (by decide) (fun c48 => ?_) (fun c48 => ?_)
      · have hm := (if_neg c48).symm.trans hm
        refine lv_iload_n hx hb dX12_forward_140 rfl (lv_at hl 2 rfl) ?_
        refine lv_iconst (v := 1) hx hb dX12_forward_141 (by decide) ?_
        refine lv_icmp_ne (tgt := 193) hx hb dX12_forward_142 (by decide) (fun c49 => ?_) (fun c49 => ?_)
        · have hm := (if_neg c49).symm.trans hm
          exact hR _ _ _ _ _ hm hI dX12_forward_193
        · have hm := (if_pos c49).symm.trans hm
          refine lv_aload_n hx hb dX12_forward_145 rfl (lv_at hl 0 rfl) ?_
          refine gf_59_15 hx hb ht hK hI mw_765 (fun _ h9 => h9) hown dX12_forward_146 ?_
          refine lv_bipush (v := 8) hx hb dX12_forward_149 (by decide) ?_
          refine lv_iload_n hx hb dX12_forward_151 rfl (lv_at hl 1 rfl) ?_
          refine lv_imul hx hb dX12_forward_152 ?_
          obtain ⟨g50, hm⟩ := gb_some hm
          refine ld_70 hx hb hK hI g50 (v := σ46 70 (ix (8 * p0))) rfl dX12_forward_153 ?_
          refine lv_aload_n hx hb dX12_forward_154 rfl (lv_at hl 0 rfl) ?_
          refine gf_59_15 hx hb ht hK hI mw_765 (fun _ h9 => h9) hown dX12_forward_155 ?_
          refine lv_bipush (v := 8) hx hb dX12_forward_158 (by decide) ?_
          refine lv_iload_n hx hb dX12_forward_160 rfl (lv_at hl 1 rfl) ?_
          refine lv_imul hx hb dX12_forward_161 ?_
          refine lv_iconst (v := 1) hx hb dX12_forward_162 (by decide) ?_
          refine lv_iadd hx hb dX12_forward_163 ?_
          obtain ⟨g51, hm⟩ := gb_some hm
          refine ld_70 hx hb hK hI g51 (v := σ46 70 (ix ((8 * p0) + 1))) rfl dX12_forward_164 ?_
          refine lv_icmp_eq (tgt := 193) hx hb dX12_forward_165 (by decide) (fun c52 => ?_) (fun c52 => ?_)
          · have hm := (if_pos c52).symm.trans hm
            exact hR _ _ _ _ _ hm hI dX12_forward_193
          · have hm := (if_neg c52).symm.trans hm
            refine lv_aload_n hx hb dX12_forward_168 rfl (lv_at hl 0 rfl) ?_
            refine gf_59_20 hx hb ht hK hI mw_770 (fun _ h9 => h9) hown dX12_forward_169 ?_
            refine lv_aload_n hx hb dX12_forward_172 rfl (lv_at hl 0 rfl) ?_
            refine gf_59_15 hx hb ht hK hI mw_765 (fun _ h9 => h9) hown dX12_forward_173 ?_
            refine lv_bipush (v := 8) hx hb dX12_forward_176 (by decide) ?_
            refine lv_iload_n hx hb dX12_forward_178 rfl (lv_at hl 1 rfl) ?_
            refine lv_imul hx hb dX12_forward_179 ?_
            obtain ⟨g53, hm⟩ := gb_some hm
            refine ld_70 hx hb hK hI g53 (v := σ46 70 (ix (8 * p0))) rfl dX12_forward_180 ?_
            refine lv_aload_n hx hb dX12_forward_181 rfl (lv_at hl 0 rfl) ?_
            refine gf_59_15 hx hb ht hK hI mw_765 (fun _ h9 => h9) hown dX12_forward_182 ?_
            refine lv_bipush (v := 8) hx hb dX12_forward_185 (by decide) ?_
            refine lv_iload_n hx hb dX12_forward_187 rfl (lv_at hl 1 rfl) ?_
            refine lv_imul hx hb dX12_forward_188 ?_
            refine lv_iconst (v := 1) hx hb dX12_forward_189 (by decide) ?_
            refine lv_iadd hx hb dX12_forward_190 ?_
            obtain ⟨g54, hm⟩ := gb_some hm
            refine ld_70 hx hb hK hI g54 (v := σ46 70 (ix ((8 * p0) + 1))) rfl dX12_forward_191 ?_
            obtain ⟨g55, hm⟩ := gb_some hm
            refine sv_75 hx hb hK hI g55 dX12_forward_192 (fun H locs hI => ?_)
            exact hR _ _ _ _ _ hm hI dX12_forward_193
      · have hm := (if_pos c48).symm.trans hm
        refine lv_aload_n hx hb dX12_forward_112 rfl (lv_at hl 0 rfl) ?_
        refine lv_aload_n hx hb dX12_forward_113 rfl (lv_at hl 0 rfl) ?_
        refine gf_59_15 hx hb ht hK hI mw_765 (fun _ h9 => h9) hown dX12_forward_114 ?_
        refine lv_bipush (v := 8) hx hb dX12_forward_117 (by decide) ?_
        refine lv_iload_n hx hb dX12_forward_119 rfl (lv_at hl 1 rfl) ?_
        refine lv_imul hx hb dX12_forward_120 ?_
        obtain ⟨g56, hm⟩ := gb_some hm
        refine ld_70 hx hb hK hI g56 (v := σ46 70 (ix (8 * p0))) rfl dX12_forward_121 ?_
        obtain ⟨r57, σ58, h59, hm⟩ := bd_some hm
        refine k_v hI hA (va_runV (As := [.int (σ46 70 (ix (8 * p0)))]) (rest := []) hX (c_X12_forgets N n h59 _) (cwV 1 ht (in_V mw_909 mw_910 mw_911 mw_861 mw_905) rfl rfl rfl pd_X12_forgets ⟨Nat.le_of_ble_eq_true rfl, Nat.le_of_ble_eq_true rfl⟩) ⟨q_blind, va_recv hK hI.1 (ci := 11) (q0 := 59) rfl rfl, q_to hI hK hN hZ hA⟩ rfl rfl hl.1 rfl (lv_room (Nat.le_of_ble_eq_true rfl)) dX12_forward_122 (by decide)) (fun H locs hI => ?_)
        refine lv_aload_n hx hb dX12_forward_125 rfl (lv_at hl 0 rfl) ?_
        refine lv_aload_n hx hb dX12_forward_126 rfl (lv_at hl 0 rfl) ?_
        refine gf_59_15 hx hb ht hK hI mw_765 (fun _ h9 => h9) hown dX12_forward_127 ?_
        refine lv_bipush (v := 8) hx hb dX12_forward_130 (by decide) ?_
        refine lv_iload_n hx hb dX12_forward_132 rfl (lv_at hl 1 rfl) ?_
        refine lv_imul hx hb dX12_forward_133 ?_
        refine lv_iconst (v := 1) hx hb dX12_forward_134 (by decide) ?_
        refine lv_iadd hx hb dX12_forward_135 ?_
        obtain ⟨g60, hm⟩ := gb_some hm
        refine ld_70 hx hb hK hI g60 (v := σ58 70 (ix ((8 * p0) + 1))) rfl dX12_forward_136 ?_
        obtain ⟨r61, σ62, h63, hm⟩ := bd_some hm
        refine k_v hI hA (va_runV (As := [.int (σ58 70 (ix ((8 * p0) + 1)))]) (rest := []) hX (c_X12_forgets N n h63 _) (cwV 1 ht (in_V mw_909 mw_910 mw_911 mw_861 mw_905) rfl rfl rfl pd_X12_forgets ⟨Nat.le_of_ble_eq_true rfl, Nat.le_of_ble_eq_true rfl⟩) ⟨q_blind, va_recv hK hI.1 (ci := 11) (q0 := 59) rfl rfl, q_to hI hK hN hZ hA⟩ rfl rfl hl.1 rfl (lv_room (Nat.le_of_ble_eq_true rfl)) dX12_forward_137 (by decide)) (fun H locs hI => ?_)
        refine lv_iload_n hx hb dX12_forward_140 rfl (lv_at hl 2 rfl) ?_
        refine lv_iconst (v := 1) hx hb dX12_forward_141 (by decide) ?_
        refine lv_icmp_ne (tgt := 193) hx hb dX12_forward_142 (by decide) (fun c64 => ?_) (fun c64 => ?_)
        · have hm := (if_neg c64).symm.trans hm
          exact hR _ _ _ _ _ hm hI dX12_forward_193
        · have hm := (if_pos c64).symm.trans hm
          refine lv_aload_n hx hb dX12_forward_145 rfl (lv_at hl 0 rfl) ?_
          refine gf_59_15 hx hb ht hK hI mw_765 (fun _ h9 => h9) hown dX12_forward_146 ?_
          refine lv_bipush (v := 8) hx hb dX12_forward_149 (by decide) ?_
          refine lv_iload_n hx hb dX12_forward_151 rfl (lv_at hl 1 rfl) ?_
          refine lv_imul hx hb dX12_forward_152 ?_
          obtain ⟨g65, hm⟩ := gb_some hm
          refine ld_70 hx hb hK hI g65 (v := σ62 70 (ix (8 * p0))) rfl dX12_forward_153 ?_
          refine lv_aload_n hx hb dX12_forward_154 rfl (lv_at hl 0 rfl) ?_
          refine gf_59_15 hx hb ht hK hI mw_765 (fun _ h9 => h9) hown dX12_forward_155 ?_
          refine lv_bipush (v := 8) hx hb dX12_forward_158 (by decide) ?_
          refine lv_iload_n hx hb dX12_forward_160 rfl (lv_at hl 1 rfl) ?_
          refine lv_imul hx hb dX12_forward_161 ?_
          refine lv_iconst (v := 1) hx hb dX12_forward_162 (by decide) ?_
          refine lv_iadd hx hb dX12_forward_163 ?_
          obtain ⟨g66, hm⟩ := gb_some hm
          refine ld_70 hx hb hK hI g66 (v := σ62 70 (ix ((8 * p0) + 1))) rfl dX12_forward_164 ?_
          refine lv_icmp_eq (tgt := 193) hx hb dX12_forward_165 (by decide) (fun c67 => ?_) (fun c67 => ?_)
          · have hm := (if_pos c67).symm.trans hm
            exact hR _ _ _ _ _ hm hI dX12_forward_193
          · have hm := (if_neg c67).symm.trans hm
            refine lv_aload_n hx hb dX12_forward_168 rfl (lv_at hl 0 rfl) ?_
            refine gf_59_20 hx hb ht hK hI mw_770 (fun _ h9 => h9) hown dX12_forward_169 ?_
            refine lv_aload_n hx hb dX12_forward_172 rfl (lv_at hl 0 rfl) ?_
            refine gf_59_15 hx hb ht hK hI mw_765 (fun _ h9 => h9) hown dX12_forward_173 ?_
            refine lv_bipush (v := 8) hx hb dX12_forward_176 (by decide) ?_
            refine lv_iload_n hx hb dX12_forward_178 rfl (lv_at hl 1 rfl) ?_
            refine lv_imul hx hb dX12_forward_179 ?_
            obtain ⟨g68, hm⟩ := gb_some hm
            refine ld_70 hx hb hK hI g68 (v := σ62 70 (ix (8 * p0))) rfl dX12_forward_180 ?_
            refine lv_aload_n hx hb dX12_forward_181 rfl (lv_at hl 0 rfl) ?_
            refine gf_59_15 hx hb ht hK hI mw_765 (fun _ h9 => h9) hown dX12_forward_182 ?_
            refine lv_bipush (v := 8) hx hb dX12_forward_185 (by decide) ?_
            refine lv_iload_n hx hb dX12_forward_187 rfl (lv_at hl 1 rfl) ?_
            refine lv_imul hx hb dX12_forward_188 ?_
            refine lv_iconst (v := 1) hx hb dX12_forward_189 (by decide) ?_
            refine lv_iadd hx hb dX12_forward_190 ?_
            obtain ⟨g69, hm⟩ := gb_some hm
            refine ld_70 hx hb hK hI g69 (v := σ62 70 (ix ((8 * p0) + 1))) rfl dX12_forward_191 ?_
            obtain ⟨g70, hm⟩ := gb_some hm
            refine sv_75 hx hb hK hI g70 dX12_forward_192 (fun H locs hI => ?_)
            exact hR _ _ _ _ _ hm hI dX12_forward_193
  · have hm := (if_neg c5).symm.trans hm
    refine lv_iconst (v := 1) hx hb dX12_forward_14 (by decide) ?_
    refine lv_goto (tgt := 19) hx hb dX12_forward_15 (by decide) ?_
    refine lv_istore_n (lv' := [(3, .int 1), (2, .int (σ 68 (ix p0))), (0, .ref (ga g 59)), (1, .int p0)]) hx hb dX12_forward_19 rfl hl (by decide) rfl (fun ls hl => ?_)
    refine lp_X12_forward_20 hC N _ _ _ _ _ hm hI (lv_sub hl [2, 3, 1, 0] rfl) ?_
    intro σ71 w72 H locs ls hm hI hl
    refine lv_iload_n hx hb dX12_forward_87 rfl (lv_at hl 2 rfl) ?_
    obtain ⟨r73, σ74, h75, hm⟩ := bd_some hm
    refine k_i hI hA (va_runS (As := [.int (σ 68 (ix p0))]) (rest := []) hX (c_X12_writes N n h75 _) (va_cwS 1 ht (in_S mw_907 mw_908 mw_861 mw_890) rfl rfl rfl pd_X12_writes ⟨Nat.le_of_ble_eq_true rfl, Nat.le_of_ble_eq_true rfl⟩) ⟨q_blind, q_to hI hK hN hZ hA⟩ rfl rfl hl.1 rfl (lv_room (Nat.le_of_ble_eq_true rfl)) dX12_forward_88 (by decide)) (fun H locs hI => ?_)
    refine lv_if_eq (tgt := 107) hx hb dX12_forward_91 (by decide) (fun c76 => ?_) (fun c76 => ?_)
    · have hm := (if_pos c76).symm.trans hm
      refine lv_iload_n hx hb dX12_forward_107 rfl (lv_at hl 2 rfl) ?_
      refine lv_iconst (v := 3) hx hb dX12_forward_108 (by decide) ?_
      refine lv_icmp_ne (tgt := 140) hx hb dX12_forward_109 (by decide) (fun c77 => ?_) (fun c77 => ?_)
      · have hm := (if_neg c77).symm.trans hm
        refine lv_iload_n hx hb dX12_forward_140 rfl (lv_at hl 2 rfl) ?_
        refine lv_iconst (v := 1) hx hb dX12_forward_141 (by decide) ?_
        refine lv_icmp_ne (tgt := 193) hx hb dX12_forward_142 (by decide) (fun c78 => ?_) (fun c78 => ?_)
        · have hm := (if_neg c78).symm.trans hm
          exact hR _ _ _ _ _ hm hI dX12_forward_193
        · have hm := (if_pos c78).symm.trans hm
          refine lv_aload_n hx hb dX12_forward_145 rfl (lv_at hl 0 rfl) ?_
          refine gf_59_15 hx hb ht hK hI mw_765 (fun _ h9 => h9) hown dX12_forward_146 ?_
          refine lv_bipush (v := 8) hx hb dX12_forward_149 (by decide) ?_
          refine lv_iload_n hx hb dX12_forward_151 rfl (lv_at hl 1 rfl) ?_
          refine lv_imul hx hb dX12_forward_152 ?_
          obtain ⟨g79, hm⟩ := gb_some hm
          refine ld_70 hx hb hK hI g79 (v := σ74 70 (ix (8 * p0))) rfl dX12_forward_153 ?_
          refine lv_aload_n hx hb dX12_forward_154 rfl (lv_at hl 0 rfl) ?_
          refine gf_59_15 hx hb ht hK hI mw_765 (fun _ h9 => h9) hown dX12_forward_155 ?_
          refine lv_bipush (v := 8) hx hb dX12_forward_158 (by decide) ?_
          refine lv_iload_n hx hb dX12_forward_160 rfl (lv_at hl 1 rfl) ?_
          refine lv_imul hx hb dX12_forward_161 ?_
          refine lv_iconst (v := 1) hx hb dX12_forward_162 (by decide) ?_
          refine lv_iadd hx hb dX12_forward_163 ?_
          obtain ⟨g80, hm⟩ := gb_some hm
          refine ld_70 hx hb hK hI g80 (v := σ74 70 (ix ((8 * p0) + 1))) rfl dX12_forward_164 ?_
          refine lv_icmp_eq (tgt := 193) hx hb dX12_forward_165 (by decide) (fun c81 => ?_) (fun c81 => ?_)
          · have hm := (if_pos c81).symm.trans hm
            exact hR _ _ _ _ _ hm hI dX12_forward_193
          · have hm := (if_neg c81).symm.trans hm
            refine lv_aload_n hx hb dX12_forward_168 rfl (lv_at hl 0 rfl) ?_
            refine gf_59_20 hx hb ht hK hI mw_770 (fun _ h9 => h9) hown dX12_forward_169 ?_
            refine lv_aload_n hx hb dX12_forward_172 rfl (lv_at hl 0 rfl) ?_
            refine gf_59_15 hx hb ht hK hI mw_765 (fun _ h9 => h9) hown dX12_forward_173 ?_
            refine lv_bipush (v := 8) hx hb dX12_forward_176 (by decide) ?_
            refine lv_iload_n hx hb dX12_forward_178 rfl (lv_at hl 1 rfl) ?_
            refine lv_imul hx hb dX12_forward_179 ?_
            obtain ⟨g82, hm⟩ := gb_some hm
            refine ld_70 hx hb hK hI g82 (v := σ74 70 (ix (8 * p0))) rfl dX12_forward_180 ?_
            refine lv_aload_n hx hb dX12_forward_181 rfl (lv_at hl 0 rfl) ?_
            refine gf_59_15 hx hb ht hK hI mw_765 (fun _ h9 => h9) hown dX12_forward_182 ?_
            refine lv_bipush (v := 8) hx hb dX12_forward_185 (by decide) ?_
            refine lv_iload_n hx hb dX12_forward_187 rfl (lv_at hl 1 rfl) ?_
            refine lv_imul hx hb dX12_forward_188 ?_
            refine lv_iconst (v := 1) hx hb dX12_forward_189 (by decide) ?_
            refine lv_iadd hx hb dX12_forward_190 ?_
            obtain ⟨g83, hm⟩ := gb_some hm
            refine ld_70 hx hb hK hI g83 (v := σ74 70 (ix ((8 * p0) + 1))) rfl dX12_forward_191 ?_
            obtain ⟨g84, hm⟩ := gb_some hm
            refine sv_75 hx hb hK hI g84 dX12_forward_192 (fun H locs hI => ?_)
            exact hR _ _ _ _ _ hm hI dX12_forward_193
      · have hm := (if_pos c77).symm.trans hm
        refine lv_aload_n hx hb dX12_forward_112 rfl (lv_at hl 0 rfl) ?_
        refine lv_aload_n hx hb dX12_forward_113 rfl (lv_at hl 0 rfl) ?_
        refine gf_59_15 hx hb ht hK hI mw_765 (fun _ h9 => h9) hown dX12_forward_114 ?_
        refine lv_bipush (v := 8) hx hb dX12_forward_117 (by decide) ?_
        refine lv_iload_n hx hb dX12_forward_119 rfl (lv_at hl 1 rfl) ?_
        refine lv_imul hx hb dX12_forward_120 ?_
        obtain ⟨g85, hm⟩ := gb_some hm
        refine ld_70 hx hb hK hI g85 (v := σ74 70 (ix (8 * p0))) rfl dX12_forward_121 ?_
        obtain ⟨r86, σ87, h88, hm⟩ := bd_some hm
        refine k_v hI hA (va_runV (As := [.int (σ74 70 (ix (8 * p0)))]) (rest := []) hX (c_X12_forgets N n h88 _) (cwV 1 ht (in_V mw_909 mw_910 mw_911 mw_861 mw_905) rfl rfl rfl pd_X12_forgets ⟨Nat.le_of_ble_eq_true rfl, Nat.le_of_ble_eq_true rfl⟩) ⟨q_blind, va_recv hK hI.1 (ci := 11) (q0 := 59) rfl rfl, q_to hI hK hN hZ hA⟩ rfl rfl hl.1 rfl (lv_room (Nat.le_of_ble_eq_true rfl)) dX12_forward_122 (by decide)) (fun H locs hI => ?_)
        refine lv_aload_n hx hb dX12_forward_125 rfl (lv_at hl 0 rfl) ?_
        refine lv_aload_n hx hb dX12_forward_126 rfl (lv_at hl 0 rfl) ?_
        refine gf_59_15 hx hb ht hK hI mw_765 (fun _ h9 => h9) hown dX12_forward_127 ?_
        refine lv_bipush (v := 8) hx hb dX12_forward_130 (by decide) ?_
        refine lv_iload_n hx hb dX12_forward_132 rfl (lv_at hl 1 rfl) ?_
        refine lv_imul hx hb dX12_forward_133 ?_
        refine lv_iconst (v := 1) hx hb dX12_forward_134 (by decide) ?_
        refine lv_iadd hx hb dX12_forward_135 ?_
        obtain ⟨g89, hm⟩ := gb_some hm
        refine ld_70 hx hb hK hI g89 (v := σ87 70 (ix ((8 * p0) + 1))) rfl dX12_forward_136 ?_
        obtain ⟨r90, σ91, h92, hm⟩ := bd_some hm
        refine k_v hI hA (va_runV (As := [.int (σ87 70 (ix ((8 * p0) + 1)))]) (rest := []) hX (c_X12_forgets N n h92 _) (cwV 1 ht (in_V mw_909 mw_910 mw_911 mw_861 mw_905) rfl rfl rfl pd_X12_forgets ⟨Nat.le_of_ble_eq_true rfl, Nat.le_of_ble_eq_true rfl⟩) ⟨q_blind, va_recv hK hI.1 (ci := 11) (q0 := 59) rfl rfl, q_to hI hK hN hZ hA⟩ rfl rfl hl.1 rfl (lv_room (Nat.le_of_ble_eq_true rfl)) dX12_forward_137 (by decide)) (fun H locs hI => ?_)
        refine lv_iload_n hx hb dX12_forward_140 rfl (lv_at hl 2 rfl) ?_
        refine lv_iconst (v := 1) hx hb dX12_forward_141 (by decide) ?_
        refine lv_icmp_ne (tgt := 193) hx hb dX12_forward_142 (by decide) (fun c93 => ?_) (fun c93 => ?_)
        · have hm := (if_neg c93).symm.trans hm
          exact hR _ _ _ _ _ hm hI dX12_forward_193
        · have hm := (if_pos c93).symm.trans hm
          refine lv_aload_n hx hb dX12_forward_145 rfl (lv_at hl 0 rfl) ?_
          refine gf_59_15 hx hb ht hK hI mw_765 (fun _ h9 => h9) hown dX12_forward_146 ?_
          refine lv_bipush (v := 8) hx hb dX12_forward_149 (by decide) ?_
          refine lv_iload_n hx hb dX12_forward_151 rfl (lv_at hl 1 rfl) ?_
          refine lv_imul hx hb dX12_forward_152 ?_
          obtain ⟨g94, hm⟩ := gb_some hm
          refine ld_70 hx hb hK hI g94 (v := σ91 70 (ix (8 * p0))) rfl dX12_forward_153 ?_
          refine lv_aload_n hx hb dX12_forward_154 rfl (lv_at hl 0 rfl) ?_
          refine gf_59_15 hx hb ht hK hI mw_765 (fun _ h9 => h9) hown dX12_forward_155 ?_
          refine lv_bipush (v := 8) hx hb dX12_forward_158 (by decide) ?_
          refine lv_iload_n hx hb dX12_forward_160 rfl (lv_at hl 1 rfl) ?_
          refine lv_imul hx hb dX12_forward_161 ?_
          refine lv_iconst (v := 1) hx hb dX12_forward_162 (by decide) ?_
          refine lv_iadd hx hb dX12_forward_163 ?_
          obtain ⟨g95, hm⟩ := gb_some hm
          refine ld_70 hx hb hK hI g95 (v := σ91 70 (ix ((8 * p0) + 1))) rfl dX12_forward_164 ?_
          refine lv_icmp_eq (tgt := 193) hx hb dX12_forward_165 (by decide) (fun c96 => ?_) (fun c96 => ?_)
          · have hm := (if_pos c96).symm.trans hm
            exact hR _ _ _ _ _ hm hI dX12_forward_193
          · have hm := (if_neg c96).symm.trans hm
            refine lv_aload_n hx hb dX12_forward_168 rfl (lv_at hl 0 rfl) ?_
            refine gf_59_20 hx hb ht hK hI mw_770 (fun _ h9 => h9) hown dX12_forward_169 ?_
            refine lv_aload_n hx hb dX12_forward_172 rfl (lv_at hl 0 rfl) ?_
            refine gf_59_15 hx hb ht hK hI mw_765 (fun _ h9 => h9) hown dX12_forward_173 ?_
            refine lv_bipush (v := 8) hx hb dX12_forward_176 (by decide) ?_
            refine lv_iload_n hx hb dX12_forward_178 rfl (lv_at hl 1 rfl) ?_
            refine lv_imul hx hb dX12_forward_179 ?_
            obtain ⟨g97, hm⟩ := gb_some hm
            refine ld_70 hx hb hK hI g97 (v := σ91 70 (ix (8 * p0))) rfl dX12_forward_180 ?_
            refine lv_aload_n hx hb dX12_forward_181 rfl (lv_at hl 0 rfl) ?_
            refine gf_59_15 hx hb ht hK hI mw_765 (fun _ h9 => h9) hown dX12_forward_182 ?_
            refine lv_bipush (v := 8) hx hb dX12_forward_185 (by decide) ?_
            refine lv_iload_n hx hb dX12_forward_187 rfl (lv_at hl 1 rfl) ?_
            refine lv_imul hx hb dX12_forward_188 ?_
            refine lv_iconst (v := 1) hx hb dX12_forward_189 (by decide) ?_
            refine lv_iadd hx hb dX12_forward_190 ?_
            obtain ⟨g98, hm⟩ := gb_some hm
            refine ld_70 hx hb hK hI g98 (v := σ91 70 (ix ((8 * p0) + 1))) rfl dX12_forward_191 ?_
            obtain ⟨g99, hm⟩ := gb_some hm
            refine sv_75 hx hb hK hI g99 dX12_forward_192 (fun H locs hI => ?_)
            exact hR _ _ _ _ _ hm hI dX12_forward_193
    · have hm := (if_neg c76).symm.trans hm
      refine lv_aload_n hx hb dX12_forward_94 rfl (lv_at hl 0 rfl) ?_
      refine lv_aload_n hx hb dX12_forward_95 rfl (lv_at hl 0 rfl) ?_
      refine gf_59_15 hx hb ht hK hI mw_765 (fun _ h9 => h9) hown dX12_forward_96 ?_
      refine lv_bipush (v := 8) hx hb dX12_forward_99 (by decide) ?_
      refine lv_iload_n hx hb dX12_forward_101 rfl (lv_at hl 1 rfl) ?_
      refine lv_imul hx hb dX12_forward_102 ?_
      obtain ⟨g100, hm⟩ := gb_some hm
      refine ld_70 hx hb hK hI g100 (v := σ74 70 (ix (8 * p0))) rfl dX12_forward_103 ?_
      obtain ⟨r101, σ102, h103, hm⟩ := bd_some hm
      refine k_v hI hA (va_runV (As := [.int (σ74 70 (ix (8 * p0)))]) (rest := []) hX (c_X12_forgets N n h103 _) (cwV 1 ht (in_V mw_909 mw_910 mw_911 mw_861 mw_905) rfl rfl rfl pd_X12_forgets ⟨Nat.le_of_ble_eq_true rfl, Nat.le_of_ble_eq_true rfl⟩) ⟨q_blind, va_recv hK hI.1 (ci := 11) (q0 := 59) rfl rfl, q_to hI hK hN hZ hA⟩ rfl rfl hl.1 rfl (lv_room (Nat.le_of_ble_eq_true rfl)) dX12_forward_104 (by decide)) (fun H locs hI => ?_)
      refine lv_iload_n hx hb dX12_forward_107 rfl (lv_at hl 2 rfl) ?_
      refine lv_iconst (v := 3) hx hb dX12_forward_108 (by decide) ?_
      refine lv_icmp_ne (tgt := 140) hx hb dX12_forward_109 (by decide) (fun c104 => ?_) (fun c104 => ?_)
      · have hm := (if_neg c104).symm.trans hm
        refine lv_iload_n hx hb dX12_forward_140 rfl (lv_at hl 2 rfl) ?_
        refine lv_iconst (v := 1) hx hb dX12_forward_141 (by decide) ?_
        refine lv_icmp_ne (tgt := 193) hx hb dX12_forward_142 (by decide) (fun c105 => ?_) (fun c105 => ?_)
        · have hm := (if_neg c105).symm.trans hm
          exact hR _ _ _ _ _ hm hI dX12_forward_193
        · have hm := (if_pos c105).symm.trans hm
          refine lv_aload_n hx hb dX12_forward_145 rfl (lv_at hl 0 rfl) ?_
          refine gf_59_15 hx hb ht hK hI mw_765 (fun _ h9 => h9) hown dX12_forward_146 ?_
          refine lv_bipush (v := 8) hx hb dX12_forward_149 (by decide) ?_
          refine lv_iload_n hx hb dX12_forward_151 rfl (lv_at hl 1 rfl) ?_
          refine lv_imul hx hb dX12_forward_152 ?_
          obtain ⟨g106, hm⟩ := gb_some hm
          refine ld_70 hx hb hK hI g106 (v := σ102 70 (ix (8 * p0))) rfl dX12_forward_153 ?_
          refine lv_aload_n hx hb dX12_forward_154 rfl (lv_at hl 0 rfl) ?_
          refine gf_59_15 hx hb ht hK hI mw_765 (fun _ h9 => h9) hown dX12_forward_155 ?_
          refine lv_bipush (v := 8) hx hb dX12_forward_158 (by decide) ?_
          refine lv_iload_n hx hb dX12_forward_160 rfl (lv_at hl 1 rfl) ?_
          refine lv_imul hx hb dX12_forward_161 ?_
          refine lv_iconst (v := 1) hx hb dX12_forward_162 (by decide) ?_
          refine lv_iadd hx hb dX12_forward_163 ?_
          obtain ⟨g107, hm⟩ := gb_some hm
          refine ld_70 hx hb hK hI g107 (v := σ102 70 (ix ((8 * p0) + 1))) rfl dX12_forward_164 ?_
          refine lv_icmp_eq (tgt := 193) hx hb dX12_forward_165 (by decide) (fun c108 => ?_) (fun c108 => ?_)
          · have hm := (if_pos c108).symm.trans hm
            exact hR _ _ _ _ _ hm hI dX12_forward_193
          · have hm := (if_neg c108).symm.trans hm
            refine lv_aload_n hx hb dX12_forward_168 rfl (lv_at hl 0 rfl) ?_
            refine gf_59_20 hx hb ht hK hI mw_770 (fun _ h9 => h9) hown dX12_forward_169 ?_
            refine lv_aload_n hx hb dX12_forward_172 rfl (lv_at hl 0 rfl) ?_
            refine gf_59_15 hx hb ht hK hI mw_765 (fun _ h9 => h9) hown dX12_forward_173 ?_
            refine lv_bipush (v := 8) hx hb dX12_forward_176 (by decide) ?_
            refine lv_iload_n hx hb dX12_forward_178 rfl (lv_at hl 1 rfl) ?_
            refine lv_imul hx hb dX12_forward_179 ?_
            obtain ⟨g109, hm⟩ := gb_some hm
            refine ld_70 hx hb hK hI g109 (v := σ102 70 (ix (8 * p0))) rfl dX12_forward_180 ?_
            refine lv_aload_n hx hb dX12_forward_181 rfl (lv_at hl 0 rfl) ?_
            refine gf_59_15 hx hb ht hK hI mw_765 (fun _ h9 => h9) hown dX12_forward_182 ?_
            refine lv_bipush (v := 8) hx hb dX12_forward_185 (by decide) ?_
            refine lv_iload_n hx hb dX12_forward_187 rfl (lv_at hl 1 rfl) ?_
            refine lv_imul hx hb dX12_forward_188 ?_
            refine lv_iconst (v := 1) hx hb dX12_forward_189 (by decide) ?_
            refine lv_iadd hx hb dX12_forward_190 ?_
            obtain ⟨g110, hm⟩ := gb_some hm
            refine ld_70 hx hb hK hI g110 (v := σ102 70 (ix ((8 * p0) + 1))) rfl dX12_forward_191 ?_
            obtain ⟨g111, hm⟩ := gb_some hm
            refine sv_75 hx hb hK hI g111 dX12_forward_192 (fun H locs hI => ?_)
            exact hR _ _ _ _ _ hm hI dX12_forward_193
      · have hm := (if_pos c104).symm.trans hm
        refine lv_aload_n hx hb dX12_forward_112 rfl (lv_at hl 0 rfl) ?_
        refine lv_aload_n hx hb dX12_forward_113 rfl (lv_at hl 0 rfl) ?_
        refine gf_59_15 hx hb ht hK hI mw_765 (fun _ h9 => h9) hown dX12_forward_114 ?_
        refine lv_bipush (v := 8) hx hb dX12_forward_117 (by decide) ?_
        refine lv_iload_n hx hb dX12_forward_119 rfl (lv_at hl 1 rfl) ?_
        refine lv_imul hx hb dX12_forward_120 ?_
        obtain ⟨g112, hm⟩ := gb_some hm
        refine ld_70 hx hb hK hI g112 (v := σ102 70 (ix (8 * p0))) rfl dX12_forward_121 ?_
        obtain ⟨r113, σ114, h115, hm⟩ := bd_some hm
        refine k_v hI hA (va_runV (As := [.int (σ102 70 (ix (8 * p0)))]) (rest := []) hX (c_X12_forgets N n h115 _) (cwV 1 ht (in_V mw_909 mw_910 mw_911 mw_861 mw_905) rfl rfl rfl pd_X12_forgets ⟨Nat.le_of_ble_eq_true rfl, Nat.le_of_ble_eq_true rfl⟩) ⟨q_blind, va_recv hK hI.1 (ci := 11) (q0 := 59) rfl rfl, q_to hI hK hN hZ hA⟩ rfl rfl hl.1 rfl (lv_room (Nat.le_of_ble_eq_true rfl)) dX12_forward_122 (by decide)) (fun H locs hI => ?_)
        refine lv_aload_n hx hb dX12_forward_125 rfl (lv_at hl 0 rfl) ?_
        refine lv_aload_n hx hb dX12_forward_126 rfl (lv_at hl 0 rfl) ?_
        refine gf_59_15 hx hb ht hK hI mw_765 (fun _ h9 => h9) hown dX12_forward_127 ?_
        refine lv_bipush (v := 8) hx hb dX12_forward_130 (by decide) ?_
        refine lv_iload_n hx hb dX12_forward_132 rfl (lv_at hl 1 rfl) ?_
        refine lv_imul hx hb dX12_forward_133 ?_
        refine lv_iconst (v := 1) hx hb dX12_forward_134 (by decide) ?_
        refine lv_iadd hx hb dX12_forward_135 ?_
        obtain ⟨g116, hm⟩ := gb_some hm
        refine ld_70 hx hb hK hI g116 (v := σ114 70 (ix ((8 * p0) + 1))) rfl dX12_forward_136 ?_
        obtain ⟨r117, σ118, h119, hm⟩ := bd_some hm
        refine k_v hI hA (va_runV (As := [.int (σ114 70 (ix ((8 * p0) + 1)))]) (rest := []) hX (c_X12_forgets N n h119 _) (cwV 1 ht (in_V mw_909 mw_910 mw_911 mw_861 mw_905) rfl rfl rfl pd_X12_forgets ⟨Nat.le_of_ble_eq_true rfl, Nat.le_of_ble_eq_true rfl⟩) ⟨q_blind, va_recv hK hI.1 (ci := 11) (q0 := 59) rfl rfl, q_to hI hK hN hZ hA⟩ rfl rfl hl.1 rfl (lv_room (Nat.le_of_ble_eq_true rfl)) dX12_forward_137 (by decide)) (fun H locs hI => ?_)
        refine lv_iload_n hx hb dX12_forward_140 rfl (lv_at hl 2 rfl) ?_
        refine lv_iconst (v := 1) hx hb dX12_forward_141 (by decide) ?_
        refine lv_icmp_ne (tgt := 193) hx hb dX12_forward_142 (by decide) (fun c120 => ?_) (fun c120 => ?_)
        · have hm := (if_neg c120).symm.trans hm
          exact hR _ _ _ _ _ hm hI dX12_forward_193
        · have hm := (if_pos c120).symm.trans hm
          refine lv_aload_n hx hb dX12_forward_145 rfl (lv_at hl 0 rfl) ?_
          refine gf_59_15 hx hb ht hK hI mw_765 (fun _ h9 => h9) hown dX12_forward_146 ?_
          refine lv_bipush (v := 8) hx hb dX12_forward_149 (by decide) ?_
          refine lv_iload_n hx hb dX12_forward_151 rfl (lv_at hl 1 rfl) ?_
          refine lv_imul hx hb dX12_forward_152 ?_
          obtain ⟨g121, hm⟩ := gb_some hm
          refine ld_70 hx hb hK hI g121 (v := σ118 70 (ix (8 * p0))) rfl dX12_forward_153 ?_
          refine lv_aload_n hx hb dX12_forward_154 rfl (lv_at hl 0 rfl) ?_
          refine gf_59_15 hx hb ht hK hI mw_765 (fun _ h9 => h9) hown dX12_forward_155 ?_
          refine lv_bipush (v := 8) hx hb dX12_forward_158 (by decide) ?_
          refine lv_iload_n hx hb dX12_forward_160 rfl (lv_at hl 1 rfl) ?_
          refine lv_imul hx hb dX12_forward_161 ?_
          refine lv_iconst (v := 1) hx hb dX12_forward_162 (by decide) ?_
          refine lv_iadd hx hb dX12_forward_163 ?_
          obtain ⟨g122, hm⟩ := gb_some hm
          refine ld_70 hx hb hK hI g122 (v := σ118 70 (ix ((8 * p0) + 1))) rfl dX12_forward_164 ?_
          refine lv_icmp_eq (tgt := 193) hx hb dX12_forward_165 (by decide) (fun c123 => ?_) (fun c123 => ?_)
          · have hm := (if_pos c123).symm.trans hm
            exact hR _ _ _ _ _ hm hI dX12_forward_193
          · have hm := (if_neg c123).symm.trans hm
            refine lv_aload_n hx hb dX12_forward_168 rfl (lv_at hl 0 rfl) ?_
            refine gf_59_20 hx hb ht hK hI mw_770 (fun _ h9 => h9) hown dX12_forward_169 ?_
            refine lv_aload_n hx hb dX12_forward_172 rfl (lv_at hl 0 rfl) ?_
            refine gf_59_15 hx hb ht hK hI mw_765 (fun _ h9 => h9) hown dX12_forward_173 ?_
            refine lv_bipush (v := 8) hx hb dX12_forward_176 (by decide) ?_
            refine lv_iload_n hx hb dX12_forward_178 rfl (lv_at hl 1 rfl) ?_
            refine lv_imul hx hb dX12_forward_179 ?_
            obtain ⟨g124, hm⟩ := gb_some hm
            refine ld_70 hx hb hK hI g124 (v := σ118 70 (ix (8 * p0))) rfl dX12_forward_180 ?_
            refine lv_aload_n hx hb dX12_forward_181 rfl (lv_at hl 0 rfl) ?_
            refine gf_59_15 hx hb ht hK hI mw_765 (fun _ h9 => h9) hown dX12_forward_182 ?_
            refine lv_bipush (v := 8) hx hb dX12_forward_185 (by decide) ?_
            refine lv_iload_n hx hb dX12_forward_187 rfl (lv_at hl 1 rfl) ?_
            refine lv_imul hx hb dX12_forward_188 ?_
            refine lv_iconst (v := 1) hx hb dX12_forward_189 (by decide) ?_
            refine lv_iadd hx hb dX12_forward_190 ?_
            obtain ⟨g125, hm⟩ := gb_some hm
            refine ld_70 hx hb hK hI g125 (v := σ118 70 (ix ((8 * p0) + 1))) rfl dX12_forward_191 ?_
            obtain ⟨g126, hm⟩ := gb_some hm
            refine sv_75 hx hb hK hI g126 dX12_forward_192 (fun H locs hI => ?_)
            exact hR _ _ _ _ _ hm hI dX12_forward_193
