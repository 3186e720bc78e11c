def lb_X12_lays_14 (N n : Nat) (u1 : Int32) (u2 : Int32) (K87 : (Sg → Int32 → Option (Int32 × Sg))) (rec : (Sg → Int32 → Option (Int32 × Sg))) (σ : Sg) (v3 : Int32) : Option (Int32 × Sg) := gb u1 12 (if (σ 63 (ix u1)) ≤ v3 then (K87 σ v3) else (gb v3 301 (gb (u2 + v3) 300 (if (σ 66 (ix (u2 + v3))) < 0 then (rec (sg σ 72 (ix v3) (σ 59 12)) (v3 + 1)) else (gb (u2 + v3) 300 (gb (u2 + v3) 300 (gb u1 12 (gb (u2 + v3) 300 (bd (f_X12_lay N n (sg σ 72 (ix v3) (σ 59 12)) u1 (σ 64 (ix (u2 + v3))) (σ 65 (ix (u2 + v3))) ((σ 61 (ix u1)) + (σ 66 (ix (u2 + v3))))) (fun r11 σ12 => rec σ12 (v3 + 1)))))))))))
def lf_X12_lays_14 (N n : Nat) (u1 : Int32) (u2 : Int32) (K87 : (Sg → Int32 → Option (Int32 × Sg))) : Nat → (Sg → Int32 → Option (Int32 × Sg))
  | 0 => fun _ _ => none
  | k + 1 => lb_X12_lays_14 N n u1 u2 K87 (lf_X12_lays_14 N n u1 u2 K87 k)
def lb_X12_lays_89 (N n : Nat)  (K132 : (Sg → Int32 → Option (Int32 × Sg))) (rec : (Sg → Int32 → Option (Int32 × Sg))) (σ : Sg) (v3 : Int32) : Option (Int32 × Sg) := if (σ 59 12) ≤ v3 then (K132 σ v3) else (gb v3 300 (bd (f_X12_isJump N n σ (σ 68 (ix v3))) (fun r18 σ19 => if r18 = 0 then (rec σ19 (v3 + 1)) else (gb v3 300 (gb (σ19 69 (ix v3)) 301 (gb v3 300 (rec (sg σ19 69 (ix v3) (σ19 72 (ix (σ19 69 (ix v3))))) (v3 + 1))))))))
def lf_X12_lays_89 (N n : Nat)  (K132 : (Sg → Int32 → Option (Int32 × Sg))) : Nat → (Sg → Int32 → Option (Int32 × Sg))
  | 0 => fun _ _ => none
  | k + 1 => lb_X12_lays_89 N n  K132 (lf_X12_lays_89 N n  K132 k)
def f_X12_lays (N n : Nat) (σ : Sg) (p0 : Int32) : Option (Int32 × Sg) := gb p0 12 (lf_X12_lays_14 N n p0 (σ 62 (ix p0)) (fun σ14 w15 => lf_X12_lays_89 N n  (fun σ25 w26 => some (0, σ25)) N σ14 0) N (sg σ 59 12 0) 0)
set_option maxHeartbeats 4000000 in
set_option maxRecDepth 100000 in
theorem lp_X12_lays_14 {p : Program} {l : Launch} {e : Env} {s : State} {m : MethodId} {args : Array Value} {below : List Frame} {meth : Method} {c : Code} {Q : State → Prop} {A : Nat → Prop} {g : GG} {q N n : Nat} {out : Int32 × Sg} {u1 : Int32} {u2 : Int32} {K87 : (Sg → Int32 → Option (Int32 × Sg))}
    (hC : CXv p l e (qR 2 47) s m args below meth c cX12_lays 4 RX12 g q n A Q (some out)) :
    ∀ (k : Nat) (σ : Sg) (v3 : Int32) (H : Heap) (locs : List Loc) (ls : Array Slot), lf_X12_lays_14 N n u1 u2 K87 k σ v3 = some out → wI g q n σ A s.heap H locs → lv_has ls 4 [(0, .ref (ga g 59)), (1, .int u1), (2, .int u2), (3, .int v3)] → (∀ (σ : Sg) (v3 : Int32) (H : Heap) (locs : List Loc) (ls : Array Slot), K87 σ v3 = some out → wI g q n σ A s.heap H locs → lv_has ls 4 [(0, .ref (ga g 59))] → W p l e (qR 2 47) s m args below meth c H locs 0 0 Q (F0 m 87 ls [])) → W p l e (qR 2 47) s m args below meth c H locs 0 0 Q (F0 m 14 ls []) := by
  obtain ⟨hX, hK, hN, hZ, hA, hR⟩ := id hC
  have hx : p.tables.exec = Jvm.exec := hX.1
  have hb : c.code = cX12_lays := hX.2.1
  have hml : c.maxLocals = 4 := hX.2.2.1
  have hown : s.vm.findClass RX12 = some m.cls := hX.2.2.2.1
  have ht : ∀ w ∈ BIG, w.before args s = true := hX.2.2.2.2
  intro k
  induction k with
  | zero =>
    intro σ v3 H locs ls hm
    have hm : none = some out := hm
    exact nomatch hm
  | succ k ih =>
    intro σ v3 H locs ls hm hI hl hx87
    have hm : lb_X12_lays_14 N n u1 u2 K87 (lf_X12_lays_14 N n u1 u2 K87 k) σ v3 = some out := hm
    unfold lb_X12_lays_14 at hm
    refine lv_iload_n hx hb dX12_lays_14 rfl (lv_at hl 3 rfl) ?_
    refine lv_aload_n hx hb dX12_lays_15 rfl (lv_at hl 0 rfl) ?_
    refine gf_59_5 hx hb ht hK hI mw_758 (fun _ h9 => h9) hown dX12_lays_16 ?_
    refine lv_iload_n hx hb dX12_lays_19 rfl (lv_at hl 1 rfl) ?_
    obtain ⟨g2, hm⟩ := gb_some hm
    refine ld_63 hx hb hK hI g2 (v := σ 63 (ix u1)) rfl dX12_lays_20 ?_
    refine lv_icmp_ge (tgt := 87) hx hb dX12_lays_21 (by decide) (fun c3 => ?_) (fun c3 => ?_)
    · have hm := (if_pos c3).symm.trans hm
      exact hx87 σ v3 _ _ _ hm hI (lv_sub hl [0] rfl)
    · have hm := (if_neg c3).symm.trans hm
      refine lv_aload_n hx hb dX12_lays_24 rfl (lv_at hl 0 rfl) ?_
      refine gf_59_17 hx hb ht hK hI mw_767 (fun _ h9 => h9) hown dX12_lays_25 ?_
      refine lv_iload_n hx hb dX12_lays_28 rfl (lv_at hl 3 rfl) ?_
      refine lv_aload_n hx hb dX12_lays_29 rfl (lv_at hl 0 rfl) ?_
      refine gf_59_12 hx hb ht hK hI (v := σ 59 12) rfl mw_888 (fun _ h9 => h9) hown dX12_lays_30 ?_
      obtain ⟨g4, hm⟩ := gb_some hm
      refine sv_72 hx hb hK hI g4 dX12_lays_33 (fun H locs hI => ?_)
      refine lv_aload_n hx hb dX12_lays_34 rfl (lv_at hl 0 rfl) ?_
      refine gf_59_9 hx hb ht hK hI mw_761 (fun _ h9 => h9) hown dX12_lays_35 ?_
      refine lv_iload_n hx hb dX12_lays_38 rfl (lv_at hl 2 rfl) ?_
      refine lv_iload_n hx hb dX12_lays_39 rfl (lv_at hl 3 rfl) ?_
      refine lv_iadd hx hb dX12_lays_40 ?_
      obtain ⟨g5, hm⟩ := gb_some hm
      refine ld_66 hx hb hK hI g5 (v := σ 66 (ix (u2 + v3))) rfl dX12_lays_41 ?_
      refine lv_if_lt (tgt := 81) hx hb dX12_lays_42 (by decide) (fun c6 => ?_) (fun c6 => ?_)
      · have hm := (if_pos c6).symm.trans hm
        refine lv_iinc (v := v3 + 1) (lv' := [(3, .int (v3 + 1)), (0, .ref (ga g 59)), (1, .int u1), (2, .int u2)]) hx hb dX12_lays_81 hl (k := 3) rfl (congrArg (fun z => v3 + z) (show Int32.ofInt 1 = 1 by decide)) (by decide) rfl (fun ls hl => ?_)
        refine lv_goto (tgt := 14) hx hb dX12_lays_84 (by decide) ?_
        exact ih (sg σ 72 (ix v3) (σ 59 12)) (v3 + 1) _ _ _ hm hI (lv_sub hl [1, 2, 3, 0] rfl) hx87
      · have hm := (if_neg c6).symm.trans hm
        refine lv_aload_n hx hb dX12_lays_45 rfl (lv_at hl 0 rfl) ?_
        refine lv_iload_n hx hb dX12_lays_46 rfl (lv_at hl 1 rfl) ?_
        refine lv_aload_n hx hb dX12_lays_47 rfl (lv_at hl 0 rfl) ?_
        refine gf_59_7 hx hb ht hK hI mw_759 (fun _ h9 => h9) hown dX12_lays_48 ?_
        refine lv_iload_n hx hb dX12_lays_51 rfl (lv_at hl 2 rfl) ?_
        refine lv_iload_n hx hb dX12_lays_52 rfl (lv_at hl 3 rfl) ?_
        refine lv_iadd hx hb dX12_lays_53 ?_
        obtain ⟨g7, hm⟩ := gb_some hm
        refine ld_64 hx hb hK hI g7 (v := σ 64 (ix (u2 + v3))) rfl dX12_lays_54 ?_
        refine lv_aload_n hx hb dX12_lays_55 rfl (lv_at hl 0 rfl) ?_
        refine gf_59_8 hx hb ht hK hI mw_760 (fun _ h9 => h9) hown dX12_lays_56 ?_
        refine lv_iload_n hx hb dX12_lays_59 rfl (lv_at hl 2 rfl) ?_
        refine lv_iload_n hx hb dX12_lays_60 rfl (lv_at hl 3 rfl) ?_
        refine lv_iadd hx hb dX12_lays_61 ?_
        obtain ⟨g8, hm⟩ := gb_some hm
        refine ld_65 hx hb hK hI g8 (v := σ 65 (ix (u2 + v3))) rfl dX12_lays_62 ?_
        refine lv_aload_n hx hb dX12_lays_63 rfl (lv_at hl 0 rfl) ?_
        refine gf_59_3 hx hb ht hK hI mw_756 (fun _ h9 => h9) hown dX12_lays_64 ?_
        refine lv_iload_n hx hb dX12_lays_67 rfl (lv_at hl 1 rfl) ?_
        obtain ⟨g9, hm⟩ := gb_some hm
        refine ld_61 hx hb hK hI g9 (v := σ 61 (ix u1)) rfl dX12_lays_68 ?_
        refine lv_aload_n hx hb dX12_lays_69 rfl (lv_at hl 0 rfl) ?_
        refine gf_59_9 hx hb ht hK hI mw_761 (fun _ h9 => h9) hown dX12_lays_70 ?_
        refine lv_iload_n hx hb dX12_lays_73 rfl (lv_at hl 2 rfl) ?_
        refine lv_iload_n hx hb dX12_lays_74 rfl (lv_at hl 3 rfl) ?_
        refine lv_iadd hx hb dX12_lays_75 ?_
        obtain ⟨g10, hm⟩ := gb_some hm
        refine ld_66 hx hb hK hI g10 (v := σ 66 (ix (u2 + v3))) rfl dX12_lays_76 ?_
        refine lv_iadd hx hb dX12_lays_77 ?_
        obtain ⟨r11, σ12, h13, hm⟩ := bd_some hm
        refine k_v hI hA (va_runV (As := [.int u1, .int (σ 64 (ix (u2 + v3))), .int (σ 65 (ix (u2 + v3))), .int ((σ 61 (ix u1)) + (σ 66 (ix (u2 + v3))))]) (rest := []) hX (c_X12_lay N n h13 _) (cwV 4 ht (in_V mw_899 mw_900 mw_901 mw_861 mw_892) rfl rfl rfl pd_X12_lay ⟨Nat.le_of_ble_eq_true rfl, Nat.le_of_ble_eq_true rfl⟩) ⟨q_blind, va_recv hK hI.1 (ci := 11) (q0 := 59) rfl rfl, q_to hI hK hN hZ hA⟩ rfl rfl hl.1 rfl (lv_room (Nat.le_of_ble_eq_true rfl)) dX12_lays_78 (by decide)) (fun H locs hI => ?_)
        refine lv_iinc (v := v3 + 1) (lv' := [(3, .int (v3 + 1)), (0, .ref (ga g 59)), (1, .int u1), (2, .int u2)]) hx hb dX12_lays_81 hl (k := 3) rfl (congrArg (fun z => v3 + z) (show Int32.ofInt 1 = 1 by decide)) (by decide) rfl (fun ls hl => ?_)
        refine lv_goto (tgt := 14) hx hb dX12_lays_84 (by decide) ?_
        exact ih σ12 (v3 + 1) _ _ _ hm hI (lv_sub hl [1, 2, 3, 0] rfl) hx87
set_option maxHeartbeats 4000000 in
set_option maxRecDepth 100000 in
theorem lp_X12_lays_89 {p : Program} {l : Launch} {e : Env} {s : State} {m : MethodId} {args : Array Value} {below : List Frame} {meth : Method} {c : Code} {Q : State → Prop} {A : Nat → Prop} {g : GG} {q N n : Nat} {out : Int32 × Sg}  {K132 : (Sg → Int32 → Option (Int32 × Sg))}
    (hC : CXv p l e (qR 2 47) s m args below meth c cX12_lays 4 RX12 g q n A Q (some out)) :
    ∀ (k : Nat) (σ : Sg) (v3 : Int32) (H : Heap) (locs : List Loc) (ls : Array Slot), lf_X12_lays_89 N n  K132 k σ v3 = some out → wI g q n σ A s.heap H locs → lv_has ls 4 [(0, .ref (ga g 59)), (3, .int v3)] → (∀ (σ : Sg) (v3 : Int32) (H : Heap) (locs : List Loc) (ls : Array Slot), K132 σ v3 = some out → wI g q n σ A s.heap H locs → lv_has ls 4 [] → W p l e (qR 2 47) s m args below meth c H locs 0 0 Q (F0 m 132 ls [])) → W p l e (qR 2 47) s m args below meth c H locs 0 0 Q (F0 m 89 ls []) := by
  obtain ⟨hX, hK, hN, hZ, hA, hR⟩ := id hC
  have hx : p.tables.exec = Jvm.exec := hX.1
  have hb : c.code = cX12_lays := hX.2.1
  have hml : c.maxLocals = 4 := hX.2.2.1
  have hown : s.vm.findClass RX12 = some m.cls := hX.2.2.2.1
  have ht : ∀ w ∈ BIG, w.before args s = true := hX.2.2.2.2
  intro k
  induction k with
  | zero =>
    intro σ v3 H locs ls hm
    have hm : none = some out := hm
    exact nomatch hm
  | succ k ih =>
    intro σ v3 H locs ls hm hI hl hx132
    have hm : lb_X12_lays_89 N n  K132 (lf_X12_lays_89 N n  K132 k) σ v3 = some out := hm
    unfold lb_X12_lays_89 at hm
    refine lv_iload_n hx hb dX12_lays_89 rfl (lv_at hl 1 rfl) ?_
    refine lv_aload_n hx hb dX12_lays_90 rfl (lv_at hl 0 rfl) ?_
    refine gf_59_12 hx hb ht hK hI (v := σ 59 12) rfl mw_888 (fun _ h9 => h9) hown dX12_lays_91 ?_
    refine lv_icmp_ge (tgt := 132) hx hb dX12_lays_94 (by decide) (fun c16 => ?_) (fun c16 => ?_)
    · have hm := (if_pos c16).symm.trans hm
      exact hx132 σ v3 _ _ _ hm hI (lv_sub hl [] rfl)
    · have hm := (if_neg c16).symm.trans hm
      refine lv_aload_n hx hb dX12_lays_97 rfl (lv_at hl 0 rfl) ?_
      refine gf_59_13 hx hb ht hK hI mw_763 (fun _ h9 => h9) hown dX12_lays_98 ?_
      refine lv_iload_n hx hb dX12_lays_101 rfl (lv_at hl 1 rfl) ?_
      obtain ⟨g17, hm⟩ := gb_some hm
      refine ld_68 hx hb hK hI g17 (v := σ 68 (ix v3)) rfl dX12_lays_102 ?_
      obtain ⟨r18, σ19, h20, hm⟩ := bd_some hm
      refine k_i hI hA (va_runS (As := [.int (σ 68 (ix v3))]) (rest := []) hX (c_X12_isJump N n h20 _) (va_cwS 1 ht (in_S mw_902 mw_903 mw_861 mw_891) rfl rfl rfl pd_X12_isJump ⟨Nat.le_of_ble_eq_true rfl, Nat.le_of_ble_eq_true rfl⟩) ⟨q_blind, q_to hI hK hN hZ hA⟩ rfl rfl hl.1 rfl (lv_room (Nat.le_of_ble_eq_true rfl)) dX12_lays_103 (by decide)) (fun H locs hI => ?_)
      refine lv_if_eq (tgt := 126) hx hb dX12_lays_106 (by decide) (fun c21 => ?_) (fun c21 => ?_)
      · have hm := (if_pos c21).symm.trans hm
        refine lv_iinc (v := v3 + 1) (lv' := [(3, .int (v3 + 1)), (0, .ref (ga g 59))]) hx hb dX12_lays_126 hl (k := 1) rfl (congrArg (fun z => v3 + z) (show Int32.ofInt 1 = 1 by decide)) (by decide) rfl (fun ls hl => ?_)
        refine lv_goto (tgt := 89) hx hb dX12_lays_129 (by decide) ?_
        exact ih σ19 (v3 + 1) _ _ _ hm hI (lv_sub hl [1, 0] rfl) hx132
      · have hm := (if_neg c21).symm.trans hm
        refine lv_aload_n hx hb dX12_lays_109 rfl (lv_at hl 0 rfl) ?_
        refine gf_59_14 hx hb ht hK hI mw_764 (fun _ h9 => h9) hown dX12_lays_110 ?_
        refine lv_iload_n hx hb dX12_lays_113 rfl (lv_at hl 1 rfl) ?_
        refine lv_aload_n hx hb dX12_lays_114 rfl (lv_at hl 0 rfl) ?_
        refine gf_59_17 hx hb ht hK hI mw_767 (fun _ h9 => h9) hown dX12_lays_115 ?_
        refine lv_aload_n hx hb dX12_lays_118 rfl (lv_at hl 0 rfl) ?_
        refine gf_59_14 hx hb ht hK hI mw_764 (fun _ h9 => h9) hown dX12_lays_119 ?_
        refine lv_iload_n hx hb dX12_lays_122 rfl (lv_at hl 1 rfl) ?_
        obtain ⟨g22, hm⟩ := gb_some hm
        refine ld_69 hx hb hK hI g22 (v := σ19 69 (ix v3)) rfl dX12_lays_123 ?_
        obtain ⟨g23, hm⟩ := gb_some hm
        refine ld_72 hx hb hK hI g23 (v := σ19 72 (ix (σ19 69 (ix v3)))) rfl dX12_lays_124 ?_
        obtain ⟨g24, hm⟩ := gb_some hm
        refine sv_69 hx hb hK hI g24 dX12_lays_125 (fun H locs hI => ?_)
        refine lv_iinc (v := v3 + 1) (lv' := [(3, .int (v3 + 1)), (0, .ref (ga g 59))]) hx hb dX12_lays_126 hl (k := 1) rfl (congrArg (fun z => v3 + z) (show Int32.ofInt 1 = 1 by decide)) (by decide) rfl (fun ls hl => ?_)
        refine lv_goto (tgt := 89) hx hb dX12_lays_129 (by decide) ?_
        exact ih (sg σ19 69 (ix v3) (σ19 72 (ix (σ19 69 (ix v3))))) (v3 + 1) _ _ _ hm hI (lv_sub hl [1, 0] rfl) hx132
set_option maxHeartbeats 4000000 in
set_option maxRecDepth 100000 in
theorem c_X12_lays {l : Launch} {g : GG} {q : Nat} (N n : Nat) {σ : Sg} {p0 : Int32} {r : Int32} {σ' : Sg} (hm : f_X12_lays N n σ p0 = some (r, σ')) : CTv l yX12_lays cX12_lays 4 none 2 47 g q n [.ref (ga g 59), .int p0] σ σ' := by
  refine e_v (r := r) (by decide) (Nat.le_of_ble_eq_true rfl) ?_
  intro p e s m args below meth c A Q ls hC hl hI
  obtain ⟨hX, hK, hN, hZ, hA, hR⟩ := id hC
  have hx : p.tables.exec = Jvm.exec := hX.1
  have hb : c.code = cX12_lays := hX.2.1
  have hml : c.maxLocals = 4 := hX.2.2.1
  have hown : s.vm.findClass RX12 = some m.cls := hX.2.2.2.1
  have ht : ∀ w ∈ BIG, w.before args s = true := hX.2.2.2.2
  have hl : lv_has ls 4 [(0, .ref (ga g 59)), (1, .int p0)] := hl
  unfold f_X12_lays at hm
  refine lv_aload_n hx hb dX12_lays_0 rfl (lv_at hl 0 rfl) ?_
  refine lv_iconst (v := 0) hx hb dX12_lays_1 (by decide) ?_
  refine pf_59_12 hx hb ht hK hI mw_888 (fun _ h9 => h9) hown dX12_lays_2 (fun H locs hI => ?_)
  refine lv_aload_n hx hb dX12_lays_5 rfl (lv_at hl 0 rfl) ?_
  refine gf_59_4 hx hb ht hK hI mw_757 (fun _ h9 => h9) hown dX12_lays_6 ?_
  refine lv_iload_n hx hb dX12_lays_9 rfl (lv_at hl 1 rfl) ?_
  obtain ⟨g1, hm⟩ := gb_some hm
  refine ld_62 hx hb hK hI g1 (v := σ 62 (ix p0)) rfl dX12_lays_10 ?_
  refine lv_istore_n (lv' := [(2, .int (σ 62 (ix p0))), (0, .ref (ga g 59)), (1, .int p0)]) hx hb dX12_lays_11 rfl hl (by decide) rfl (fun ls hl => ?_)
  refine lv_iconst (v := 0) hx hb dX12_lays_12 (by decide) ?_
  refine lv_istore_n (lv' := [(3, .int 0), (2, .int (σ 62 (ix p0))), (0, .ref (ga g 59)), (1, .int p0)]) hx hb dX12_lays_13 rfl hl (by decide) rfl (fun ls hl => ?_)
  refine lp_X12_lays_14 hC N _ _ _ _ _ hm hI (lv_sub hl [2, 3, 1, 0] rfl) ?_
  intro σ14 w15 H locs ls hm hI hl
  refine lv_iconst (v := 0) hx hb dX12_lays_87 (by decide) ?_
  refine lv_istore_n (lv' := [(3, .int 0), (0, .ref (ga g 59))]) hx hb dX12_lays_88 rfl hl (by decide) rfl (fun ls hl => ?_)
  refine lp_X12_lays_89 hC N _ _ _ _ _ hm hI (lv_sub hl [1, 0] rfl) ?_
  intro σ25 w26 H locs ls hm hI hl
  exact hR _ _ _ _ _ hm hI dX12_lays_132
def lb_X12_liveAhead_50 (N n : Nat) (u1 : Int32) (K84 : (Sg → Int32 → Int32 → Option (Int32 × Sg))) (rec : (Sg → Int32 → Int32 → Option (Int32 × Sg))) (σ : Sg) (v2 : Int32) (v4 : Int32) : Option (Int32 × Sg) := gb u1 300 (if (σ 71 (ix u1)) ≤ v4 then (K84 σ v2 v4) else (gb ((8 * u1) + v4) 2400 (rec σ (v2 ||| (1 <<< ((σ 70 (ix ((8 * u1) + v4))) &&& 31))) (v4 + 1))))
def lf_X12_liveAhead_50 (N n : Nat) (u1 : Int32) (K84 : (Sg → Int32 → Int32 → Option (Int32 × Sg))) : Nat → (Sg → Int32 → Int32 → Option (Int32 × Sg))
  | 0 => fun _ _ _ => none
  | k + 1 => lb_X12_liveAhead_50 N n u1 K84 (lf_X12_liveAhead_50 N n u1 K84 k)
def f_X12_liveAhead (N n : Nat) (σ : Sg) (p0 : Int32) : Option (Int32 × Sg) := bd (f_X12_liveBehind N n σ p0) (fun r1 σ2 => gb p0 300 (bd (f_X12_writes N n σ2 (σ2 68 (ix p0))) (fun r5 σ6 => if r5 = 0 then (bd (f_X12_writes N n σ6 (σ2 68 (ix p0))) (fun r9 σ10 => if r9 = 0 then (lf_X12_liveAhead_50 N n p0 (fun σ16 w17 w18 => some (w17, σ16)) N σ10 r1 0) else (lf_X12_liveAhead_50 N n p0 (fun σ19 w20 w21 => some (w20, σ19)) N σ10 r1 1))) else (gb (8 * p0) 2400 (bd (f_X12_writes N n σ6 (σ2 68 (ix p0))) (fun r23 σ24 => if r23 = 0 then (lf_X12_liveAhead_50 N n p0 (fun σ27 w28 w29 => some (w28, σ27)) N σ24 (r1 &&& ((1 <<< ((σ6 70 (ix (8 * p0))) &&& 31)) ^^^ (-1))) 0) else (lf_X12_liveAhead_50 N n p0 (fun σ30 w31 w32 => some (w31, σ30)) N σ24 (r1 &&& ((1 <<< ((σ6 70 (ix (8 * p0))) &&& 31)) ^^^ (-1))) 1)))))))
set_option maxHeartbeats 4000000 in
set_option maxRecDepth 100000 in
theorem lp_X12_liveAhead_50 {p : Program} {l : Launch} {e : Env} {s : State} {m : MethodId} {args : Array Value} {below : List Frame} {meth : Method} {c : Code} {Q : State → Prop} {A : Nat → Prop} {g : GG} {q N n : Nat} {out : Int32 × Sg} {u1 : Int32} {K84 : (Sg → Int32 → Int32 → Option (Int32 × Sg))}
    (hC : CXi p l e (qR 2 43) s m args below meth c cX12_liveAhead 5 RX12 g q n A Q (some out)) :
    ∀ (k : Nat) (σ : Sg) (v2 : Int32) (v4 : Int32) (H : Heap) (locs : List Loc) (ls : Array Slot), lf_X12_liveAhead_50 N n u1 K84 k σ v2 v4 = some out → wI g q n σ A s.heap H locs → lv_has ls 5 [(0, .ref (ga g 59)), (1, .int u1), (2, .int v2), (4, .int v4)] → (∀ (σ : Sg) (v2 : Int32) (v4 : Int32) (H : Heap) (locs : List Loc) (ls : Array Slot), K84 σ v2 v4 = some out → wI g q n σ A s.heap H locs → lv_has ls 5 [(2, .int v2)] → W p l e (qR 2 43) s m args below meth c H locs 0 0 Q (F0 m 84 ls [])) → W p l e (qR 2 43) s m args below meth c H locs 0 0 Q (F0 m 50 ls []) := by
  obtain ⟨hX, hK, hN, hZ, hA, hR⟩ := id hC
  have hx : p.tables.exec = Jvm.exec := hX.1
  have hb : c.code = cX12_liveAhead := hX.2.1
  have hml : c.maxLocals = 5 := hX.2.2.1
  have hown : s.vm.findClass RX12 = some m.cls := hX.2.2.2.1
  have ht : ∀ w ∈ BIG, w.before args s = true := hX.2.2.2.2
  intro k
  induction k with
  | zero =>
    intro σ v2 v4 H locs ls hm
    have hm : none = some out := hm
    exact nomatch hm
  | succ k ih =>
    intro σ v2 v4 H locs ls hm hI hl hx84
    have hm : lb_X12_liveAhead_50 N n u1 K84 (lf_X12_liveAhead_50 N n u1 K84 k) σ v2 v4 = some out := hm
    unfold lb_X12_liveAhead_50 at hm
    refine lv_iload hx hb dX12_liveAhead_50 (lv_at hl 3 rfl) ?_
    refine lv_aload_n hx hb dX12_liveAhead_52 rfl (lv_at hl 0 rfl) ?_
    refine gf_59_16 hx hb ht hK hI mw_766 (fun _ h9 => h9) hown dX12_liveAhead_53 ?_
    refine lv_iload_n hx hb dX12_liveAhead_56 rfl (lv_at hl 1 rfl) ?_
    obtain ⟨g13, hm⟩ := gb_some hm
    refine ld_71 hx hb hK hI g13 (v := σ 71 (ix u1)) rfl dX12_liveAhead_57 ?_
    refine lv_icmp_ge (tgt := 84) hx hb dX12_liveAhead_58 (by decide) (fun c14 => ?_) (fun c14 => ?_)
    · have hm := (if_pos c14).symm.trans hm
      exact hx84 σ v2 v4 _ _ _ hm hI (lv_sub hl [2] rfl)
    · have hm := (if_neg c14).symm.trans hm
      refine lv_iload_n hx hb dX12_liveAhead_61 rfl (lv_at hl 2 rfl) ?_
      refine lv_iconst (v := 1) hx hb dX12_liveAhead_62 (by decide) ?_
      refine lv_aload_n hx hb dX12_liveAhead_63 rfl (lv_at hl 0 rfl) ?_
      refine gf_59_15 hx hb ht hK hI mw_765 (fun _ h9 => h9) hown dX12_liveAhead_64 ?_
      refine lv_bipush (v := 8) hx hb dX12_liveAhead_67 (by decide) ?_
      refine lv_iload_n hx hb dX12_liveAhead_69 rfl (lv_at hl 1 rfl) ?_
      refine lv_imul hx hb dX12_liveAhead_70 ?_
      refine lv_iload hx hb dX12_liveAhead_71 (lv_at hl 3 rfl) ?_
      refine lv_iadd hx hb dX12_liveAhead_73 ?_
      obtain ⟨g15, hm⟩ := gb_some hm
      refine ld_70 hx hb hK hI g15 (v := σ 70 (ix ((8 * u1) + v4))) rfl dX12_liveAhead_74 ?_
      refine lv_ishl hx hb dX12_liveAhead_75 ?_
      refine lv_ior hx hb dX12_liveAhead_76 ?_
      refine lv_istore_n (lv' := [(2, .int (v2 ||| (1 <<< ((σ 70 (ix ((8 * u1) + v4))) &&& 31)))), (0, .ref (ga g 59)), (1, .int u1), (4, .int v4)]) hx hb dX12_liveAhead_77 rfl hl (by decide) rfl (fun ls hl => ?_)
      refine lv_iinc (v := v4 + 1) (lv' := [(4, .int (v4 + 1)), (2, .int (v2 ||| (1 <<< ((σ 70 (ix ((8 * u1) + v4))) &&& 31)))), (0, .ref (ga g 59)), (1, .int u1)]) hx hb dX12_liveAhead_78 hl (k := 3) rfl (congrArg (fun z => v4 + z) (show Int32.ofInt 1 = 1 by decide)) (by decide) rfl (fun ls hl => ?_)
      refine lv_goto (tgt := 50) hx hb dX12_liveAhead_81 (by decide) ?_
      exact ih σ (v2 ||| (1 <<< ((σ 70 (ix ((8 * u1) + v4))) &&& 31))) (v4 + 1) _ _ _ hm hI (lv_sub hl [2, 3, 1, 0] rfl) hx84
set_option maxHeartbeats 4000000 in
set_option maxRecDepth 100000 in
theorem c_X12_liveAhead {l : Launch} {g : GG} {q : Nat} (N n : Nat) {σ : Sg} {p0 : Int32} {r : Int32} {σ' : Sg} (hm : f_X12_liveAhead N n σ p0 = some (r, σ')) : CTi l yX12_liveAhead cX12_liveAhead 5 (some .int) 2 43 g q n [.ref (ga g 59), .int p0] σ r σ' := by
  refine e_i (r := r) (by decide) (Nat.le_of_ble_eq_true rfl) ?_
  intro p e s m args below meth c A Q ls hC hl hI
  obtain ⟨hX, hK, hN, hZ, hA, hR⟩ := id hC
  have hx : p.tables.exec = Jvm.exec := hX.1
  have hb : c.code = cX12_liveAhead := hX.2.1
  have hml : c.maxLocals = 5 := hX.2.2.1
  have hown : s.vm.findClass RX12 = some m.cls := hX.2.2.2.1
  have ht : ∀ w ∈ BIG, w.before args s = true := hX.2.2.2.2
  have hl : lv_has ls 5 [(0, .ref (ga g 59)), (1, .int p0)] := hl
  unfold f_X12_liveAhead at hm
  refine lv_aload_n hx hb dX12_liveAhead_0 rfl (lv_at hl 0 rfl) ?_
  refine lv_iload_n hx hb dX12_liveAhead_1 rfl (lv_at hl 1 rfl) ?_
  obtain ⟨r1, σ2, h3, hm⟩ := bd_some hm
  refine k_i hI hA (va_runV (As := [.int p0]) (rest := []) hX (c_X12_liveBehind N n h3 _) (cwV 1 ht (in_V mw_918 mw_919 mw_920 mw_861 mw_916) rfl rfl rfl pd_X12_liveBehind ⟨Nat.le_of_ble_eq_true rfl, Nat.le_of_ble_eq_true rfl⟩) ⟨q_blind, va_recv hK hI.1 (ci := 11) (q0 := 59) rfl rfl, q_to hI hK hN hZ hA⟩ rfl rfl hl.1 rfl (lv_room (Nat.le_of_ble_eq_true rfl)) dX12_liveAhead_2 (by decide)) (fun H locs hI => ?_)
  refine lv_istore_n (lv' := [(2, .int r1), (0, .ref (ga g 59)), (1, .int p0)]) hx hb dX12_liveAhead_5 rfl hl (by decide) rfl (fun ls hl => ?_)
  refine lv_aload_n hx hb dX12_liveAhead_6 rfl (lv_at hl 1 rfl) ?_
  refine gf_59_13 hx hb ht hK hI mw_763 (fun _ h9 => h9) hown dX12_liveAhead_7 ?_
  refine lv_iload_n hx hb dX12_liveAhead_10 rfl (lv_at hl 2 rfl) ?_
  obtain ⟨g4, hm⟩ := gb_some hm
  refine ld_68 hx hb hK hI g4 (v := σ2 68 (ix p0)) rfl dX12_liveAhead_11 ?_
  refine lv_istore_n (lv' := [(3, .int (σ2 68 (ix p0))), (2, .int r1), (0, .ref (ga g 59)), (1, .int p0)]) hx hb dX12_liveAhead_12 rfl hl (by decide) rfl (fun ls hl => ?_)
  refine lv_iload_n hx hb dX12_liveAhead_13 rfl (lv_at hl 0 rfl) ?_
  obtain ⟨r5, σ6, h7, hm⟩ := bd_some hm
  refine k_i hI hA (va_runS (As := [.int (σ2 68 (ix p0))]) (rest := []) hX (c_X12_writes N n h7 _) (va_cwS 1 ht (in_S mw_907 mw_908 mw_861 mw_890) rfl rfl rfl pd_X12_writes ⟨Nat.le_of_ble_eq_true rfl, Nat.le_of_ble_eq_true rfl⟩) ⟨q_blind, q_to hI hK hN hZ hA⟩ rfl rfl hl.1 rfl (lv_room (Nat.le_of_ble_eq_true rfl)) dX12_liveAhead_14 (by decide)) (fun H locs hI => ?_)
  refine lv_if_eq (tgt := 36) hx hb dX12_liveAhead_17 (by decide) (fun c8 => ?_) (fun c8 => ?_)
  · have hm := (if_pos c8).symm.trans hm
    refine lv_iload_n hx hb dX12_liveAhead_36 rfl (lv_at hl 0 rfl) ?_
    obtain ⟨r9, σ10, h11, hm⟩ := bd_some hm
    refine k_i hI hA (va_runS (As := [.int (σ2 68 (ix p0))]) (rest := []) hX (c_X12_writes N n h11 _) (va_cwS 1 ht (in_S mw_907 mw_908 mw_861 mw_890) rfl rfl rfl pd_X12_writes ⟨Nat.le_of_ble_eq_true rfl, Nat.le_of_ble_eq_true rfl⟩) ⟨q_blind, q_to hI hK hN hZ hA⟩ rfl rfl hl.1 rfl (lv_room (Nat.le_of_ble_eq_true rfl)) dX12_liveAhead_37 (by decide)) (fun H locs hI => ?_)
    refine lv_if_eq (tgt := 47) hx hb dX12_liveAhead_40 (by decide) (fun c12 => ?_) (fun c12 => ?_)
    · have hm := (if_pos c12).symm.trans hm
      refine lv_iconst (v := 0) hx hb dX12_liveAhead_47 (by decide) ?_
      refine lv_istore (lv' := [(4, .int 0), (3, .int (σ2 68 (ix p0))), (2, .int r1), (0, .ref (ga g 59)), (1, .int p0)]) hx hb dX12_liveAhead_48 hl (by decide) rfl (fun ls hl => ?_)
      refine lp_X12_liveAhead_50 hC N _ _ _ _ _ _ hm hI (lv_sub hl [3, 4, 2, 0] rfl) ?_
      intro σ16 w17 w18 H locs ls hm hI hl
      refine lv_iload_n hx hb dX12_liveAhead_84 rfl (lv_at hl 0 rfl) ?_
      exact hR _ _ _ _ _ _ hm hI dX12_liveAhead_85
    · have hm := (if_neg c12).symm.trans hm
      refine lv_iconst (v := 1) hx hb dX12_liveAhead_43 (by decide) ?_
      refine lv_goto (tgt := 48) hx hb dX12_liveAhead_44 (by decide) ?_
      refine lv_istore (lv' := [(4, .int 1), (3, .int (σ2 68 (ix p0))), (2, .int r1), (0, .ref (ga g 59)), (1, .int p0)]) hx hb dX12_liveAhead_48 hl (by decide) rfl (fun ls hl => ?_)
      refine lp_X12_liveAhead_50 hC N _ _ _ _ _ _ hm hI (lv_sub hl [3, 4, 2, 0] rfl) ?_
      intro σ19 w20 w21 H locs ls hm hI hl
      refine lv_iload_n hx hb dX12_liveAhead_84 rfl (lv_at hl 0 rfl) ?_
      exact hR _ _ _ _ _ _ hm hI dX12_liveAhead_85
  · have hm := (if_neg c8).symm.trans hm
    refine lv_iload_n hx hb dX12_liveAhead_20 rfl (lv_at hl 1 rfl) ?_
    refine lv_iconst (v := 1) hx hb dX12_liveAhead_21 (by decide) ?_
    refine lv_aload_n hx hb dX12_liveAhead_22 rfl (lv_at hl 2 rfl) ?_
    refine gf_59_15 hx hb ht hK hI mw_765 (fun _ h9 => h9) hown dX12_liveAhead_23 ?_
    refine lv_bipush (v := 8) hx hb dX12_liveAhead_26 (by decide) ?_
    refine lv_iload_n hx hb dX12_liveAhead_28 rfl (lv_at hl 3 rfl) ?_
    refine lv_imul hx hb dX12_liveAhead_29 ?_
    obtain ⟨g22, hm⟩ := gb_some hm
    refine ld_70 hx hb hK hI g22 (v := σ6 70 (ix (8 * p0))) rfl dX12_liveAhead_30 ?_
    refine lv_ishl hx hb dX12_liveAhead_31 ?_
    refine lv_iconst (v := (-1)) hx hb dX12_liveAhead_32 (by decide) ?_
    refine lv_ixor hx hb dX12_liveAhead_33 ?_
    refine lv_iand hx hb dX12_liveAhead_34 ?_
    refine lv_istore_n (lv' := [(2, .int (r1 &&& ((1 <<< ((σ6 70 (ix (8 * p0))) &&& 31)) ^^^ (-1)))), (3, .int (σ2 68 (ix p0))), (0, .ref (ga g 59)), (1, .int p0)]) hx hb dX12_liveAhead_35 rfl hl (by decide) rfl (fun ls hl => ?_)
    refine lv_iload_n hx hb dX12_liveAhead_36 rfl (lv_at hl 1 rfl) ?_
    obtain ⟨r23, σ24, h25, hm⟩ := bd_some hm
    refine k_i hI hA (va_runS (As := [.int (σ2 68 (ix p0))]) (rest := []) hX (c_X12_writes N n h25 _) (va_cwS 1 ht (in_S mw_907 mw_908 mw_861 mw_890) rfl rfl rfl pd_X12_writes ⟨Nat.le_of_ble_eq_true rfl, Nat.le_of_ble_eq_true rfl⟩) ⟨q_blind, q_to hI hK hN hZ hA⟩ rfl rfl hl.1 rfl (lv_room (Nat.le_of_ble_eq_true rfl)) dX12_liveAhead_37 (by decide)) (fun H locs hI => ?_)
    refine lv_if_eq (tgt := 47) hx hb dX12_liveAhead_40 (by decide) (fun c26 => ?_) (fun c26 => ?_)
    · have hm := (if_pos c26).symm.trans hm
      refine lv_iconst (v := 0) hx hb dX12_liveAhead_47 (by decide) ?_
      refine lv_istore (lv' := [(4, .int 0), (2, .int (r1 &&& ((1 <<< ((σ6 70 (ix (8 * p0))) &&& 31)) ^^^ (-1)))), (3, .int (σ2 68 (ix p0))), (0, .ref (ga g 59)), (1, .int p0)]) hx hb dX12_liveAhead_48 hl (by decide) rfl (fun ls hl => ?_)
      refine lp_X12_liveAhead_50 hC N _ _ _ _ _ _ hm hI (lv_sub hl [3, 4, 1, 0] rfl) ?_
      intro σ27 w28 w29 H locs ls hm hI hl
      refine lv_iload_n hx hb dX12_liveAhead_84 rfl (lv_at hl 0 rfl) ?_
      exact hR _ _ _ _ _ _ hm hI dX12_liveAhead_85
    · have hm := (if_neg c26).symm.trans hm
      refine lv_iconst (v := 1) hx hb dX12_liveAhead_43 (by decide) ?_
      refine lv_goto (tgt := 48) hx hb dX12_liveAhead_44 (by decide) ?_
      refine lv_istore (lv' := [(4, .int 1), (2, .int (r1 &&& ((1 <<< ((σ6 70 (ix (8 * p0))) &&& 31)) ^^^ (-1)))), (3, .int (σ2 68 (ix p0))), (0, .ref (ga g 59)), (1, .int p0)]) hx hb dX12_liveAhead_48 hl (by decide) rfl (fun ls hl => ?_)
      refine lp_X12_liveAhead_50 hC N _ _ _ _ _ _ hm hI (lv_sub hl [3, 4, 1, 0] rfl) ?_
      intro σ30 w31 w32 H locs ls hm hI hl
      refine lv_iload_n hx hb dX12_liveAhead_84 rfl (lv_at hl 0 rfl) ?_
      exact hR _ _ _ _ _ _ hm hI dX12_liveAhead_85
def lb_X12_lives_2 (N n : Nat)  (K23 : (Sg → Int32 → Option (Int32 × Sg))) (rec : (Sg → Int32 → Option (Int32 × Sg))) (σ : Sg) (v1 : Int32) : Option (Int32 × Sg) := if (σ 59 12) < v1 then (K23 σ v1) else (gb v1 301 (rec (sg σ 76 (ix v1) 0) (v1 + 1)))
def lf_X12_lives_2 (N n : Nat)  (K23 : (Sg → Int32 → Option (Int32 × Sg))) : Nat → (Sg → Int32 → Option (Int32 × Sg))
  | 0 => fun _ _ => none
  | k + 1 => lb_X12_lives_2 N n  K23 (lf_X12_lives_2 N n  K23 k)
def lb_X12_lives_38 (N n : Nat)  (K81 : (Sg → Int32 → Int32 → Option (Int32 × Sg))) (rec : (Sg → Int32 → Int32 → Option (Int32 × Sg))) (σ : Sg) (v1 : Int32) (v2 : Int32) : Option (Int32 × Sg) := if v2 < 0 then (K81 σ v1 v2) else (bd (f_X12_liveAhead N n σ v2) (fun r7 σ8 => if v1 = 0 then (gb v2 301 (if r7 = (σ8 76 (ix v2)) then (gb v2 301 (rec (sg σ8 76 (ix v2) r7) 0 (v2 + (-1)))) else (gb v2 301 (rec (sg σ8 76 (ix v2) r7) 1 (v2 + (-1)))))) else (gb v2 301 (rec (sg σ8 76 (ix v2) r7) 1 (v2 + (-1))))))
def lf_X12_lives_38 (N n : Nat)  (K81 : (Sg → Int32 → Int32 → Option (Int32 × Sg))) : Nat → (Sg → Int32 → Int32 → Option (Int32 × Sg))
  | 0 => fun _ _ _ => none
  | k + 1 => lb_X12_lives_38 N n  K81 (lf_X12_lives_38 N n  K81 k)
def lb_X12_lives_25 (N n : Nat)  (K84 : (Sg → Int32 → Option (Int32 × Sg))) (rec : (Sg → Int32 → Option (Int32 × Sg))) (σ : Sg) (v1 : Int32) : Option (Int32 × Sg) := if v1 = 0 then (K84 σ v1) else (lf_X12_lives_38 N n  (fun σ16 w17 w18 => rec σ16 w17) N σ 0 ((σ 59 12) - 1))
def lf_X12_lives_25 (N n : Nat)  (K84 : (Sg → Int32 → Option (Int32 × Sg))) : Nat → (Sg → Int32 → Option (Int32 × Sg))
  | 0 => fun _ _ => none
  | k + 1 => lb_X12_lives_25 N n  K84 (lf_X12_lives_25 N n  K84 k)
def f_X12_lives (N n : Nat) (σ : Sg)  : Option (Int32 × Sg) := lf_X12_lives_2 N n  (fun σ3 w4 => lf_X12_lives_25 N n  (fun σ19 w20 => some (0, σ19)) N σ3 1) N σ 0
set_option maxHeartbeats 4000000 in
set_option maxRecDepth 100000 in
theorem lp_X12_lives_2 {p : Program} {l : Launch} {e : Env} {s : State} {m : MethodId} {args : Array Value} {below : List Frame} {meth : Method} {c : Code} {Q : State → Prop} {A : Nat → Prop} {g : GG} {q N n : Nat} {out : Int32 × Sg}  {K23 : (Sg → Int32 → Option (Int32 × Sg))}
    (hC : CXv p l e (qR 3 67) s m args below meth c cX12_lives 4 RX12 g q n A Q (some out)) :
    ∀ (k : Nat) (σ : Sg) (v1 : Int32) (H : Heap) (locs : List Loc) (ls : Array Slot), lf_X12_lives_2 N n  K23 k σ v1 = some out → wI g q n σ A s.heap H locs → lv_has ls 4 [(0, .ref (ga g 59)), (1, .int v1)] → (∀ (σ : Sg) (v1 : Int32) (H : Heap) (locs : List Loc) (ls : Array Slot), K23 σ v1 = some out → wI g q n σ A s.heap H locs → lv_has ls 4 [(0, .ref (ga g 59))] → W p l e (qR 3 67) s m args below meth c H locs 0 0 Q (F0 m 23 ls [])) → W p l e (qR 3 67) s m args below meth c H locs 0 0 Q (F0 m 2 ls []) := by
  obtain ⟨hX, hK, hN, hZ, hA, hR⟩ := id hC
  have hx : p.tables.exec = Jvm.exec := hX.1
  have hb : c.code = cX12_lives := hX.2.1
  have hml : c.maxLocals = 4 := hX.2.2.1
  have hown : s.vm.findClass RX12 = some m.cls := hX.2.2.2.1
  have ht : ∀ w ∈ BIG, w.before args s = true := hX.2.2.2.2
  intro k
  induction k with
  | zero =>
    intro σ v1 H locs ls hm
    have hm : none = some out := hm
    exact nomatch hm
  | succ k ih =>
    intro σ v1 H locs ls hm hI hl hx23
    have hm : lb_X12_lives_2 N n  K23 (lf_X12_lives_2 N n  K23 k) σ v1 = some out := hm
    unfold lb_X12_lives_2 at hm
    refine lv_iload_n hx hb dX12_lives_2 rfl (lv_at hl 1 rfl) ?_
    refine lv_aload_n hx hb dX12_lives_3 rfl (lv_at hl 0 rfl) ?_
    refine gf_59_12 hx hb ht hK hI (v := σ 59 12) rfl mw_888 (fun _ h9 => h9) hown dX12_lives_4 ?_
    refine lv_icmp_gt (tgt := 23) hx hb dX12_lives_7 (by decide) (fun c1 => ?_) (fun c1 => ?_)
    · have hm := (if_pos c1).symm.trans hm
      exact hx23 σ v1 _ _ _ hm hI (lv_sub hl [0] rfl)
    · have hm := (if_neg c1).symm.trans hm
      refine lv_aload_n hx hb dX12_lives_10 rfl (lv_at hl 0 rfl) ?_
      refine gf_59_21 hx hb ht hK hI mw_771 (fun _ h9 => h9) hown dX12_lives_11 ?_
      refine lv_iload_n hx hb dX12_lives_14 rfl (lv_at hl 1 rfl) ?_
      refine lv_iconst (v := 0) hx hb dX12_lives_15 (by decide) ?_
      obtain ⟨g2, hm⟩ := gb_some hm
      refine sv_76 hx hb hK hI g2 dX12_lives_16 (fun H locs hI => ?_)
      refine lv_iinc (v := v1 + 1) (lv' := [(1, .int (v1 + 1)), (0, .ref (ga g 59))]) hx hb dX12_lives_17 hl (k := 1) rfl (congrArg (fun z => v1 + z) (show Int32.ofInt 1 = 1 by decide)) (by decide) rfl (fun ls hl => ?_)
      refine lv_goto (tgt := 2) hx hb dX12_lives_20 (by decide) ?_
      exact ih (sg σ 76 (ix v1) 0) (v1 + 1) _ _ _ hm hI (lv_sub hl [1, 0] rfl) hx23
set_option maxHeartbeats 4000000 in
set_option maxRecDepth 100000 in
theorem lp_X12_lives_38 {p : Program} {l : Launch} {e : Env} {s : State} {m : MethodId} {args : Array Value} {below : List Frame} {meth : Method} {c : Code} {Q : State → Prop} {A : Nat → Prop} {g : GG} {q N n : Nat} {out : Int32 × Sg}  {K81 : (Sg → Int32 → Int32 → Option (Int32 × Sg))}
    (hC : CXv p l e (qR 3 67) s m args below meth c cX12_lives 4 RX12 g q n A Q (some out)) :
    ∀ (k : Nat) (σ : Sg) (v1 : Int32) (v2 : Int32) (H : Heap) (locs : List Loc) (ls : Array Slot), lf_X12_lives_38 N n  K81 k σ v1 v2 = some out → wI g q n σ A s.heap H locs → lv_has ls 4 [(0, .ref (ga g 59)), (1, .int v1), (2, .int v2)] → (∀ (σ : Sg) (v1 : Int32) (v2 : Int32) (H : Heap) (locs : List Loc) (ls : Array Slot), K81 σ v1 v2 = some out → wI g q n σ A s.heap H locs → lv_has ls 4 [(0, .ref (ga g 59)), (1, .int v1)] → W p l e (qR 3 67) s m args below meth c H locs 0 0 Q (F0 m 81 ls [])) → W p l e (qR 3 67) s m args below meth c H locs 0 0 Q (F0 m 38 ls []) := by
  obtain ⟨hX, hK, hN, hZ, hA, hR⟩ := id hC
  have hx : p.tables.exec = Jvm.exec := hX.1
  have hb : c.code = cX12_lives := hX.2.1
  have hml : c.maxLocals = 4 := hX.2.2.1
  have hown : s.vm.findClass RX12 = some m.cls := hX.2.2.2.1
  have ht : ∀ w ∈ BIG, w.before args s = true := hX.2.2.2.2
  intro k
  induction k with
  | zero =>
    intro σ v1 v2 H locs ls hm
    have hm : none = some out := hm
    exact nomatch hm
  | succ k ih =>
    intro σ v1 v2 H locs ls hm hI hl hx81
    have hm : lb_X12_lives_38 N n  K81 (lf_X12_lives_38 N n  K81 k) σ v1 v2 = some out := hm
    unfold lb_X12_lives_38 at hm
    refine lv_iload_n hx hb dX12_lives_38 rfl (lv_at hl 2 rfl) ?_
    refine lv_if_lt (tgt := 81) hx hb dX12_lives_39 (by decide) (fun c6 => ?_) (fun c6 => ?_)
    · have hm := (if_pos c6).symm.trans hm
      exact hx81 σ v1 v2 _ _ _ hm hI (lv_sub hl [0, 1] rfl)
    · have hm := (if_neg c6).symm.trans hm
      refine lv_aload_n hx hb dX12_lives_42 rfl (lv_at hl 0 rfl) ?_
      refine lv_iload_n hx hb dX12_lives_43 rfl (lv_at hl 2 rfl) ?_
      obtain ⟨r7, σ8, h9, hm⟩ := bd_some hm
      refine k_i hI hA (va_runV (As := [.int v2]) (rest := []) hX (c_X12_liveAhead N n h9 _) (cwV 1 ht (in_V mw_922 mw_923 mw_924 mw_861 mw_917) rfl rfl rfl pd_X12_liveAhead ⟨Nat.le_of_ble_eq_true rfl, Nat.le_of_ble_eq_true rfl⟩) ⟨q_blind, va_recv hK hI.1 (ci := 11) (q0 := 59) rfl rfl, q_to hI hK hN hZ hA⟩ rfl rfl hl.1 rfl (lv_room (Nat.le_of_ble_eq_true rfl)) dX12_lives_44 (by decide)) (fun H locs hI => ?_)
      refine lv_istore_n (lv' := [(3, .int r7), (0, .ref (ga g 59)), (1, .int v1), (2, .int v2)]) hx hb dX12_lives_47 rfl hl (by decide) rfl (fun ls hl => ?_)
      refine lv_iload_n hx hb dX12_lives_48 rfl (lv_at hl 2 rfl) ?_
      refine lv_if_ne (tgt := 62) hx hb dX12_lives_49 (by decide) (fun c10 => ?_) (fun c10 => ?_)
      · have hm := (if_neg c10).symm.trans hm
        refine lv_iconst (v := 1) hx hb dX12_lives_62 (by decide) ?_
        refine lv_goto (tgt := 67) hx hb dX12_lives_63 (by decide) ?_
        refine lv_istore_n (lv' := [(1, .int 1), (3, .int r7), (0, .ref (ga g 59)), (2, .int v2)]) hx hb dX12_lives_67 rfl hl (by decide) rfl (fun ls hl => ?_)
        refine lv_aload_n hx hb dX12_lives_68 rfl (lv_at hl 2 rfl) ?_
        refine gf_59_21 hx hb ht hK hI mw_771 (fun _ h9 => h9) hown dX12_lives_69 ?_
        refine lv_iload_n hx hb dX12_lives_72 rfl (lv_at hl 3 rfl) ?_
        refine lv_iload_n hx hb dX12_lives_73 rfl (lv_at hl 1 rfl) ?_
        obtain ⟨g11, hm⟩ := gb_some hm
        refine sv_76 hx hb hK hI g11 dX12_lives_74 (fun H locs hI => ?_)
        refine lv_iinc (v := v2 + (-1)) (lv' := [(2, .int (v2 + (-1))), (1, .int 1), (3, .int r7), (0, .ref (ga g 59))]) hx hb dX12_lives_75 hl (k := 3) rfl (congrArg (fun z => v2 + z) (show Int32.ofInt (-1) = (-1) by decide)) (by decide) rfl (fun ls hl => ?_)
        refine lv_goto (tgt := 38) hx hb dX12_lives_78 (by decide) ?_
        exact ih (sg σ8 76 (ix v2) r7) 1 (v2 + (-1)) _ _ _ hm hI (lv_sub hl [3, 1, 0] rfl) hx81
      · have hm := (if_pos c10).symm.trans hm
        refine lv_iload_n hx hb dX12_lives_52 rfl (lv_at hl 0 rfl) ?_
        refine lv_aload_n hx hb dX12_lives_53 rfl (lv_at hl 1 rfl) ?_
        refine gf_59_21 hx hb ht hK hI mw_771 (fun _ h9 => h9) hown dX12_lives_54 ?_
        refine lv_iload_n hx hb dX12_lives_57 rfl (lv_at hl 3 rfl) ?_
        obtain ⟨g12, hm⟩ := gb_some hm
        refine ld_76 hx hb hK hI g12 (v := σ8 76 (ix v2)) rfl dX12_lives_58 ?_
        refine lv_icmp_eq (tgt := 66) hx hb dX12_lives_59 (by decide) (fun c13 => ?_) (fun c13 => ?_)
        · have hm := (if_pos c13).symm.trans hm
          refine lv_iconst (v := 0) hx hb dX12_lives_66 (by decide) ?_
          refine lv_istore_n (lv' := [(1, .int 0), (3, .int r7), (0, .ref (ga g 59)), (2, .int v2)]) hx hb dX12_lives_67 rfl hl (by decide) rfl (fun ls hl => ?_)
          refine lv_aload_n hx hb dX12_lives_68 rfl (lv_at hl 2 rfl) ?_
          refine gf_59_21 hx hb ht hK hI mw_771 (fun _ h9 => h9) hown dX12_lives_69 ?_
          refine lv_iload_n hx hb dX12_lives_72 rfl (lv_at hl 3 rfl) ?_
          refine lv_iload_n hx hb dX12_lives_73 rfl (lv_at hl 1 rfl) ?_
          obtain ⟨g14, hm⟩ := gb_some hm
          refine sv_76 hx hb hK hI g14 dX12_lives_74 (fun H locs hI => ?_)
          refine lv_iinc (v := v2 + (-1)) (lv' := [(2, .int (v2 + (-1))), (1, .int 0), (3, .int r7), (0, .ref (ga g 59))]) hx hb dX12_lives_75 hl (k := 3) rfl (congrArg (fun z => v2 + z) (show Int32.ofInt (-1) = (-1) by decide)) (by decide) rfl (fun ls hl => ?_)
          refine lv_goto (tgt := 38) hx hb dX12_lives_78 (by decide) ?_
          exact ih (sg σ8 76 (ix v2) r7) 0 (v2 + (-1)) _ _ _ hm hI (lv_sub hl [3, 1, 0] rfl) hx81
        · have hm := (if_neg c13).symm.trans hm
          refine lv_iconst (v := 1) hx hb dX12_lives_62 (by decide) ?_
          refine lv_goto (tgt := 67) hx hb dX12_lives_63 (by decide) ?_
          refine lv_istore_n (lv' := [(1, .int 1), (3, .int r7), (0, .ref (ga g 59)), (2, .int v2)]) hx hb dX12_lives_67 rfl hl (by decide) rfl (fun ls hl => ?_)
          refine lv_aload_n hx hb dX12_lives_68 rfl (lv_at hl 2 rfl) ?_
          refine gf_59_21 hx hb ht hK hI mw_771 (fun _ h9 => h9) hown dX12_lives_69 ?_
          refine lv_iload_n hx hb dX12_lives_72 rfl (lv_at hl 3 rfl) ?_
          refine lv_iload_n hx hb dX12_lives_73 rfl (lv_at hl 1 rfl) ?_
          obtain ⟨g15, hm⟩ := gb_some hm
          refine sv_76 hx hb hK hI g15 dX12_lives_74 (fun H locs hI => ?_)
          refine lv_iinc (v := v2 + (-1)) (lv' := [(2, .int (v2 + (-1))), (1, .int 1), (3, .int r7), (0, .ref (ga g 59))]) hx hb dX12_lives_75 hl (k := 3) rfl (congrArg (fun z => v2 + z) (show Int32.ofInt (-1) = (-1) by decide)) (by decide) rfl (fun ls hl => ?_)
          refine lv_goto (tgt := 38) hx hb dX12_lives_78 (by decide) ?_
          exact ih (sg σ8 76 (ix v2) r7) 1 (v2 + (-1)) _ _ _ hm hI (lv_sub hl [3, 1, 0] rfl) hx81
set_option maxHeartbeats 4000000 in
set_option maxRecDepth 100000 in
theorem lp_X12_lives_25 {p : Program} {l : Launch} {e : Env} {s : State} {m : MethodId} {args : Array Value} {below : List Frame} {meth : Method} {c : Code} {Q : State → Prop} {A : Nat → Prop} {g : GG} {q N n : Nat} {out : Int32 × Sg}  {K84 : (Sg → Int32 → Option (Int32 × Sg))}
    (hC : CXv p l e (qR 3 67) s m args below meth c cX12_lives 4 RX12 g q n A Q (some out)) :
    ∀ (k : Nat) (σ : Sg) (v1 : Int32) (H : Heap) (locs : List Loc) (ls : Array Slot), lf_X12_lives_25 N n  K84 k σ v1 = some out → wI g q n σ A s.heap H locs → lv_has ls 4 [(0, .ref (ga g 59)), (1, .int v1)] → (∀ (σ : Sg) (v1 : Int32) (H : Heap) (locs : List Loc) (ls : Array Slot), K84 σ v1 = some out → wI g q n σ A s.heap H locs → lv_has ls 4 [] → W p l e (qR 3 67) s m args below meth c H locs 0 0 Q (F0 m 84 ls [])) → W p l e (qR 3 67) s m args below meth c H locs 0 0 Q (F0 m 25 ls []) := by
  obtain ⟨hX, hK, hN, hZ, hA, hR⟩ := id hC
  have hx : p.tables.exec = Jvm.exec := hX.1
  have hb : c.code = cX12_lives := hX.2.1
  have hml : c.maxLocals = 4 := hX.2.2.1
  have hown : s.vm.findClass RX12 = some m.cls := hX.2.2.2.1
  have ht : ∀ w ∈ BIG, w.before args s = true := hX.2.2.2.2
  intro k
  induction k with
  | zero =>
    intro σ v1 H locs ls hm
    have hm : none = some out := hm
    exact nomatch hm
  | succ k ih =>
    intro σ v1 H locs ls hm hI hl hx84
    have hm : lb_X12_lives_25 N n  K84 (lf_X12_lives_25 N n  K84 k) σ v1 = some out := hm
    unfold lb_X12_lives_25 at hm
    refine lv_iload_n hx hb dX12_lives_25 rfl (lv_at hl 1 rfl) ?_
    refine lv_if_eq (tgt := 84) hx hb dX12_lives_26 (by decide) (fun c5 => ?_) (fun c5 => ?_)
    · have hm := (if_pos c5).symm.trans hm
      exact hx84 σ v1 _ _ _ hm hI (lv_sub hl [] rfl)
    · have hm := (if_neg c5).symm.trans hm
      refine lv_iconst (v := 0) hx hb dX12_lives_29 (by decide) ?_
      refine lv_istore_n (lv' := [(1, .int 0), (0, .ref (ga g 59))]) hx hb dX12_lives_30 rfl hl (by decide) rfl (fun ls hl => ?_)
      refine lv_aload_n hx hb dX12_lives_31 rfl (lv_at hl 1 rfl) ?_
      refine gf_59_12 hx hb ht hK hI (v := σ 59 12) rfl mw_888 (fun _ h9 => h9) hown dX12_lives_32 ?_
      refine lv_iconst (v := 1) hx hb dX12_lives_35 (by decide) ?_
      refine lv_isub hx hb dX12_lives_36 ?_
      refine lv_istore_n (lv' := [(2, .int ((σ 59 12) - 1)), (1, .int 0), (0, .ref (ga g 59))]) hx hb dX12_lives_37 rfl hl (by decide) rfl (fun ls hl => ?_)
      refine lp_X12_lives_38 hC N _ _ _ _ _ _ hm hI (lv_sub hl [2, 1, 0] rfl) ?_
      intro σ16 w17 w18 H locs ls hm hI hl
      refine lv_goto (tgt := 25) hx hb dX12_lives_81 (by decide) ?_
      exact ih σ16 w17 _ _ _ hm hI (lv_sub hl [0, 1] rfl) hx84
set_option maxHeartbeats 4000000 in
set_option maxRecDepth 100000 in
theorem c_X12_lives {l : Launch} {g : GG} {q : Nat} (N n : Nat) {σ : Sg}  {r : Int32} {σ' : Sg} (hm : f_X12_lives N n σ  = some (r, σ')) : CTv l yX12_lives cX12_lives 4 none 3 67 g q n [.ref (ga g 59)] σ σ' := by
  refine e_v (r := r) (by decide) (Nat.le_of_ble_eq_true rfl) ?_
  intro p e s m args below meth c A Q ls hC hl hI
  obtain ⟨hX, hK, hN, hZ, hA, hR⟩ := id hC
  have hx : p.tables.exec = Jvm.exec := hX.1
  have hb : c.code = cX12_lives := hX.2.1
  have hml : c.maxLocals = 4 := hX.2.2.1
  have hown : s.vm.findClass RX12 = some m.cls := hX.2.2.2.1
  have ht : ∀ w ∈ BIG, w.before args s = true := hX.2.2.2.2
  have hl : lv_has ls 4 [(0, .ref (ga g 59))] := hl
  unfold f_X12_lives at hm
  refine lv_iconst (v := 0) hx hb dX12_lives_0 (by decide) ?_
  refine lv_istore_n (lv' := [(1, .int 0), (0, .ref (ga g 59))]) hx hb dX12_lives_1 rfl hl (by decide) rfl (fun ls hl => ?_)
  refine lp_X12_lives_2 hC N _ _ _ _ _ hm hI (lv_sub hl [1, 0] rfl) ?_
  intro σ3 w4 H locs ls hm hI hl
  refine lv_iconst (v := 1) hx hb dX12_lives_23 (by decide) ?_
  refine lv_istore_n (lv' := [(1, .int 1), (0, .ref (ga g 59))]) hx hb dX12_lives_24 rfl hl (by decide) rfl (fun ls hl => ?_)
  refine lp_X12_lives_25 hC N _ _ _ _ _ hm hI (lv_sub hl [1, 0] rfl) ?_
  intro σ19 w20 H locs ls hm hI hl
  exact hR _ _ _ _ _ hm hI dX12_lives_84
def lb_X12_leavesOut_14 (N n : Nat)  (K51 : (Sg → Int32 → Int32 → Option (Int32 × Sg))) (rec : (Sg → Int32 → Int32 → Option (Int32 × Sg))) (σ : Sg) (v2 : Int32) (v3 : Int32) : Option (Int32 × Sg) := if (σ 59 12) ≤ v3 then (K51 σ v2 v3) else (gb v3 301 (bd (f_X12_isLeftOut N n (sg σ 73 (ix v3) v2) v3) (fun r7 σ8 => if r7 = 0 then (rec σ8 (v2 + 1) (v3 + 1)) else (rec σ8 (v2 + 0) (v3 + 1)))))
def lf_X12_leavesOut_14 (N n : Nat)  (K51 : (Sg → Int32 → Int32 → Option (Int32 × Sg))) : Nat → (Sg → Int32 → Int32 → Option (Int32 × Sg))
  | 0 => fun _ _ _ => none
  | k + 1 => lb_X12_leavesOut_14 N n  K51 (lf_X12_leavesOut_14 N n  K51 k)
def lb_X12_leavesOut_2 (N n : Nat)  (K87 : (Sg → Int32 → Option (Int32 × Sg))) (rec : (Sg → Int32 → Option (Int32 × Sg))) (σ : Sg) (v1 : Int32) : Option (Int32 × Sg) := if v1 = 0 then (K87 σ v1) else (bd (f_X12_lives N n σ ) (fun r2 σ3 => lf_X12_leavesOut_14 N n  (fun σ11 w12 w13 => gb (σ11 59 12) 301 (if (σ11 59 12) ≤ w12 then (rec (sg σ11 73 (ix (σ11 59 12)) w12) 0) else (bd (f_X12_closesUp N n (sg σ11 73 (ix (σ11 59 12)) w12) w12) (fun r16 σ17 => rec σ17 1)))) N σ3 0 0))
def lf_X12_leavesOut_2 (N n : Nat)  (K87 : (Sg → Int32 → Option (Int32 × Sg))) : Nat → (Sg → Int32 → Option (Int32 × Sg))
  | 0 => fun _ _ => none
  | k + 1 => lb_X12_leavesOut_2 N n  K87 (lf_X12_leavesOut_2 N n  K87 k)
def f_X12_leavesOut (N n : Nat) (σ : Sg)  : Option (Int32 × Sg) := lf_X12_leavesOut_2 N n  (fun σ19 w20 => some (0, σ19)) N σ 1
set_option maxHeartbeats 4000000 in
set_option maxRecDepth 100000 in
theorem lp_X12_leavesOut_14 {p : Program} {l : Launch} {e : Env} {s : State} {m : MethodId} {args : Array Value} {below : List Frame} {meth : Method} {c : Code} {Q : State → Prop} {A : Nat → Prop} {g : GG} {q N n : Nat} {out : Int32 × Sg}  {K51 : (Sg → Int32 → Int32 → Option (Int32 × Sg))}
    (hC : CXv p l e (qR 4 90) s m args below meth c cX12_leavesOut 4 RX12 g q n A Q (some out)) :
    ∀ (k : Nat) (σ : Sg) (v2 : Int32) (v3 : Int32) (H : Heap) (locs : List Loc) (ls : Array Slot), lf_X12_leavesOut_14 N n  K51 k σ v2 v3 = some out → wI g q n σ A s.heap H locs → lv_has ls 4 [(0, .ref (ga g 59)), (2, .int v2), (3, .int v3)] → (∀ (σ : Sg) (v2 : Int32) (v3 : Int32) (H : Heap) (locs : List Loc) (ls : Array Slot), K51 σ v2 v3 = some out → wI g q n σ A s.heap H locs → lv_has ls 4 [(0, .ref (ga g 59)), (2, .int v2)] → W p l e (qR 4 90) s m args below meth c H locs 0 0 Q (F0 m 51 ls [])) → W p l e (qR 4 90) s m args below meth c H locs 0 0 Q (F0 m 14 ls []) := by
  obtain ⟨hX, hK, hN, hZ, hA, hR⟩ := id hC
  have hx : p.tables.exec = Jvm.exec := hX.1
  have hb : c.code = cX12_leavesOut := hX.2.1
  have hml : c.maxLocals = 4 := hX.2.2.1
  have hown : s.vm.findClass RX12 = some m.cls := hX.2.2.2.1
  have ht : ∀ w ∈ BIG, w.before args s = true := hX.2.2.2.2
  intro k
  induction k with
  | zero =>
    intro σ v2 v3 H locs ls hm
    have hm : none = some out := hm
    exact nomatch hm
  | succ k ih =>
    intro σ v2 v3 H locs ls hm hI hl hx51
    have hm : lb_X12_leavesOut_14 N n  K51 (lf_X12_leavesOut_14 N n  K51 k) σ v2 v3 = some out := hm
    unfold lb_X12_leavesOut_14 at hm
    refine lv_iload_n hx hb dX12_leavesOut_14 rfl (lv_at hl 2 rfl) ?_
    refine lv_aload_n hx hb dX12_leavesOut_15 rfl (lv_at hl 0 rfl) ?_
    refine gf_59_12 hx hb ht hK hI (v := σ 59 12) rfl mw_888 (fun _ h9 => h9) hown dX12_leavesOut_16 ?_
    refine lv_icmp_ge (tgt := 51) hx hb dX12_leavesOut_19 (by decide) (fun c5 => ?_) (fun c5 => ?_)
    · have hm := (if_pos c5).symm.trans hm
      exact hx51 σ v2 v3 _ _ _ hm hI (lv_sub hl [0, 1] rfl)
    · have hm := (if_neg c5).symm.trans hm
      refine lv_aload_n hx hb dX12_leavesOut_22 rfl (lv_at hl 0 rfl) ?_
      refine gf_59_18 hx hb ht hK hI mw_768 (fun _ h9 => h9) hown dX12_leavesOut_23 ?_
      refine lv_iload_n hx hb dX12_leavesOut_26 rfl (lv_at hl 2 rfl) ?_
      refine lv_iload_n hx hb dX12_leavesOut_27 rfl (lv_at hl 1 rfl) ?_
      obtain ⟨g6, hm⟩ := gb_some hm
      refine sv_73 hx hb hK hI g6 dX12_leavesOut_28 (fun H locs hI => ?_)
      refine lv_iload_n hx hb dX12_leavesOut_29 rfl (lv_at hl 1 rfl) ?_
      refine lv_aload_n hx hb dX12_leavesOut_30 rfl (lv_at hl 0 rfl) ?_
      refine lv_iload_n hx hb dX12_leavesOut_31 rfl (lv_at hl 2 rfl) ?_
      obtain ⟨r7, σ8, h9, hm⟩ := bd_some hm
      refine k_i hI hA (va_runV (As := [.int v3]) (rest := [.int v2]) hX (c_X12_isLeftOut N n h9 _) (cwV 1 ht (in_V mw_930 mw_931 mw_932 mw_861 mw_925) rfl rfl rfl pd_X12_isLeftOut ⟨Nat.le_of_ble_eq_true rfl, Nat.le_of_ble_eq_true rfl⟩) ⟨q_blind, va_recv hK hI.1 (ci := 11) (q0 := 59) rfl rfl, q_to hI hK hN hZ hA⟩ rfl rfl hl.1 rfl (lv_room (Nat.le_of_ble_eq_true rfl)) dX12_leavesOut_32 (by decide)) (fun H locs hI => ?_)
      refine lv_if_eq (tgt := 42) hx hb dX12_leavesOut_35 (by decide) (fun c10 => ?_) (fun c10 => ?_)
      · have hm := (if_pos c10).symm.trans hm
        refine lv_iconst (v := 1) hx hb dX12_leavesOut_42 (by decide) ?_
        refine lv_iadd hx hb dX12_leavesOut_43 ?_
        refine lv_istore_n (lv' := [(2, .int (v2 + 1)), (0, .ref (ga g 59)), (3, .int v3)]) hx hb dX12_leavesOut_44 rfl hl (by decide) rfl (fun ls hl => ?_)
        refine lv_iinc (v := v3 + 1) (lv' := [(3, .int (v3 + 1)), (2, .int (v2 + 1)), (0, .ref (ga g 59))]) hx hb dX12_leavesOut_45 hl (k := 2) rfl (congrArg (fun z => v3 + z) (show Int32.ofInt 1 = 1 by decide)) (by decide) rfl (fun ls hl => ?_)
        refine lv_goto (tgt := 14) hx hb dX12_leavesOut_48 (by decide) ?_
        exact ih σ8 (v2 + 1) (v3 + 1) _ _ _ hm hI (lv_sub hl [2, 1, 0] rfl) hx51
      · have hm := (if_neg c10).symm.trans hm
        refine lv_iconst (v := 0) hx hb dX12_leavesOut_38 (by decide) ?_
        refine lv_goto (tgt := 43) hx hb dX12_leavesOut_39 (by decide) ?_
        refine lv_iadd hx hb dX12_leavesOut_43 ?_
        refine lv_istore_n (lv' := [(2, .int (v2 + 0)), (0, .ref (ga g 59)), (3, .int v3)]) hx hb dX12_leavesOut_44 rfl hl (by decide) rfl (fun ls hl => ?_)
        refine lv_iinc (v := v3 + 1) (lv' := [(3, .int (v3 + 1)), (2, .int (v2 + 0)), (0, .ref (ga g 59))]) hx hb dX12_leavesOut_45 hl (k := 2) rfl (congrArg (fun z => v3 + z) (show Int32.ofInt 1 = 1 by decide)) (by decide) rfl (fun ls hl => ?_)
        refine lv_goto (tgt := 14) hx hb dX12_leavesOut_48 (by decide) ?_
        exact ih σ8 (v2 + 0) (v3 + 1) _ _ _ hm hI (lv_sub hl [2, 1, 0] rfl) hx51
set_option maxHeartbeats 4000000 in
set_option maxRecDepth 100000 in
theorem lp_X12_leavesOut_2 {p : Program} {l : Launch} {e : Env} {s : State} {m : MethodId} {args : Array Value} {below : List Frame} {meth : Method} {c : Code} {Q : State → Prop} {A : Nat → Prop} {g : GG} {q N n : Nat} {out : Int32 × Sg}  {K87 : (Sg → Int32 → Option (Int32 × Sg))}
    (hC : CXv p l e (qR 4 90) s m args below meth c cX12_leavesOut 4 RX12 g q n A Q (some out)) :
    ∀ (k : Nat) (σ : Sg) (v1 : Int32) (H : Heap) (locs : List Loc) (ls : Array Slot), lf_X12_leavesOut_2 N n  K87 k σ v1 = some out → wI g q n σ A s.heap H locs → lv_has ls 4 [(0, .ref (ga g 59)), (1, .int v1)] → (∀ (σ : Sg) (v1 : Int32) (H : Heap) (locs : List Loc) (ls : Array Slot), K87 σ v1 = some out → wI g q n σ A s.heap H locs → lv_has ls 4 [] → W p l e (qR 4 90) s m args below meth c H locs 0 0 Q (F0 m 87 ls [])) → W p l e (qR 4 90) s m args below meth c H locs 0 0 Q (F0 m 2 ls []) := by
  obtain ⟨hX, hK, hN, hZ, hA, hR⟩ := id hC
  have hx : p.tables.exec = Jvm.exec := hX.1
  have hb : c.code = cX12_leavesOut := hX.2.1
  have hml : c.maxLocals = 4 := hX.2.2.1
  have hown : s.vm.findClass RX12 = some m.cls := hX.2.2.2.1
  have ht : ∀ w ∈ BIG, w.before args s = true := hX.2.2.2.2
  intro k
  induction k with
  | zero =>
    intro σ v1 H locs ls hm
    have hm : none = some out := hm
    exact nomatch hm
  | succ k ih =>
    intro σ v1 H locs ls hm hI hl hx87
    have hm : lb_X12_leavesOut_2 N n  K87 (lf_X12_leavesOut_2 N n  K87 k) σ v1 = some out := hm
    unfold lb_X12_leavesOut_2 at hm
    refine lv_iload_n hx hb dX12_leavesOut_2 rfl (lv_at hl 1 rfl) ?_
    refine lv_if_eq (tgt := 87) hx hb dX12_leavesOut_3 (by decide) (fun c1 => ?_) (fun c1 => ?_)
    · have hm := (if_pos c1).symm.trans hm
      exact hx87 σ v1 _ _ _ hm hI (lv_sub hl [] rfl)
    · have hm := (if_neg c1).symm.trans hm
      refine lv_aload_n hx hb dX12_leavesOut_6 rfl (lv_at hl 0 rfl) ?_
      obtain ⟨r2, σ3, h4, hm⟩ := bd_some hm
      refine k_v hI hA (va_runV (As := []) (rest := []) hX (c_X12_lives N n h4 _) (cwV 0 ht (in_V mw_927 mw_928 mw_929 mw_861 mw_921) rfl rfl rfl pd_X12_lives ⟨Nat.le_of_ble_eq_true rfl, Nat.le_of_ble_eq_true rfl⟩) ⟨q_blind, va_recv hK hI.1 (ci := 11) (q0 := 59) rfl rfl, q_to hI hK hN hZ hA⟩ rfl rfl hl.1 rfl (lv_room (Nat.le_of_ble_eq_true rfl)) dX12_leavesOut_7 (by decide)) (fun H locs hI => ?_)
      refine lv_iconst (v := 0) hx hb dX12_leavesOut_10 (by decide) ?_
      refine lv_istore_n (lv' := [(2, .int 0), (0, .ref (ga g 59)), (1, .int v1)]) hx hb dX12_leavesOut_11 rfl hl (by decide) rfl (fun ls hl => ?_)
      refine lv_iconst (v := 0) hx hb dX12_leavesOut_12 (by decide) ?_
      refine lv_istore_n (lv' := [(3, .int 0), (2, .int 0), (0, .ref (ga g 59)), (1, .int v1)]) hx hb dX12_leavesOut_13 rfl hl (by decide) rfl (fun ls hl => ?_)
      refine lp_X12_leavesOut_14 hC N _ _ _ _ _ _ hm hI (lv_sub hl [2, 1, 0] rfl) ?_
      intro σ11 w12 w13 H locs ls hm hI hl
      refine lv_aload_n hx hb dX12_leavesOut_51 rfl (lv_at hl 0 rfl) ?_
      refine gf_59_18 hx hb ht hK hI mw_768 (fun _ h9 => h9) hown dX12_leavesOut_52 ?_
      refine lv_aload_n hx hb dX12_leavesOut_55 rfl (lv_at hl 0 rfl) ?_
      refine gf_59_12 hx hb ht hK hI (v := σ11 59 12) rfl mw_888 (fun _ h9 => h9) hown dX12_leavesOut_56 ?_
      refine lv_iload_n hx hb dX12_leavesOut_59 rfl (lv_at hl 1 rfl) ?_
      obtain ⟨g14, hm⟩ := gb_some hm
      refine sv_73 hx hb hK hI g14 dX12_leavesOut_60 (fun H locs hI => ?_)
      refine lv_iload_n hx hb dX12_leavesOut_61 rfl (lv_at hl 1 rfl) ?_
      refine lv_aload_n hx hb dX12_leavesOut_62 rfl (lv_at hl 0 rfl) ?_
      refine gf_59_12 hx hb ht hK hI (v := σ11 59 12) rfl mw_888 (fun _ h9 => h9) hown dX12_leavesOut_63 ?_
      refine lv_icmp_ge (tgt := 73) hx hb dX12_leavesOut_66 (by decide) (fun c15 => ?_) (fun c15 => ?_)
      · have hm := (if_pos c15).symm.trans hm
        refine lv_iconst (v := 0) hx hb dX12_leavesOut_73 (by decide) ?_
        refine lv_istore_n (lv' := [(1, .int 0), (0, .ref (ga g 59)), (2, .int w12)]) hx hb dX12_leavesOut_74 rfl hl (by decide) rfl (fun ls hl => ?_)
        refine lv_iload_n hx hb dX12_leavesOut_75 rfl (lv_at hl 0 rfl) ?_
        refine lv_if_eq (tgt := 84) hx hb dX12_leavesOut_76 (by decide) (fun _ => ?_) (fun h => absurd h (by decide))
        refine lv_goto (tgt := 2) hx hb dX12_leavesOut_84 (by decide) ?_
        exact ih (sg σ11 73 (ix (σ11 59 12)) w12) 0 _ _ _ hm hI (lv_sub hl [1, 0] rfl) hx87
      · have hm := (if_neg c15).symm.trans hm
        refine lv_iconst (v := 1) hx hb dX12_leavesOut_69 (by decide) ?_
        refine lv_goto (tgt := 74) hx hb dX12_leavesOut_70 (by decide) ?_
        refine lv_istore_n (lv' := [(1, .int 1), (0, .ref (ga g 59)), (2, .int w12)]) hx hb dX12_leavesOut_74 rfl hl (by decide) rfl (fun ls hl => ?_)
        refine lv_iload_n hx hb dX12_leavesOut_75 rfl (lv_at hl 0 rfl) ?_
        refine lv_if_eq (tgt := 84) hx hb dX12_leavesOut_76 (by decide) (fun h => absurd h (by decide)) (fun _ => ?_)
        refine lv_aload_n hx hb dX12_leavesOut_79 rfl (lv_at hl 1 rfl) ?_
        refine lv_iload_n hx hb dX12_leavesOut_80 rfl (lv_at hl 2 rfl) ?_
        obtain ⟨r16, σ17, h18, hm⟩ := bd_some hm
        refine k_v hI hA (va_runV (As := [.int w12]) (rest := []) hX (c_X12_closesUp N n h18 _) (cwV 1 ht (in_V mw_933 mw_934 mw_935 mw_861 mw_926) rfl rfl rfl pd_X12_closesUp ⟨Nat.le_of_ble_eq_true rfl, Nat.le_of_ble_eq_true rfl⟩) ⟨q_blind, va_recv hK hI.1 (ci := 11) (q0 := 59) rfl rfl, q_to hI hK hN hZ hA⟩ rfl rfl hl.1 rfl (lv_room (Nat.le_of_ble_eq_true rfl)) dX12_leavesOut_81 (by decide)) (fun H locs hI => ?_)
        refine lv_goto (tgt := 2) hx hb dX12_leavesOut_84 (by decide) ?_
        exact ih σ17 1 _ _ _ hm hI (lv_sub hl [1, 0] rfl) hx87
set_option maxHeartbeats 4000000 in
set_option maxRecDepth 100000 in
theorem c_X12_leavesOut {l : Launch} {g : GG} {q : Nat} (N n : Nat) {σ : Sg}  {r : Int32} {σ' : Sg} (hm : f_X12_leavesOut N n σ  = some (r, σ')) : CTv l yX12_leavesOut cX12_leavesOut 4 none 4 90 g q n [.ref (ga g 59)] σ σ' := by
  refine e_v (r := r) (by decide) (Nat.le_of_ble_eq_true rfl) ?_
  intro p e s m args below meth c A Q ls hC hl hI
  obtain ⟨hX, hK, hN, hZ, hA, hR⟩ := id hC
  have hx : p.tables.exec = Jvm.exec := hX.1
  have hb : c.code = cX12_leavesOut := hX.2.1
  have hml : c.maxLocals = 4 := hX.2.2.1
  have hown : s.vm.findClass RX12 = some m.cls := hX.2.2.2.1
  have ht : ∀ w ∈ BIG, w.before args s = true := hX.2.2.2.2
  have hl : lv_has ls 4 [(0, .ref (ga g 59))] := hl
  unfold f_X12_leavesOut at hm
  refine lv_iconst (v := 1) hx hb dX12_leavesOut_0 (by decide) ?_
  refine lv_istore_n (lv' := [(1, .int 1), (0, .ref (ga g 59))]) hx hb dX12_leavesOut_1 rfl hl (by decide) rfl (fun ls hl => ?_)
  refine lp_X12_leavesOut_2 hC N _ _ _ _ _ hm hI (lv_sub hl [1, 0] rfl) ?_
  intro σ19 w20 H locs ls hm hI hl
  exact hR _ _ _ _ _ hm hI dX12_leavesOut_87
def f_X12_look (N n : Nat) (σ : Sg) (p0 : Int32) (p1 : Int32) : Option (Int32 × Sg) := if p0 < 0 then (some ((-1), sg σ 59 0 0)) else (if p0 ≤ 1 then (if p1 = 0 then (gb p0 2 (some (σ 89 (ix p0), sg σ 59 0 0))) else (if p1 = 1 then (gb p0 2 (some (σ 90 (ix p0), sg σ 59 0 0))) else (if p1 = 2 then (gb p0 2 (some (σ 91 (ix p0), sg σ 59 0 0))) else (if p1 = 3 then (gb p0 2 (some (σ 92 (ix p0), sg σ 59 0 0))) else (if p1 = 4 then (gb p0 2 (some (σ 93 (ix p0), sg σ 59 0 0))) else (some ((-1), sg σ 59 0 0))))))) else (some ((-1), sg σ 59 0 0)))
set_option maxHeartbeats 4000000 in
set_option maxRecDepth 100000 in
theorem c_X12_look {l : Launch} {g : GG} {q : Nat} (N n : Nat) {σ : Sg} {p0 : Int32} {p1 : Int32} {r : Int32} {σ' : Sg} (hm : f_X12_look N n σ p0 p1 = some (r, σ')) : CTi l yX12_look cX12_look 3 (some .int) 0 0 g q n [.ref (ga g 59), .int p0, .int p1] σ r σ' := by
  refine e_i (r := r) (by decide) (Nat.le_of_ble_eq_true rfl) ?_
  intro p e s m args below meth c A Q ls hC hl hI
  obtain ⟨hX, hK, hN, hZ, hA, hR⟩ := id hC
  have hx : p.tables.exec = Jvm.exec := hX.1
  have hb : c.code = cX12_look := hX.2.1
  have hml : c.maxLocals = 3 := hX.2.2.1
  have hown : s.vm.findClass RX12 = some m.cls := hX.2.2.2.1
  have ht : ∀ w ∈ BIG, w.before args s = true := hX.2.2.2.2
  have hl : lv_has ls 3 [(0, .ref (ga g 59)), (1, .int p0), (2, .int p1)] := hl
  unfold f_X12_look at hm
  refine lv_aload_n hx hb dX12_look_0 rfl (lv_at hl 0 rfl) ?_
  refine lv_iconst (v := 0) hx hb dX12_look_1 (by decide) ?_
  refine pf_59_0 hx hb ht hK hI mw_851 (fun _ h9 => h9) hown dX12_look_2 (fun H locs hI => ?_)
  refine lv_iload_n hx hb dX12_look_5 rfl (lv_at hl 1 rfl) ?_
  refine lv_if_lt (tgt := 14) hx hb dX12_look_6 (by decide) (fun c1 => ?_) (fun c1 => ?_)
  · have hm := (if_pos c1).symm.trans hm
    refine lv_iconst (v := (-1)) hx hb dX12_look_14 (by decide) ?_
    exact hR _ _ _ _ _ _ hm hI dX12_look_15
  · have hm := (if_neg c1).symm.trans hm
    refine lv_iload_n hx hb dX12_look_9 rfl (lv_at hl 1 rfl) ?_
    refine lv_iconst (v := 1) hx hb dX12_look_10 (by decide) ?_
    refine lv_icmp_le (tgt := 16) hx hb dX12_look_11 (by decide) (fun c2 => ?_) (fun c2 => ?_)
    · have hm := (if_pos c2).symm.trans hm
      refine lv_iload_n hx hb dX12_look_16 rfl (lv_at hl 2 rfl) ?_
      refine lv_if_ne (tgt := 29) hx hb dX12_look_17 (by decide) (fun c3 => ?_) (fun c3 => ?_)
      · have hm := (if_neg c3).symm.trans hm
        refine lv_iload_n hx hb dX12_look_29 rfl (lv_at hl 2 rfl) ?_
        refine lv_iconst (v := 1) hx hb dX12_look_30 (by decide) ?_
        refine lv_icmp_ne (tgt := 43) hx hb dX12_look_31 (by decide) (fun c4 => ?_) (fun c4 => ?_)
        · have hm := (if_neg c4).symm.trans hm
          refine lv_iload_n hx hb dX12_look_43 rfl (lv_at hl 2 rfl) ?_
          refine lv_iconst (v := 2) hx hb dX12_look_44 (by decide) ?_
          refine lv_icmp_ne (tgt := 57) hx hb dX12_look_45 (by decide) (fun c5 => ?_) (fun c5 => ?_)
          · have hm := (if_neg c5).symm.trans hm
            refine lv_iload_n hx hb dX12_look_57 rfl (lv_at hl 2 rfl) ?_
            refine lv_iconst (v := 3) hx hb dX12_look_58 (by decide) ?_
            refine lv_icmp_ne (tgt := 71) hx hb dX12_look_59 (by decide) (fun c6 => ?_) (fun c6 => ?_)
            · have hm := (if_neg c6).symm.trans hm
              refine lv_iload_n hx hb dX12_look_71 rfl (lv_at hl 2 rfl) ?_
              refine lv_iconst (v := 4) hx hb dX12_look_72 (by decide) ?_
              refine lv_icmp_ne (tgt := 85) hx hb dX12_look_73 (by decide) (fun c7 => ?_) (fun c7 => ?_)
              · have hm := (if_neg c7).symm.trans hm
                refine lv_iconst (v := (-1)) hx hb dX12_look_85 (by decide) ?_
                exact hR _ _ _ _ _ _ hm hI dX12_look_86
              · have hm := (if_pos c7).symm.trans hm
                refine lv_aload_n hx hb dX12_look_76 rfl (lv_at hl 0 rfl) ?_
                refine gf_59_43 hx hb ht hK hI mw_788 (fun _ h9 => h9) hown dX12_look_77 ?_
                refine lv_iload_n hx hb dX12_look_80 rfl (lv_at hl 1 rfl) ?_
                obtain ⟨g8, hm⟩ := gb_some hm
                refine ld_93 hx hb hK hI g8 (v := σ 93 (ix p0)) rfl dX12_look_81 ?_
                refine lv_goto (tgt := 86) hx hb dX12_look_82 (by decide) ?_
                exact hR _ _ _ _ _ _ hm hI dX12_look_86
            · have hm := (if_pos c6).symm.trans hm
              refine lv_aload_n hx hb dX12_look_62 rfl (lv_at hl 0 rfl) ?_
              refine gf_59_42 hx hb ht hK hI mw_787 (fun _ h9 => h9) hown dX12_look_63 ?_
              refine lv_iload_n hx hb dX12_look_66 rfl (lv_at hl 1 rfl) ?_
              obtain ⟨g9, hm⟩ := gb_some hm
              refine ld_92 hx hb hK hI g9 (v := σ 92 (ix p0)) rfl dX12_look_67 ?_
              refine lv_goto (tgt := 86) hx hb dX12_look_68 (by decide) ?_
              exact hR _ _ _ _ _ _ hm hI dX12_look_86
          · have hm := (if_pos c5).symm.trans hm
            refine lv_aload_n hx hb dX12_look_48 rfl (lv_at hl 0 rfl) ?_
            refine gf_59_41 hx hb ht hK hI mw_786 (fun _ h9 => h9) hown dX12_look_49 ?_
            refine lv_iload_n hx hb dX12_look_52 rfl (lv_at hl 1 rfl) ?_
            obtain ⟨g10, hm⟩ := gb_some hm
            refine ld_91 hx hb hK hI g10 (v := σ 91 (ix p0)) rfl dX12_look_53 ?_
            refine lv_goto (tgt := 86) hx hb dX12_look_54 (by decide) ?_
            exact hR _ _ _ _ _ _ hm hI dX12_look_86
        · have hm := (if_pos c4).symm.trans hm
          refine lv_aload_n hx hb dX12_look_34 rfl (lv_at hl 0 rfl) ?_
          refine gf_59_40 hx hb ht hK hI mw_785 (fun _ h9 => h9) hown dX12_look_35 ?_
          refine lv_iload_n hx hb dX12_look_38 rfl (lv_at hl 1 rfl) ?_
          obtain ⟨g11, hm⟩ := gb_some hm
          refine ld_90 hx hb hK hI g11 (v := σ 90 (ix p0)) rfl dX12_look_39 ?_
          refine lv_goto (tgt := 86) hx hb dX12_look_40 (by decide) ?_
          exact hR _ _ _ _ _ _ hm hI dX12_look_86
      · have hm := (if_pos c3).symm.trans hm
        refine lv_aload_n hx hb dX12_look_20 rfl (lv_at hl 0 rfl) ?_
        refine gf_59_39 hx hb ht hK hI mw_784 (fun _ h9 => h9) hown dX12_look_21 ?_
        refine lv_iload_n hx hb dX12_look_24 rfl (lv_at hl 1 rfl) ?_
        obtain ⟨g12, hm⟩ := gb_some hm
        refine ld_89 hx hb hK hI g12 (v := σ 89 (ix p0)) rfl dX12_look_25 ?_
        refine lv_goto (tgt := 86) hx hb dX12_look_26 (by decide) ?_
        exact hR _ _ _ _ _ _ hm hI dX12_look_86
    · have hm := (if_neg c2).symm.trans hm
      refine lv_iconst (v := (-1)) hx hb dX12_look_14 (by decide) ?_
      exact hR _ _ _ _ _ _ hm hI dX12_look_15
def f_X12_op (N n : Nat) (σ : Sg) (p0 : Int32) (p1 : Int32) (p2 : Int32) : Option (Int32 × Sg) := if (σ 59 37) = 0 then (some (0, sg σ 59 0 1)) else (if p0 < 0 then (some (0, sg σ 59 0 1)) else (if (σ 59 1) ≤ p0 then (some (0, sg σ 59 0 1)) else (if p1 < 0 then (some (0, sg σ 59 0 1)) else (gb p0 12 (if (σ 86 (ix p0)) ≤ p1 then (some (0, sg σ 59 0 1)) else (if p2 < 0 then (some (0, sg σ 59 0 1)) else (if 4 < p2 then (some (0, sg σ 59 0 1)) else (gb p0 12 (gb ((5 * ((σ 85 (ix p0)) + p1)) + p2) 10000 (some (σ 84 (ix ((5 * ((σ 85 (ix p0)) + p1)) + p2)), sg σ 59 0 0)))))))))))
set_option maxHeartbeats 4000000 in
set_option maxRecDepth 100000 in
theorem c_X12_op {l : Launch} {g : GG} {q : Nat} (N n : Nat) {σ : Sg} {p0 : Int32} {p1 : Int32} {p2 : Int32} {r : Int32} {σ' : Sg} (hm : f_X12_op N n σ p0 p1 p2 = some (r, σ')) : CTi l yX12_op cX12_op 4 (some .int) 0 0 g q n [.ref (ga g 59), .int p0, .int p1, .int p2] σ r σ' := by
  refine e_i (r := r) (by decide) (Nat.le_of_ble_eq_true rfl) ?_
  intro p e s m args below meth c A Q ls hC hl hI
  obtain ⟨hX, hK, hN, hZ, hA, hR⟩ := id hC
  have hx : p.tables.exec = Jvm.exec := hX.1
  have hb : c.code = cX12_op := hX.2.1
  have hml : c.maxLocals = 4 := hX.2.2.1
  have hown : s.vm.findClass RX12 = some m.cls := hX.2.2.2.1
  have ht : ∀ w ∈ BIG, w.before args s = true := hX.2.2.2.2
  have hl : lv_has ls 4 [(0, .ref (ga g 59)), (1, .int p0), (2, .int p1), (3, .int p2)] := hl
  unfold f_X12_op at hm
  refine lv_aload_n hx hb dX12_op_0 rfl (lv_at hl 0 rfl) ?_
  refine lv_aload_n hx hb dX12_op_1 rfl (lv_at hl 0 rfl) ?_
  refine gf_59_37 hx hb ht hK hI (v := σ 59 37) rfl mw_991 (fun _ h9 => h9) hown dX12_op_2 ?_
  refine lv_if_eq (tgt := 47) hx hb dX12_op_5 (by decide) (fun c1 => ?_) (fun c1 => ?_)
  · have hm := (if_pos c1).symm.trans hm
    refine lv_iconst (v := 1) hx hb dX12_op_47 (by decide) ?_
    refine pf_59_0 hx hb ht hK hI mw_851 (fun _ h9 => h9) hown dX12_op_48 (fun H locs hI => ?_)
    refine lv_aload_n hx hb dX12_op_51 rfl (lv_at hl 0 rfl) ?_
    refine gf_59_0 hx hb ht hK hI (v := 1) rfl mw_851 (fun _ h9 => h9) hown dX12_op_52 ?_
    refine lv_if_le (tgt := 62) hx hb dX12_op_55 (by decide) (fun h => absurd h (by decide)) (fun _ => ?_)
    refine lv_iconst (v := 0) hx hb dX12_op_58 (by decide) ?_
    refine lv_goto (tgt := 79) hx hb dX12_op_59 (by decide) ?_
    exact hR _ _ _ _ _ _ hm hI dX12_op_79
  · have hm := (if_neg c1).symm.trans hm
    refine lv_iload_n hx hb dX12_op_8 rfl (lv_at hl 1 rfl) ?_
    refine lv_if_lt (tgt := 47) hx hb dX12_op_9 (by decide) (fun c2 => ?_) (fun c2 => ?_)
    · have hm := (if_pos c2).symm.trans hm
      refine lv_iconst (v := 1) hx hb dX12_op_47 (by decide) ?_
      refine pf_59_0 hx hb ht hK hI mw_851 (fun _ h9 => h9) hown dX12_op_48 (fun H locs hI => ?_)
      refine lv_aload_n hx hb dX12_op_51 rfl (lv_at hl 0 rfl) ?_
      refine gf_59_0 hx hb ht hK hI (v := 1) rfl mw_851 (fun _ h9 => h9) hown dX12_op_52 ?_
      refine lv_if_le (tgt := 62) hx hb dX12_op_55 (by decide) (fun h => absurd h (by decide)) (fun _ => ?_)
      refine lv_iconst (v := 0) hx hb dX12_op_58 (by decide) ?_
      refine lv_goto (tgt := 79) hx hb dX12_op_59 (by decide) ?_
      exact hR _ _ _ _ _ _ hm hI dX12_op_79
    · have hm := (if_neg c2).symm.trans hm
      refine lv_iload_n hx hb dX12_op_12 rfl (lv_at hl 1 rfl) ?_
      refine lv_aload_n hx hb dX12_op_13 rfl (lv_at hl 0 rfl) ?_
      refine gf_59_1 hx hb ht hK hI (v := σ 59 1) rfl mw_852 (fun _ h9 => h9) hown dX12_op_14 ?_
      refine lv_icmp_ge (tgt := 47) hx hb dX12_op_17 (by decide) (fun c3 => ?_) (fun c3 => ?_)
      · have hm := (if_pos c3).symm.trans hm
        refine lv_iconst (v := 1) hx hb dX12_op_47 (by decide) ?_
        refine pf_59_0 hx hb ht hK hI mw_851 (fun _ h9 => h9) hown dX12_op_48 (fun H locs hI => ?_)
        refine lv_aload_n hx hb dX12_op_51 rfl (lv_at hl 0 rfl) ?_
        refine gf_59_0 hx hb ht hK hI (v := 1) rfl mw_851 (fun _ h9 => h9) hown dX12_op_52 ?_
        refine lv_if_le (tgt := 62) hx hb dX12_op_55 (by decide) (fun h => absurd h (by decide)) (fun _ => ?_)
        refine lv_iconst (v := 0) hx hb dX12_op_58 (by decide) ?_
        refine lv_goto (tgt := 79) hx hb dX12_op_59 (by decide) ?_
        exact hR _ _ _ _ _ _ hm hI dX12_op_79
      · have hm := (if_neg c3).symm.trans hm
        refine lv_iload_n hx hb dX12_op_20 rfl (lv_at hl 2 rfl) ?_
        refine lv_if_lt (tgt := 47) hx hb dX12_op_21 (by decide) (fun c4 => ?_) (fun c4 => ?_)
        · have hm := (if_pos c4).symm.trans hm
          refine lv_iconst (v := 1) hx hb dX12_op_47 (by decide) ?_
          refine pf_59_0 hx hb ht hK hI mw_851 (fun _ h9 => h9) hown dX12_op_48 (fun H locs hI => ?_)
          refine lv_aload_n hx hb dX12_op_51 rfl (lv_at hl 0 rfl) ?_
          refine gf_59_0 hx hb ht hK hI (v := 1) rfl mw_851 (fun _ h9 => h9) hown dX12_op_52 ?_
          refine lv_if_le (tgt := 62) hx hb dX12_op_55 (by decide) (fun h => absurd h (by decide)) (fun _ => ?_)
          refine lv_iconst (v := 0) hx hb dX12_op_58 (by decide) ?_
          refine lv_goto (tgt := 79) hx hb dX12_op_59 (by decide) ?_
          exact hR _ _ _ _ _ _ hm hI dX12_op_79
        · have hm := (if_neg c4).symm.trans hm
          refine lv_iload_n hx hb dX12_op_24 rfl (lv_at hl 2 rfl) ?_
          refine lv_aload_n hx hb dX12_op_25 rfl (lv_at hl 0 rfl) ?_
          refine gf_59_33 hx hb ht hK hI mw_781 (fun _ h9 => h9) hown dX12_op_26 ?_
          refine lv_iload_n hx hb dX12_op_29 rfl (lv_at hl 1 rfl) ?_
          obtain ⟨g5, hm⟩ := gb_some hm
          refine ld_86 hx hb hK hI g5 (v := σ 86 (ix p0)) rfl dX12_op_30 ?_
          refine lv_icmp_ge (tgt := 47) hx hb dX12_op_31 (by decide) (fun c6 => ?_) (fun c6 => ?_)
          · have hm := (if_pos c6).symm.trans hm
            refine lv_iconst (v := 1) hx hb dX12_op_47 (by decide) ?_
            refine pf_59_0 hx hb ht hK hI mw_851 (fun _ h9 => h9) hown dX12_op_48 (fun H locs hI => ?_)
            refine lv_aload_n hx hb dX12_op_51 rfl (lv_at hl 0 rfl) ?_
            refine gf_59_0 hx hb ht hK hI (v := 1) rfl mw_851 (fun _ h9 => h9) hown dX12_op_52 ?_
            refine lv_if_le (tgt := 62) hx hb dX12_op_55 (by decide) (fun h => absurd h (by decide)) (fun _ => ?_)
            refine lv_iconst (v := 0) hx hb dX12_op_58 (by decide) ?_
            refine lv_goto (tgt := 79) hx hb dX12_op_59 (by decide) ?_
            exact hR _ _ _ _ _ _ hm hI dX12_op_79
          · have hm := (if_neg c6).symm.trans hm
            refine lv_iload_n hx hb dX12_op_34 rfl (lv_at hl 3 rfl) ?_
            refine lv_if_lt (tgt := 47) hx hb dX12_op_35 (by decide) (fun c7 => ?_) (fun c7 => ?_)
            · have hm := (if_pos c7).symm.trans hm
              refine lv_iconst (v := 1) hx hb dX12_op_47 (by decide) ?_
              refine pf_59_0 hx hb ht hK hI mw_851 (fun _ h9 => h9) hown dX12_op_48 (fun H locs hI => ?_)
              refine lv_aload_n hx hb dX12_op_51 rfl (lv_at hl 0 rfl) ?_
              refine gf_59_0 hx hb ht hK hI (v := 1) rfl mw_851 (fun _ h9 => h9) hown dX12_op_52 ?_
              refine lv_if_le (tgt := 62) hx hb dX12_op_55 (by decide) (fun h => absurd h (by decide)) (fun _ => ?_)
              refine lv_iconst (v := 0) hx hb dX12_op_58 (by decide) ?_
              refine lv_goto (tgt := 79) hx hb dX12_op_59 (by decide) ?_
              exact hR _ _ _ _ _ _ hm hI dX12_op_79
            · have hm := (if_neg c7).symm.trans hm
              refine lv_iload_n hx hb dX12_op_38 rfl (lv_at hl 3 rfl) ?_
              refine lv_iconst (v := 4) hx hb dX12_op_39 (by decide) ?_
              refine lv_icmp_gt (tgt := 47) hx hb dX12_op_40 (by decide) (fun c8 => ?_) (fun c8 => ?_)
              · have hm := (if_pos c8).symm.trans hm
                refine lv_iconst (v := 1) hx hb dX12_op_47 (by decide) ?_
                refine pf_59_0 hx hb ht hK hI mw_851 (fun _ h9 => h9) hown dX12_op_48 (fun H locs hI => ?_)
                refine lv_aload_n hx hb dX12_op_51 rfl (lv_at hl 0 rfl) ?_
                refine gf_59_0 hx hb ht hK hI (v := 1) rfl mw_851 (fun _ h9 => h9) hown dX12_op_52 ?_
                refine lv_if_le (tgt := 62) hx hb dX12_op_55 (by decide) (fun h => absurd h (by decide)) (fun _ => ?_)
                refine lv_iconst (v := 0) hx hb dX12_op_58 (by decide) ?_
                refine lv_goto (tgt := 79) hx hb dX12_op_59 (by decide) ?_
                exact hR _ _ _ _ _ _ hm hI dX12_op_79
              · have hm := (if_neg c8).symm.trans hm
                refine lv_iconst (v := 0) hx hb dX12_op_43 (by decide) ?_
                refine lv_goto (tgt := 48) hx hb dX12_op_44 (by decide) ?_
                refine pf_59_0 hx hb ht hK hI mw_851 (fun _ h9 => h9) hown dX12_op_48 (fun H locs hI => ?_)
                refine lv_aload_n hx hb dX12_op_51 rfl (lv_at hl 0 rfl) ?_
                refine gf_59_0 hx hb ht hK hI (v := 0) rfl mw_851 (fun _ h9 => h9) hown dX12_op_52 ?_
                refine lv_if_le (tgt := 62) hx hb dX12_op_55 (by decide) (fun _ => ?_) (fun h => absurd h (by decide))
                refine lv_aload_n hx hb dX12_op_62 rfl (lv_at hl 0 rfl) ?_
                refine gf_59_31 hx hb ht hK hI mw_779 (fun _ h9 => h9) hown dX12_op_63 ?_
                refine lv_iconst (v := 5) hx hb dX12_op_66 (by decide) ?_
                refine lv_aload_n hx hb dX12_op_67 rfl (lv_at hl 0 rfl) ?_
                refine gf_59_32 hx hb ht hK hI mw_780 (fun _ h9 => h9) hown dX12_op_68 ?_
                refine lv_iload_n hx hb dX12_op_71 rfl (lv_at hl 1 rfl) ?_
                obtain ⟨g9, hm⟩ := gb_some hm
                refine ld_85 hx hb hK hI g9 (v := σ 85 (ix p0)) rfl dX12_op_72 ?_
                refine lv_iload_n hx hb dX12_op_73 rfl (lv_at hl 2 rfl) ?_
                refine lv_iadd hx hb dX12_op_74 ?_
                refine lv_imul hx hb dX12_op_75 ?_
                refine lv_iload_n hx hb dX12_op_76 rfl (lv_at hl 3 rfl) ?_
                refine lv_iadd hx hb dX12_op_77 ?_
                obtain ⟨g10, hm⟩ := gb_some hm
                refine ld_84 hx hb hK hI g10 (v := σ 84 (ix ((5 * ((σ 85 (ix p0)) + p1)) + p2))) rfl dX12_op_78 ?_
                exact hR _ _ _ _ _ _ hm hI dX12_op_79
def f_X12_push (N n : Nat) (σ : Sg) (p0 : Int32) : Option (Int32 × Sg) := gb 0 2 (gb ((σ 93 (ix 0)) - 1) 60 (gb ((24 * ((σ 93 (ix 0)) - 1)) + (σ 97 (ix ((σ 93 (ix 0)) - 1)))) 1440 (gb ((σ 93 (ix 0)) - 1) 60 (gb ((σ 93 (ix 0)) - 1) 60 (some (0, sg (sg σ 96 (ix ((24 * ((σ 93 (ix 0)) - 1)) + (σ 97 (ix ((σ 93 (ix 0)) - 1))))) p0) 97 (ix ((σ 93 (ix 0)) - 1)) ((σ 97 (ix ((σ 93 (ix 0)) - 1))) + 1)))))))
set_option maxHeartbeats 4000000 in
set_option maxRecDepth 100000 in
theorem c_X12_push {l : Launch} {g : GG} {q : Nat} (N n : Nat) {σ : Sg} {p0 : Int32} {r : Int32} {σ' : Sg} (hm : f_X12_push N n σ p0 = some (r, σ')) : CTv l yX12_push cX12_push 3 none 0 0 g q n [.ref (ga g 59), .int p0] σ σ' := by
  refine e_v (r := r) (by decide) (Nat.le_of_ble_eq_true rfl) ?_
  intro p e s m args below meth c A Q ls hC hl hI
  obtain ⟨hX, hK, hN, hZ, hA, hR⟩ := id hC
  have hx : p.tables.exec = Jvm.exec := hX.1
  have hb : c.code = cX12_push := hX.2.1
  have hml : c.maxLocals = 3 := hX.2.2.1
  have hown : s.vm.findClass RX12 = some m.cls := hX.2.2.2.1
  have ht : ∀ w ∈ BIG, w.before args s = true := hX.2.2.2.2
  have hl : lv_has ls 3 [(0, .ref (ga g 59)), (1, .int p0)] := hl
  unfold f_X12_push at hm
  refine lv_aload_n hx hb dX12_push_0 rfl (lv_at hl 0 rfl) ?_
  refine gf_59_43 hx hb ht hK hI mw_788 (fun _ h9 => h9) hown dX12_push_1 ?_
  refine lv_iconst (v := 0) hx hb dX12_push_4 (by decide) ?_
  obtain ⟨g1, hm⟩ := gb_some hm
  refine ld_93 hx hb hK hI g1 (v := σ 93 (ix 0)) rfl dX12_push_5 ?_
  refine lv_iconst (v := 1) hx hb dX12_push_6 (by decide) ?_
  refine lv_isub hx hb dX12_push_7 ?_
  refine lv_istore_n (lv' := [(2, .int ((σ 93 (ix 0)) - 1)), (0, .ref (ga g 59)), (1, .int p0)]) hx hb dX12_push_8 rfl hl (by decide) rfl (fun ls hl => ?_)
  refine lv_aload_n hx hb dX12_push_9 rfl (lv_at hl 1 rfl) ?_
  refine gf_59_46 hx hb ht hK hI mw_791 (fun _ h9 => h9) hown dX12_push_10 ?_
  refine lv_bipush (v := 24) hx hb dX12_push_13 (by decide) ?_
  refine lv_iload_n hx hb dX12_push_15 rfl (lv_at hl 0 rfl) ?_
  refine lv_imul hx hb dX12_push_16 ?_
  refine lv_aload_n hx hb dX12_push_17 rfl (lv_at hl 1 rfl) ?_
  refine gf_59_47 hx hb ht hK hI mw_792 (fun _ h9 => h9) hown dX12_push_18 ?_
  refine lv_iload_n hx hb dX12_push_21 rfl (lv_at hl 0 rfl) ?_
  obtain ⟨g2, hm⟩ := gb_some hm
  refine ld_97 hx hb hK hI g2 (v := σ 97 (ix ((σ 93 (ix 0)) - 1))) rfl dX12_push_22 ?_
  refine lv_iadd hx hb dX12_push_23 ?_
  refine lv_iload_n hx hb dX12_push_24 rfl (lv_at hl 2 rfl) ?_
  obtain ⟨g3, hm⟩ := gb_some hm
  refine sv_96 hx hb hK hI g3 dX12_push_25 (fun H locs hI => ?_)
  refine lv_aload_n hx hb dX12_push_26 rfl (lv_at hl 1 rfl) ?_
  refine gf_59_47 hx hb ht hK hI mw_792 (fun _ h9 => h9) hown dX12_push_27 ?_
  refine lv_iload_n hx hb dX12_push_30 rfl (lv_at hl 0 rfl) ?_
  refine lv_dup2_11 hx hb dX12_push_31 rfl rfl ?_
  obtain ⟨g4, hm⟩ := gb_some hm
  refine ld_97 hx hb hK hI g4 (v := σ 97 (ix ((σ 93 (ix 0)) - 1))) rfl dX12_push_32 ?_
  refine lv_iconst (v := 1) hx hb dX12_push_33 (by decide) ?_
  refine lv_iadd hx hb dX12_push_34 ?_
  obtain ⟨g5, hm⟩ := gb_some hm
  refine sv_97 hx hb hK hI g5 dX12_push_35 (fun H locs hI => ?_)
  exact hR _ _ _ _ _ hm hI dX12_push_36
def f_X12_over (N n : Nat) (σ : Sg) (p0 : Int32) (p1 : Int32) : Option (Int32 × Sg) := gb p0 2 (gb p0 2 (gb p0 2 (if ((σ 93 (ix p0)) - 1) = 0 then (gb p0 2 (bd (f_X12_ends N n (sg (sg σ 93 (ix p0) ((σ 93 (ix p0)) - 1)) 90 (ix p0) p1) p0 1) (fun r11 σ12 => some (0, σ12)))) else (gb p0 2 (if p0 = 0 then (bd (f_X12_push N n (sg (sg σ 93 (ix p0) ((σ 93 (ix p0)) - 1)) 101 (ix p0) p1) p1) (fun r7 σ8 => some (0, σ8))) else (some (0, sg (sg σ 93 (ix p0) ((σ 93 (ix p0)) - 1)) 101 (ix p0) p1)))))))
set_option maxHeartbeats 4000000 in
set_option maxRecDepth 100000 in
theorem c_X12_over {l : Launch} {g : GG} {q : Nat} (N n : Nat) {σ : Sg} {p0 : Int32} {p1 : Int32} {r : Int32} {σ' : Sg} (hm : f_X12_over N n σ p0 p1 = some (r, σ')) : CTv l yX12_over cX12_over 3 none 1 22 g q n [.ref (ga g 59), .int p0, .int p1] σ σ' := by
  refine e_v (r := r) (by decide) (Nat.le_of_ble_eq_true rfl) ?_
  intro p e s m args below meth c A Q ls hC hl hI
  obtain ⟨hX, hK, hN, hZ, hA, hR⟩ := id hC
  have hx : p.tables.exec = Jvm.exec := hX.1
  have hb : c.code = cX12_over := hX.2.1
  have hml : c.maxLocals = 3 := hX.2.2.1
  have hown : s.vm.findClass RX12 = some m.cls := hX.2.2.2.1
  have ht : ∀ w ∈ BIG, w.before args s = true := hX.2.2.2.2
  have hl : lv_has ls 3 [(0, .ref (ga g 59)), (1, .int p0), (2, .int p1)] := hl
  unfold f_X12_over at hm
  refine lv_aload_n hx hb dX12_over_0 rfl (lv_at hl 0 rfl) ?_
  refine gf_59_43 hx hb ht hK hI mw_788 (fun _ h9 => h9) hown dX12_over_1 ?_
  refine lv_iload_n hx hb dX12_over_4 rfl (lv_at hl 1 rfl) ?_
  refine lv_dup2_11 hx hb dX12_over_5 rfl rfl ?_
  obtain ⟨g1, hm⟩ := gb_some hm
  refine ld_93 hx hb hK hI g1 (v := σ 93 (ix p0)) rfl dX12_over_6 ?_
  refine lv_iconst (v := 1) hx hb dX12_over_7 (by decide) ?_
  refine lv_isub hx hb dX12_over_8 ?_
  obtain ⟨g2, hm⟩ := gb_some hm
  refine sv_93 hx hb hK hI g2 dX12_over_9 (fun H locs hI => ?_)
  refine lv_aload_n hx hb dX12_over_10 rfl (lv_at hl 0 rfl) ?_
  refine gf_59_43 hx hb ht hK hI mw_788 (fun _ h9 => h9) hown dX12_over_11 ?_
  refine lv_iload_n hx hb dX12_over_14 rfl (lv_at hl 1 rfl) ?_
  obtain ⟨g3, hm⟩ := gb_some hm
  refine ld_93 hx hb hK hI g3 (v := (σ 93 (ix p0)) - 1) (show upd (σ 93) (ix p0) ((σ 93 (ix p0)) - 1) (ix p0) = (σ 93 (ix p0)) - 1 from up_same _ _ _) dX12_over_15 ?_
  refine lv_if_ne (tgt := 33) hx hb dX12_over_16 (by decide) (fun c4 => ?_) (fun c4 => ?_)
  · have hm := (if_neg c4).symm.trans hm
    refine lv_aload_n hx hb dX12_over_33 rfl (lv_at hl 0 rfl) ?_
    refine gf_59_51 hx hb ht hK hI mw_796 (fun _ h9 => h9) hown dX12_over_34 ?_
    refine lv_iload_n hx hb dX12_over_37 rfl (lv_at hl 1 rfl) ?_
    refine lv_iload_n hx hb dX12_over_38 rfl (lv_at hl 2 rfl) ?_
    obtain ⟨g5, hm⟩ := gb_some hm
    refine sv_101 hx hb hK hI g5 dX12_over_39 (fun H locs hI => ?_)
    refine lv_iload_n hx hb dX12_over_40 rfl (lv_at hl 1 rfl) ?_
    refine lv_if_ne (tgt := 49) hx hb dX12_over_41 (by decide) (fun c6 => ?_) (fun c6 => ?_)
    · have hm := (if_neg c6).symm.trans hm
      exact hR _ _ _ _ _ hm hI dX12_over_49
    · have hm := (if_pos c6).symm.trans hm
      refine lv_aload_n hx hb dX12_over_44 rfl (lv_at hl 0 rfl) ?_
      refine lv_iload_n hx hb dX12_over_45 rfl (lv_at hl 2 rfl) ?_
      obtain ⟨r7, σ8, h9, hm⟩ := bd_some hm
      refine k_v hI hA (va_runV (As := [.int p1]) (rest := []) hX (c_X12_push N n h9 _) (cwV 1 ht (in_V mw_1015 mw_1016 mw_1017 mw_861 mw_1010) rfl rfl rfl pd_X12_push ⟨Nat.le_of_ble_eq_true rfl, Nat.le_of_ble_eq_true rfl⟩) ⟨q_blind, va_recv hK hI.1 (ci := 11) (q0 := 59) rfl rfl, q_to hI hK hN hZ hA⟩ rfl rfl hl.1 rfl (lv_room (Nat.le_of_ble_eq_true rfl)) dX12_over_46 (by decide)) (fun H locs hI => ?_)
      exact hR _ _ _ _ _ hm hI dX12_over_49
  · have hm := (if_pos c4).symm.trans hm
    refine lv_aload_n hx hb dX12_over_19 rfl (lv_at hl 0 rfl) ?_
    refine gf_59_40 hx hb ht hK hI mw_785 (fun _ h9 => h9) hown dX12_over_20 ?_
    refine lv_iload_n hx hb dX12_over_23 rfl (lv_at hl 1 rfl) ?_
    refine lv_iload_n hx hb dX12_over_24 rfl (lv_at hl 2 rfl) ?_
    obtain ⟨g10, hm⟩ := gb_some hm
    refine sv_90 hx hb hK hI g10 dX12_over_25 (fun H locs hI => ?_)
    refine lv_aload_n hx hb dX12_over_26 rfl (lv_at hl 0 rfl) ?_
    refine lv_iload_n hx hb dX12_over_27 rfl (lv_at hl 1 rfl) ?_
    refine lv_iconst (v := 1) hx hb dX12_over_28 (by decide) ?_
    obtain ⟨r11, σ12, h13, hm⟩ := bd_some hm
    refine k_v hI hA (va_runV (As := [.int p0, .int 1]) (rest := []) hX (c_X12_ends N n h13 _) (cwV 2 ht (in_V mw_1012 mw_1013 mw_1014 mw_861 mw_1009) rfl rfl rfl pd_X12_ends ⟨Nat.le_of_ble_eq_true rfl, Nat.le_of_ble_eq_true rfl⟩) ⟨q_blind, va_recv hK hI.1 (ci := 11) (q0 := 59) rfl rfl, q_to hI hK hN hZ hA⟩ rfl rfl hl.1 rfl (lv_room (Nat.le_of_ble_eq_true rfl)) dX12_over_29 (by decide)) (fun H locs hI => ?_)
    exact hR _ _ _ _ _ hm hI dX12_over_32
def f_X12_peek (N n : Nat) (σ : Sg) (p0 : Int32) (p1 : Int32) : Option (Int32 × Sg) := if p0 < 0 then (some (0, sg σ 59 0 1)) else (if 2 ≤ p0 then (some (0, sg σ 59 0 1)) else (bd (f_X12_isCell N n σ p1) (fun r3 σ4 => if r3 = 0 then (some (0, sg σ4 59 0 1)) else (gb ((64 * p0) + p1) 128 (some (σ4 88 (ix ((64 * p0) + p1)), sg σ4 59 0 0))))))
set_option maxHeartbeats 4000000 in
set_option maxRecDepth 100000 in
theorem c_X12_peek {l : Launch} {g : GG} {q : Nat} (N n : Nat) {σ : Sg} {p0 : Int32} {p1 : Int32} {r : Int32} {σ' : Sg} (hm : f_X12_peek N n σ p0 p1 = some (r, σ')) : CTi l yX12_peek cX12_peek 3 (some .int) 1 20 g q n [.ref (ga g 59), .int p0, .int p1] σ r σ' := by
  refine e_i (r := r) (by decide) (Nat.le_of_ble_eq_true rfl) ?_
  intro p e s m args below meth c A Q ls hC hl hI
  obtain ⟨hX, hK, hN, hZ, hA, hR⟩ := id hC
  have hx : p.tables.exec = Jvm.exec := hX.1
  have hb : c.code = cX12_peek := hX.2.1
  have hml : c.maxLocals = 3 := hX.2.2.1
  have hown : s.vm.findClass RX12 = some m.cls := hX.2.2.2.1
  have ht : ∀ w ∈ BIG, w.before args s = true := hX.2.2.2.2
  have hl : lv_has ls 3 [(0, .ref (ga g 59)), (1, .int p0), (2, .int p1)] := hl
  unfold f_X12_peek at hm
  refine lv_aload_n hx hb dX12_peek_0 rfl (lv_at hl 0 rfl) ?_
  refine lv_iload_n hx hb dX12_peek_1 rfl (lv_at hl 1 rfl) ?_
  refine lv_if_lt (tgt := 21) hx hb dX12_peek_2 (by decide) (fun c1 => ?_) (fun c1 => ?_)
  · have hm := (if_pos c1).symm.trans hm
    refine lv_iconst (v := 1) hx hb dX12_peek_21 (by decide) ?_
    refine pf_59_0 hx hb ht hK hI mw_851 (fun _ h9 => h9) hown dX12_peek_22 (fun H locs hI => ?_)
    refine lv_aload_n hx hb dX12_peek_25 rfl (lv_at hl 0 rfl) ?_
    refine gf_59_0 hx hb ht hK hI (v := 1) rfl mw_851 (fun _ h9 => h9) hown dX12_peek_26 ?_
    refine lv_if_le (tgt := 36) hx hb dX12_peek_29 (by decide) (fun h => absurd h (by decide)) (fun _ => ?_)
    refine lv_iconst (v := 0) hx hb dX12_peek_32 (by decide) ?_
    refine lv_goto (tgt := 47) hx hb dX12_peek_33 (by decide) ?_
    exact hR _ _ _ _ _ _ hm hI dX12_peek_47
  · have hm := (if_neg c1).symm.trans hm
    refine lv_iload_n hx hb dX12_peek_5 rfl (lv_at hl 1 rfl) ?_
    refine lv_iconst (v := 2) hx hb dX12_peek_6 (by decide) ?_
    refine lv_icmp_ge (tgt := 21) hx hb dX12_peek_7 (by decide) (fun c2 => ?_) (fun c2 => ?_)
    · have hm := (if_pos c2).symm.trans hm
      refine lv_iconst (v := 1) hx hb dX12_peek_21 (by decide) ?_
      refine pf_59_0 hx hb ht hK hI mw_851 (fun _ h9 => h9) hown dX12_peek_22 (fun H locs hI => ?_)
      refine lv_aload_n hx hb dX12_peek_25 rfl (lv_at hl 0 rfl) ?_
      refine gf_59_0 hx hb ht hK hI (v := 1) rfl mw_851 (fun _ h9 => h9) hown dX12_peek_26 ?_
      refine lv_if_le (tgt := 36) hx hb dX12_peek_29 (by decide) (fun h => absurd h (by decide)) (fun _ => ?_)
      refine lv_iconst (v := 0) hx hb dX12_peek_32 (by decide) ?_
      refine lv_goto (tgt := 47) hx hb dX12_peek_33 (by decide) ?_
      exact hR _ _ _ _ _ _ hm hI dX12_peek_47
    · have hm := (if_neg c2).symm.trans hm
      refine lv_iload_n hx hb dX12_peek_10 rfl (lv_at hl 2 rfl) ?_
      obtain ⟨r3, σ4, h5, hm⟩ := bd_some hm
      refine k_i hI hA (va_runS (As := [.int p1]) (rest := [.ref (ga g 59)]) hX (c_X12_isCell N n h5 _) (va_cwS 1 ht (in_S mw_1030 mw_1031 mw_861 mw_1028) rfl rfl rfl pd_X12_isCell ⟨Nat.le_of_ble_eq_true rfl, Nat.le_of_ble_eq_true rfl⟩) ⟨q_blind, q_to hI hK hN hZ hA⟩ rfl rfl hl.1 rfl (lv_room (Nat.le_of_ble_eq_true rfl)) dX12_peek_11 (by decide)) (fun H locs hI => ?_)
      refine lv_if_eq (tgt := 21) hx hb dX12_peek_14 (by decide) (fun c6 => ?_) (fun c6 => ?_)
      · have hm := (if_pos c6).symm.trans hm
        refine lv_iconst (v := 1) hx hb dX12_peek_21 (by decide) ?_
        refine pf_59_0 hx hb ht hK hI mw_851 (fun _ h9 => h9) hown dX12_peek_22 (fun H locs hI => ?_)
        refine lv_aload_n hx hb dX12_peek_25 rfl (lv_at hl 0 rfl) ?_
        refine gf_59_0 hx hb ht hK hI (v := 1) rfl mw_851 (fun _ h9 => h9) hown dX12_peek_26 ?_
        refine lv_if_le (tgt := 36) hx hb dX12_peek_29 (by decide) (fun h => absurd h (by decide)) (fun _ => ?_)
        refine lv_iconst (v := 0) hx hb dX12_peek_32 (by decide) ?_
        refine lv_goto (tgt := 47) hx hb dX12_peek_33 (by decide) ?_
        exact hR _ _ _ _ _ _ hm hI dX12_peek_47
      · have hm := (if_neg c6).symm.trans hm
        refine lv_iconst (v := 0) hx hb dX12_peek_17 (by decide) ?_
        refine lv_goto (tgt := 22) hx hb dX12_peek_18 (by decide) ?_
        refine pf_59_0 hx hb ht hK hI mw_851 (fun _ h9 => h9) hown dX12_peek_22 (fun H locs hI => ?_)
        refine lv_aload_n hx hb dX12_peek_25 rfl (lv_at hl 0 rfl) ?_
        refine gf_59_0 hx hb ht hK hI (v := 0) rfl mw_851 (fun _ h9 => h9) hown dX12_peek_26 ?_
        refine lv_if_le (tgt := 36) hx hb dX12_peek_29 (by decide) (fun _ => ?_) (fun h => absurd h (by decide))
        refine lv_aload_n hx hb dX12_peek_36 rfl (lv_at hl 0 rfl) ?_
        refine gf_59_38 hx hb ht hK hI mw_783 (fun _ h9 => h9) hown dX12_peek_37 ?_
        refine lv_bipush (v := 64) hx hb dX12_peek_40 (by decide) ?_
        refine lv_iload_n hx hb dX12_peek_42 rfl (lv_at hl 1 rfl) ?_
        refine lv_imul hx hb dX12_peek_43 ?_
        refine lv_iload_n hx hb dX12_peek_44 rfl (lv_at hl 2 rfl) ?_
        refine lv_iadd hx hb dX12_peek_45 ?_
        obtain ⟨g7, hm⟩ := gb_some hm
        refine ld_88 hx hb hK hI g7 (v := σ4 88 (ix ((64 * p0) + p1))) rfl dX12_peek_46 ?_
        exact hR _ _ _ _ _ _ hm hI dX12_peek_47
def f_X12_places (N n : Nat) (σ : Sg) (p0 : Int32) : Option (Int32 × Sg) := bd (f_X12_isFunc N n (sg σ 59 0 0) p0) (fun r1 σ2 => if r1 = 0 then (some ((-1), σ2)) else (gb p0 12 (some (σ2 82 (ix p0), σ2))))
set_option maxHeartbeats 4000000 in
set_option maxRecDepth 100000 in
theorem c_X12_places {l : Launch} {g : GG} {q : Nat} (N n : Nat) {σ : Sg} {p0 : Int32} {r : Int32} {σ' : Sg} (hm : f_X12_places N n σ p0 = some (r, σ')) : CTi l yX12_places cX12_places 2 (some .int) 1 21 g q n [.ref (ga g 59), .int p0] σ r σ' := by
  refine e_i (r := r) (by decide) (Nat.le_of_ble_eq_true rfl) ?_
  intro p e s m args below meth c A Q ls hC hl hI
  obtain ⟨hX, hK, hN, hZ, hA, hR⟩ := id hC
  have hx : p.tables.exec = Jvm.exec := hX.1
  have hb : c.code = cX12_places := hX.2.1
  have hml : c.maxLocals = 2 := hX.2.2.1
  have hown : s.vm.findClass RX12 = some m.cls := hX.2.2.2.1
  have ht : ∀ w ∈ BIG, w.before args s = true := hX.2.2.2.2
  have hl : lv_has ls 2 [(0, .ref (ga g 59)), (1, .int p0)] := hl
  unfold f_X12_places at hm
  refine lv_aload_n hx hb dX12_places_0 rfl (lv_at hl 0 rfl) ?_
  refine lv_iconst (v := 0) hx hb dX12_places_1 (by decide) ?_
  refine pf_59_0 hx hb ht hK hI mw_851 (fun _ h9 => h9) hown dX12_places_2 (fun H locs hI => ?_)
  refine lv_aload_n hx hb dX12_places_5 rfl (lv_at hl 0 rfl) ?_
  refine lv_iload_n hx hb dX12_places_6 rfl (lv_at hl 1 rfl) ?_
  obtain ⟨r1, σ2, h3, hm⟩ := bd_some hm
  refine k_i hI hA (va_runV (As := [.int p0]) (rest := []) hX (c_X12_isFunc N n h3 _) (cwV 1 ht (in_V mw_1079 mw_1080 mw_1081 mw_861 mw_1077) rfl rfl rfl pd_X12_isFunc ⟨Nat.le_of_ble_eq_true rfl, Nat.le_of_ble_eq_true rfl⟩) ⟨q_blind, va_recv hK hI.1 (ci := 11) (q0 := 59) rfl rfl, q_to hI hK hN hZ hA⟩ rfl rfl hl.1 rfl (lv_room (Nat.le_of_ble_eq_true rfl)) dX12_places_7 (by decide)) (fun H locs hI => ?_)
  refine lv_if_eq (tgt := 22) hx hb dX12_places_10 (by decide) (fun c4 => ?_) (fun c4 => ?_)
  · have hm := (if_pos c4).symm.trans hm
    refine lv_iconst (v := (-1)) hx hb dX12_places_22 (by decide) ?_
    exact hR _ _ _ _ _ _ hm hI dX12_places_23
  · have hm := (if_neg c4).symm.trans hm
    refine lv_aload_n hx hb dX12_places_13 rfl (lv_at hl 0 rfl) ?_
    refine gf_59_28 hx hb ht hK hI mw_777 (fun _ h9 => h9) hown dX12_places_14 ?_
    refine lv_iload_n hx hb dX12_places_17 rfl (lv_at hl 1 rfl) ?_
    obtain ⟨g5, hm⟩ := gb_some hm
    refine ld_82 hx hb hK hI g5 (v := σ2 82 (ix p0)) rfl dX12_places_18 ?_
    refine lv_goto (tgt := 23) hx hb dX12_places_19 (by decide) ?_
    exact hR _ _ _ _ _ _ hm hI dX12_places_23
def f_X12_readStack (N n : Nat) (σ : Sg)  : Option (Int32 × Sg) := bd (f_X12_pop N n σ ) (fun r1 σ2 => bd (f_X12_isCell N n σ2 r1) (fun r4 σ5 => if r4 = 0 then (bd (f_X12_ends N n σ5 0 3) (fun r12 σ13 => some (0, σ13))) else (gb r1 128 (bd (f_X12_push N n σ5 (σ5 88 (ix r1))) (fun r9 σ10 => some (0, σ10))))))
set_option maxHeartbeats 4000000 in
set_option maxRecDepth 100000 in
theorem c_X12_readStack {l : Launch} {g : GG} {q : Nat} (N n : Nat) {σ : Sg}  {r : Int32} {σ' : Sg} (hm : f_X12_readStack N n σ  = some (r, σ')) : CTv l yX12_readStack cX12_readStack 2 none 1 22 g q n [.ref (ga g 59)] σ σ' := by
  refine e_v (r := r) (by decide) (Nat.le_of_ble_eq_true rfl) ?_
  intro p e s m args below meth c A Q ls hC hl hI
  obtain ⟨hX, hK, hN, hZ, hA, hR⟩ := id hC
  have hx : p.tables.exec = Jvm.exec := hX.1
  have hb : c.code = cX12_readStack := hX.2.1
  have hml : c.maxLocals = 2 := hX.2.2.1
  have hown : s.vm.findClass RX12 = some m.cls := hX.2.2.2.1
  have ht : ∀ w ∈ BIG, w.before args s = true := hX.2.2.2.2
  have hl : lv_has ls 2 [(0, .ref (ga g 59))] := hl
  unfold f_X12_readStack at hm
  refine lv_aload_n hx hb dX12_readStack_0 rfl (lv_at hl 0 rfl) ?_
  obtain ⟨r1, σ2, h3, hm⟩ := bd_some hm
  refine k_i hI hA (va_runV (As := []) (rest := []) hX (c_X12_pop N n h3 _) (cwV 0 ht (in_V mw_1021 mw_1022 mw_1023 mw_861 mw_1018) rfl rfl rfl pd_X12_pop ⟨Nat.le_of_ble_eq_true rfl, Nat.le_of_ble_eq_true rfl⟩) ⟨q_blind, va_recv hK hI.1 (ci := 11) (q0 := 59) rfl rfl, q_to hI hK hN hZ hA⟩ rfl rfl hl.1 rfl (lv_room (Nat.le_of_ble_eq_true rfl)) dX12_readStack_1 (by decide)) (fun H locs hI => ?_)
  refine lv_istore_n (lv' := [(1, .int r1), (0, .ref (ga g 59))]) hx hb dX12_readStack_4 rfl hl (by decide) rfl (fun ls hl => ?_)
  refine lv_iload_n hx hb dX12_readStack_5 rfl (lv_at hl 0 rfl) ?_
  obtain ⟨r4, σ5, h6, hm⟩ := bd_some hm
  refine k_i hI hA (va_runS (As := [.int r1]) (rest := []) hX (c_X12_isCell N n h6 _) (va_cwS 1 ht (in_S mw_1030 mw_1031 mw_861 mw_1028) rfl rfl rfl pd_X12_isCell ⟨Nat.le_of_ble_eq_true rfl, Nat.le_of_ble_eq_true rfl⟩) ⟨q_blind, q_to hI hK hN hZ hA⟩ rfl rfl hl.1 rfl (lv_room (Nat.le_of_ble_eq_true rfl)) dX12_readStack_6 (by decide)) (fun H locs hI => ?_)
  refine lv_if_ne (tgt := 19) hx hb dX12_readStack_9 (by decide) (fun c7 => ?_) (fun c7 => ?_)
  · have hm := (if_neg c7).symm.trans hm
    refine lv_aload_n hx hb dX12_readStack_19 rfl (lv_at hl 1 rfl) ?_
    refine lv_aload_n hx hb dX12_readStack_20 rfl (lv_at hl 1 rfl) ?_
    refine gf_59_38 hx hb ht hK hI mw_783 (fun _ h9 => h9) hown dX12_readStack_21 ?_
    refine lv_iload_n hx hb dX12_readStack_24 rfl (lv_at hl 0 rfl) ?_
    obtain ⟨g8, hm⟩ := gb_some hm
    refine ld_88 hx hb hK hI g8 (v := σ5 88 (ix r1)) rfl dX12_readStack_25 ?_
    obtain ⟨r9, σ10, h11, hm⟩ := bd_some hm
    refine k_v hI hA (va_runV (As := [.int (σ5 88 (ix r1))]) (rest := []) hX (c_X12_push N n h11 _) (cwV 1 ht (in_V mw_1015 mw_1016 mw_1017 mw_861 mw_1010) rfl rfl rfl pd_X12_push ⟨Nat.le_of_ble_eq_true rfl, Nat.le_of_ble_eq_true rfl⟩) ⟨q_blind, va_recv hK hI.1 (ci := 11) (q0 := 59) rfl rfl, q_to hI hK hN hZ hA⟩ rfl rfl hl.1 rfl (lv_room (Nat.le_of_ble_eq_true rfl)) dX12_readStack_26 (by decide)) (fun H locs hI => ?_)
    exact hR _ _ _ _ _ hm hI dX12_readStack_29
  · have hm := (if_pos c7).symm.trans hm
    refine lv_aload_n hx hb dX12_readStack_12 rfl (lv_at hl 1 rfl) ?_
    refine lv_iconst (v := 0) hx hb dX12_readStack_13 (by decide) ?_
    refine lv_iconst (v := 3) hx hb dX12_readStack_14 (by decide) ?_
    obtain ⟨r12, σ13, h14, hm⟩ := bd_some hm
    refine k_v hI hA (va_runV (As := [.int 0, .int 3]) (rest := []) hX (c_X12_ends N n h14 _) (cwV 2 ht (in_V mw_1012 mw_1013 mw_1014 mw_861 mw_1009) rfl rfl rfl pd_X12_ends ⟨Nat.le_of_ble_eq_true rfl, Nat.le_of_ble_eq_true rfl⟩) ⟨q_blind, va_recv hK hI.1 (ci := 11) (q0 := 59) rfl rfl, q_to hI hK hN hZ hA⟩ rfl rfl hl.1 rfl (lv_room (Nat.le_of_ble_eq_true rfl)) dX12_readStack_15 (by decide)) (fun H locs hI => ?_)
    exact hR _ _ _ _ _ hm hI dX12_readStack_18
