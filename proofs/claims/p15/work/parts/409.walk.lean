def lb_X12_forwards_2 (N n : Nat)  (K31 : (Sg → Int32 → Option (Int32 × Sg))) (rec : (Sg → Int32 → Option (Int32 × Sg))) (σ : Sg) (v1 : Int32) : Option (Int32 × Sg) := if (σ 59 12) < v1 then (K31 σ v1) else (if v1 = 0 then (gb v1 301 (rec (sg σ 74 (ix v1) 1) (v1 + 1))) else (gb v1 301 (rec (sg σ 74 (ix v1) 0) (v1 + 1))))
def lf_X12_forwards_2 (N n : Nat)  (K31 : (Sg → Int32 → Option (Int32 × Sg))) : Nat → (Sg → Int32 → Option (Int32 × Sg))
  | 0 => fun _ _ => none
  | k + 1 => lb_X12_forwards_2 N n  K31 (lf_X12_forwards_2 N n  K31 k)
def lb_X12_forwards_33 (N n : Nat)  (K103 : (Sg → Int32 → Option (Int32 × Sg))) (rec : (Sg → Int32 → Option (Int32 × Sg))) (σ : Sg) (v1 : Int32) : Option (Int32 × Sg) := if (σ 59 12) ≤ v1 then (K103 σ v1) else (gb v1 300 (bd (f_X12_isJump N n σ (σ 68 (ix v1))) (fun r9 σ10 => if r9 = 0 then (gb v1 300 (bd (f_X12_isJump N n σ10 (σ10 68 (ix v1))) (fun r14 σ15 => if r14 = 0 then (gb v1 300 (if (σ15 68 (ix v1)) = 6 then (gb (v1 + 1) 301 (rec (sg σ15 74 (ix (v1 + 1)) 1) (v1 + 1))) else (rec σ15 (v1 + 1)))) else (gb (v1 + 1) 301 (rec (sg σ15 74 (ix (v1 + 1)) 1) (v1 + 1)))))) else (gb v1 300 (gb (σ10 69 (ix v1)) 301 (gb v1 300 (bd (f_X12_isJump N n (sg σ10 74 (ix (σ10 69 (ix v1))) 1) (σ10 68 (ix v1))) (fun r25 σ26 => if r25 = 0 then (gb v1 300 (if (σ26 68 (ix v1)) = 6 then (gb (v1 + 1) 301 (rec (sg σ26 74 (ix (v1 + 1)) 1) (v1 + 1))) else (rec σ26 (v1 + 1)))) else (gb (v1 + 1) 301 (rec (sg σ26 74 (ix (v1 + 1)) 1) (v1 + 1)))))))))))
def lf_X12_forwards_33 (N n : Nat)  (K103 : (Sg → Int32 → Option (Int32 × Sg))) : Nat → (Sg → Int32 → Option (Int32 × Sg))
  | 0 => fun _ _ => none
  | k + 1 => lb_X12_forwards_33 N n  K103 (lf_X12_forwards_33 N n  K103 k)
def lb_X12_forwards_124 (N n : Nat) (u1 : Int32) (K143 : (Sg → Int32 → Option (Int32 × Sg))) (rec : (Sg → Int32 → Option (Int32 × Sg))) (σ : Sg) (v2 : Int32) : Option (Int32 × Sg) := if 24 ≤ v2 then (K143 σ v2) else (gb v2 24 (rec (sg σ 75 (ix v2) (-1)) (v2 + 1)))
def lf_X12_forwards_124 (N n : Nat) (u1 : Int32) (K143 : (Sg → Int32 → Option (Int32 × Sg))) : Nat → (Sg → Int32 → Option (Int32 × Sg))
  | 0 => fun _ _ => none
  | k + 1 => lb_X12_forwards_124 N n u1 K143 (lf_X12_forwards_124 N n u1 K143 k)
def lb_X12_forwards_105 (N n : Nat)  (K154 : (Sg → Int32 → Option (Int32 × Sg))) (rec : (Sg → Int32 → Option (Int32 × Sg))) (σ : Sg) (v1 : Int32) : Option (Int32 × Sg) := if (σ 59 12) ≤ v1 then (K154 σ v1) else (gb v1 301 (if (σ 74 (ix v1)) = 0 then (bd (f_X12_forward N n σ v1) (fun r38 σ39 => rec σ39 (v1 + 1))) else (lf_X12_forwards_124 N n v1 (fun σ43 w44 => bd (f_X12_forward N n σ43 v1) (fun r45 σ46 => rec σ46 (v1 + 1))) N σ 0)))
def lf_X12_forwards_105 (N n : Nat)  (K154 : (Sg → Int32 → Option (Int32 × Sg))) : Nat → (Sg → Int32 → Option (Int32 × Sg))
  | 0 => fun _ _ => none
  | k + 1 => lb_X12_forwards_105 N n  K154 (lf_X12_forwards_105 N n  K154 k)
def f_X12_forwards (N n : Nat) (σ : Sg)  : Option (Int32 × Sg) := lf_X12_forwards_2 N n  (fun σ5 w6 => lf_X12_forwards_33 N n  (fun σ33 w34 => lf_X12_forwards_105 N n  (fun σ48 w49 => some (0, σ48)) N σ33 0) N σ5 0) N σ 0
set_option maxHeartbeats 4000000 in
set_option maxRecDepth 100000 in
theorem lp_X12_forwards_2 {p : Program} {l : Launch} {e : Env} {s : State} {m : MethodId} {args : Array Value} {below : List Frame} {meth : Method} {c : Code} {Q : State → Prop} {A : Nat → Prop} {g : GG} {q N n : Nat} {out : Int32 × Sg}  {K31 : (Sg → Int32 → Option (Int32 × Sg))}
    (hC : CXv p l e (qR 2 46) s m args below meth c cX12_forwards 3 RX12 g q n A Q (some out)) :
    ∀ (k : Nat) (σ : Sg) (v1 : Int32) (H : Heap) (locs : List Loc) (ls : Array Slot), lf_X12_forwards_2 N n  K31 k σ v1 = some out → wI g q n σ A s.heap H locs → lv_has ls 3 [(0, .ref (ga g 59)), (1, .int v1)] → (∀ (σ : Sg) (v1 : Int32) (H : Heap) (locs : List Loc) (ls : Array Slot), K31 σ v1 = some out → wI g q n σ A s.heap H locs → lv_has ls 3 [(0, .ref (ga g 59))] → W p l e (qR 2 46) s m args below meth c H locs 0 0 Q (F0 m 31 ls [])) → W p l e (qR 2 46) s m args below meth c H locs 0 0 Q (F0 m 2 ls []) := by
  obtain ⟨hX, hK, hN, hZ, hA, hR⟩ := id hC
  have hx : p.tables.exec = Jvm.exec := hX.1
  have hb : c.code = cX12_forwards := hX.2.1
  have hml : c.maxLocals = 3 := hX.2.2.1
  have hown : s.vm.findClass RX12 = some m.cls := hX.2.2.2.1
  have ht : ∀ w ∈ BIG, w.before args s = true := hX.2.2.2.2
  intro k
  induction k with
  | zero =>
    intro σ v1 H locs ls hm
    have hm : none = some out := hm
    exact nomatch hm
  | succ k ih =>
    intro σ v1 H locs ls hm hI hl hx31
    have hm : lb_X12_forwards_2 N n  K31 (lf_X12_forwards_2 N n  K31 k) σ v1 = some out := hm
    unfold lb_X12_forwards_2 at hm
    refine lv_iload_n hx hb dX12_forwards_2 rfl (lv_at hl 1 rfl) ?_
    refine lv_aload_n hx hb dX12_forwards_3 rfl (lv_at hl 0 rfl) ?_
    refine gf_59_12 hx hb ht hK hI (v := σ 59 12) rfl mw_888 (fun _ h9 => h9) hown dX12_forwards_4 ?_
    refine lv_icmp_gt (tgt := 31) hx hb dX12_forwards_7 (by decide) (fun c1 => ?_) (fun c1 => ?_)
    · have hm := (if_pos c1).symm.trans hm
      exact hx31 σ v1 _ _ _ hm hI (lv_sub hl [0] rfl)
    · have hm := (if_neg c1).symm.trans hm
      refine lv_aload_n hx hb dX12_forwards_10 rfl (lv_at hl 0 rfl) ?_
      refine gf_59_19 hx hb ht hK hI mw_769 (fun _ h9 => h9) hown dX12_forwards_11 ?_
      refine lv_iload_n hx hb dX12_forwards_14 rfl (lv_at hl 1 rfl) ?_
      refine lv_iload_n hx hb dX12_forwards_15 rfl (lv_at hl 1 rfl) ?_
      refine lv_if_ne (tgt := 23) hx hb dX12_forwards_16 (by decide) (fun c2 => ?_) (fun c2 => ?_)
      · have hm := (if_neg c2).symm.trans hm
        refine lv_iconst (v := 0) hx hb dX12_forwards_23 (by decide) ?_
        obtain ⟨g3, hm⟩ := gb_some hm
        refine sv_74 hx hb hK hI g3 (by decide) dX12_forwards_24 (fun H locs hI => ?_)
        refine lv_iinc (v := v1 + 1) (lv' := [(1, .int (v1 + 1)), (0, .ref (ga g 59))]) hx hb dX12_forwards_25 hl (k := 1) rfl (congrArg (fun z => v1 + z) (show Int32.ofInt 1 = 1 by decide)) (by decide) rfl (fun ls hl => ?_)
        refine lv_goto (tgt := 2) hx hb dX12_forwards_28 (by decide) ?_
        exact ih (sg σ 74 (ix v1) 0) (v1 + 1) _ _ _ hm hI (lv_sub hl [1, 0] rfl) hx31
      · have hm := (if_pos c2).symm.trans hm
        refine lv_iconst (v := 1) hx hb dX12_forwards_19 (by decide) ?_
        refine lv_goto (tgt := 24) hx hb dX12_forwards_20 (by decide) ?_
        obtain ⟨g4, hm⟩ := gb_some hm
        refine sv_74 hx hb hK hI g4 (by decide) dX12_forwards_24 (fun H locs hI => ?_)
        refine lv_iinc (v := v1 + 1) (lv' := [(1, .int (v1 + 1)), (0, .ref (ga g 59))]) hx hb dX12_forwards_25 hl (k := 1) rfl (congrArg (fun z => v1 + z) (show Int32.ofInt 1 = 1 by decide)) (by decide) rfl (fun ls hl => ?_)
        refine lv_goto (tgt := 2) hx hb dX12_forwards_28 (by decide) ?_
        exact ih (sg σ 74 (ix v1) 1) (v1 + 1) _ _ _ hm hI (lv_sub hl [1, 0] rfl) hx31
set_option maxHeartbeats 4000000 in
set_option maxRecDepth 100000 in
theorem lp_X12_forwards_33 {p : Program} {l : Launch} {e : Env} {s : State} {m : MethodId} {args : Array Value} {below : List Frame} {meth : Method} {c : Code} {Q : State → Prop} {A : Nat → Prop} {g : GG} {q N n : Nat} {out : Int32 × Sg}  {K103 : (Sg → Int32 → Option (Int32 × Sg))}
    (hC : CXv p l e (qR 2 46) s m args below meth c cX12_forwards 3 RX12 g q n A Q (some out)) :
    ∀ (k : Nat) (σ : Sg) (v1 : Int32) (H : Heap) (locs : List Loc) (ls : Array Slot), lf_X12_forwards_33 N n  K103 k σ v1 = some out → wI g q n σ A s.heap H locs → lv_has ls 3 [(0, .ref (ga g 59)), (1, .int v1)] → (∀ (σ : Sg) (v1 : Int32) (H : Heap) (locs : List Loc) (ls : Array Slot), K103 σ v1 = some out → wI g q n σ A s.heap H locs → lv_has ls 3 [(0, .ref (ga g 59))] → W p l e (qR 2 46) s m args below meth c H locs 0 0 Q (F0 m 103 ls [])) → W p l e (qR 2 46) s m args below meth c H locs 0 0 Q (F0 m 33 ls []) := by
  obtain ⟨hX, hK, hN, hZ, hA, hR⟩ := id hC
  have hx : p.tables.exec = Jvm.exec := hX.1
  have hb : c.code = cX12_forwards := hX.2.1
  have hml : c.maxLocals = 3 := hX.2.2.1
  have hown : s.vm.findClass RX12 = some m.cls := hX.2.2.2.1
  have ht : ∀ w ∈ BIG, w.before args s = true := hX.2.2.2.2
  intro k
  induction k with
  | zero =>
    intro σ v1 H locs ls hm
    have hm : none = some out := hm
    exact nomatch hm
  | succ k ih =>
    intro σ v1 H locs ls hm hI hl hx103
    have hm : lb_X12_forwards_33 N n  K103 (lf_X12_forwards_33 N n  K103 k) σ v1 = some out := hm
    unfold lb_X12_forwards_33 at hm
    refine lv_iload_n hx hb dX12_forwards_33 rfl (lv_at hl 1 rfl) ?_
    refine lv_aload_n hx hb dX12_forwards_34 rfl (lv_at hl 0 rfl) ?_
    refine gf_59_12 hx hb ht hK hI (v := σ 59 12) rfl mw_888 (fun _ h9 => h9) hown dX12_forwards_35 ?_
    refine lv_icmp_ge (tgt := 103) hx hb dX12_forwards_38 (by decide) (fun c7 => ?_) (fun c7 => ?_)
    · have hm := (if_pos c7).symm.trans hm
      exact hx103 σ v1 _ _ _ hm hI (lv_sub hl [0] rfl)
    · have hm := (if_neg c7).symm.trans hm
      refine lv_aload_n hx hb dX12_forwards_41 rfl (lv_at hl 0 rfl) ?_
      refine gf_59_13 hx hb ht hK hI mw_763 (fun _ h9 => h9) hown dX12_forwards_42 ?_
      refine lv_iload_n hx hb dX12_forwards_45 rfl (lv_at hl 1 rfl) ?_
      obtain ⟨g8, hm⟩ := gb_some hm
      refine ld_68 hx hb hK hI g8 (v := σ 68 (ix v1)) rfl dX12_forwards_46 ?_
      obtain ⟨r9, σ10, h11, hm⟩ := bd_some hm
      refine k_i hI hA (va_runS (As := [.int (σ 68 (ix v1))]) (rest := []) hX (c_X12_isJump N n h11 _) (va_cwS 1 ht (in_S mw_902 mw_903 mw_861 mw_891) rfl rfl rfl pd_X12_isJump ⟨Nat.le_of_ble_eq_true rfl, Nat.le_of_ble_eq_true rfl⟩) ⟨q_blind, q_to hI hK hN hZ hA⟩ rfl rfl hl.1 rfl (lv_room (Nat.le_of_ble_eq_true rfl)) dX12_forwards_47 (by decide)) (fun H locs hI => ?_)
      refine lv_if_eq (tgt := 65) hx hb dX12_forwards_50 (by decide) (fun c12 => ?_) (fun c12 => ?_)
      · have hm := (if_pos c12).symm.trans hm
        refine lv_aload_n hx hb dX12_forwards_65 rfl (lv_at hl 0 rfl) ?_
        refine gf_59_13 hx hb ht hK hI mw_763 (fun _ h9 => h9) hown dX12_forwards_66 ?_
        refine lv_iload_n hx hb dX12_forwards_69 rfl (lv_at hl 1 rfl) ?_
        obtain ⟨g13, hm⟩ := gb_some hm
        refine ld_68 hx hb hK hI g13 (v := σ10 68 (ix v1)) rfl dX12_forwards_70 ?_
        obtain ⟨r14, σ15, h16, hm⟩ := bd_some hm
        refine k_i hI hA (va_runS (As := [.int (σ10 68 (ix v1))]) (rest := []) hX (c_X12_isJump N n h16 _) (va_cwS 1 ht (in_S mw_902 mw_903 mw_861 mw_891) rfl rfl rfl pd_X12_isJump ⟨Nat.le_of_ble_eq_true rfl, Nat.le_of_ble_eq_true rfl⟩) ⟨q_blind, q_to hI hK hN hZ hA⟩ rfl rfl hl.1 rfl (lv_room (Nat.le_of_ble_eq_true rfl)) dX12_forwards_71 (by decide)) (fun H locs hI => ?_)
        refine lv_if_ne (tgt := 88) hx hb dX12_forwards_74 (by decide) (fun c17 => ?_) (fun c17 => ?_)
        · have hm := (if_neg c17).symm.trans hm
          refine lv_aload_n hx hb dX12_forwards_88 rfl (lv_at hl 0 rfl) ?_
          refine gf_59_19 hx hb ht hK hI mw_769 (fun _ h9 => h9) hown dX12_forwards_89 ?_
          refine lv_iload_n hx hb dX12_forwards_92 rfl (lv_at hl 1 rfl) ?_
          refine lv_iconst (v := 1) hx hb dX12_forwards_93 (by decide) ?_
          refine lv_iadd hx hb dX12_forwards_94 ?_
          refine lv_iconst (v := 1) hx hb dX12_forwards_95 (by decide) ?_
          obtain ⟨g18, hm⟩ := gb_some hm
          refine sv_74 hx hb hK hI g18 (by decide) dX12_forwards_96 (fun H locs hI => ?_)
          refine lv_iinc (v := v1 + 1) (lv' := [(1, .int (v1 + 1)), (0, .ref (ga g 59))]) hx hb dX12_forwards_97 hl (k := 1) rfl (congrArg (fun z => v1 + z) (show Int32.ofInt 1 = 1 by decide)) (by decide) rfl (fun ls hl => ?_)
          refine lv_goto (tgt := 33) hx hb dX12_forwards_100 (by decide) ?_
          exact ih (sg σ15 74 (ix (v1 + 1)) 1) (v1 + 1) _ _ _ hm hI (lv_sub hl [1, 0] rfl) hx103
        · have hm := (if_pos c17).symm.trans hm
          refine lv_aload_n hx hb dX12_forwards_77 rfl (lv_at hl 0 rfl) ?_
          refine gf_59_13 hx hb ht hK hI mw_763 (fun _ h9 => h9) hown dX12_forwards_78 ?_
          refine lv_iload_n hx hb dX12_forwards_81 rfl (lv_at hl 1 rfl) ?_
          obtain ⟨g19, hm⟩ := gb_some hm
          refine ld_68 hx hb hK hI g19 (v := σ15 68 (ix v1)) rfl dX12_forwards_82 ?_
          refine lv_bipush (v := 6) hx hb dX12_forwards_83 (by decide) ?_
          refine lv_icmp_ne (tgt := 97) hx hb dX12_forwards_85 (by decide) (fun c20 => ?_) (fun c20 => ?_)
          · have hm := (if_neg c20).symm.trans hm
            refine lv_iinc (v := v1 + 1) (lv' := [(1, .int (v1 + 1)), (0, .ref (ga g 59))]) hx hb dX12_forwards_97 hl (k := 1) rfl (congrArg (fun z => v1 + z) (show Int32.ofInt 1 = 1 by decide)) (by decide) rfl (fun ls hl => ?_)
            refine lv_goto (tgt := 33) hx hb dX12_forwards_100 (by decide) ?_
            exact ih σ15 (v1 + 1) _ _ _ hm hI (lv_sub hl [1, 0] rfl) hx103
          · have hm := (if_pos c20).symm.trans hm
            refine lv_aload_n hx hb dX12_forwards_88 rfl (lv_at hl 0 rfl) ?_
            refine gf_59_19 hx hb ht hK hI mw_769 (fun _ h9 => h9) hown dX12_forwards_89 ?_
            refine lv_iload_n hx hb dX12_forwards_92 rfl (lv_at hl 1 rfl) ?_
            refine lv_iconst (v := 1) hx hb dX12_forwards_93 (by decide) ?_
            refine lv_iadd hx hb dX12_forwards_94 ?_
            refine lv_iconst (v := 1) hx hb dX12_forwards_95 (by decide) ?_
            obtain ⟨g21, hm⟩ := gb_some hm
            refine sv_74 hx hb hK hI g21 (by decide) dX12_forwards_96 (fun H locs hI => ?_)
            refine lv_iinc (v := v1 + 1) (lv' := [(1, .int (v1 + 1)), (0, .ref (ga g 59))]) hx hb dX12_forwards_97 hl (k := 1) rfl (congrArg (fun z => v1 + z) (show Int32.ofInt 1 = 1 by decide)) (by decide) rfl (fun ls hl => ?_)
            refine lv_goto (tgt := 33) hx hb dX12_forwards_100 (by decide) ?_
            exact ih (sg σ15 74 (ix (v1 + 1)) 1) (v1 + 1) _ _ _ hm hI (lv_sub hl [1, 0] rfl) hx103
      · have hm := (if_neg c12).symm.trans hm
        refine lv_aload_n hx hb dX12_forwards_53 rfl (lv_at hl 0 rfl) ?_
        refine gf_59_19 hx hb ht hK hI mw_769 (fun _ h9 => h9) hown dX12_forwards_54 ?_
        refine lv_aload_n hx hb dX12_forwards_57 rfl (lv_at hl 0 rfl) ?_
        refine gf_59_14 hx hb ht hK hI mw_764 (fun _ h9 => h9) hown dX12_forwards_58 ?_
        refine lv_iload_n hx hb dX12_forwards_61 rfl (lv_at hl 1 rfl) ?_
        obtain ⟨g22, hm⟩ := gb_some hm
        refine ld_69 hx hb hK hI g22 (v := σ10 69 (ix v1)) rfl dX12_forwards_62 ?_
        refine lv_iconst (v := 1) hx hb dX12_forwards_63 (by decide) ?_
        obtain ⟨g23, hm⟩ := gb_some hm
        refine sv_74 hx hb hK hI g23 (by decide) dX12_forwards_64 (fun H locs hI => ?_)
        refine lv_aload_n hx hb dX12_forwards_65 rfl (lv_at hl 0 rfl) ?_
        refine gf_59_13 hx hb ht hK hI mw_763 (fun _ h9 => h9) hown dX12_forwards_66 ?_
        refine lv_iload_n hx hb dX12_forwards_69 rfl (lv_at hl 1 rfl) ?_
        obtain ⟨g24, hm⟩ := gb_some hm
        refine ld_68 hx hb hK hI g24 (v := σ10 68 (ix v1)) rfl dX12_forwards_70 ?_
        obtain ⟨r25, σ26, h27, hm⟩ := bd_some hm
        refine k_i hI hA (va_runS (As := [.int (σ10 68 (ix v1))]) (rest := []) hX (c_X12_isJump N n h27 _) (va_cwS 1 ht (in_S mw_902 mw_903 mw_861 mw_891) rfl rfl rfl pd_X12_isJump ⟨Nat.le_of_ble_eq_true rfl, Nat.le_of_ble_eq_true rfl⟩) ⟨q_blind, q_to hI hK hN hZ hA⟩ rfl rfl hl.1 rfl (lv_room (Nat.le_of_ble_eq_true rfl)) dX12_forwards_71 (by decide)) (fun H locs hI => ?_)
        refine lv_if_ne (tgt := 88) hx hb dX12_forwards_74 (by decide) (fun c28 => ?_) (fun c28 => ?_)
        · have hm := (if_neg c28).symm.trans hm
          refine lv_aload_n hx hb dX12_forwards_88 rfl (lv_at hl 0 rfl) ?_
          refine gf_59_19 hx hb ht hK hI mw_769 (fun _ h9 => h9) hown dX12_forwards_89 ?_
          refine lv_iload_n hx hb dX12_forwards_92 rfl (lv_at hl 1 rfl) ?_
          refine lv_iconst (v := 1) hx hb dX12_forwards_93 (by decide) ?_
          refine lv_iadd hx hb dX12_forwards_94 ?_
          refine lv_iconst (v := 1) hx hb dX12_forwards_95 (by decide) ?_
          obtain ⟨g29, hm⟩ := gb_some hm
          refine sv_74 hx hb hK hI g29 (by decide) dX12_forwards_96 (fun H locs hI => ?_)
          refine lv_iinc (v := v1 + 1) (lv' := [(1, .int (v1 + 1)), (0, .ref (ga g 59))]) hx hb dX12_forwards_97 hl (k := 1) rfl (congrArg (fun z => v1 + z) (show Int32.ofInt 1 = 1 by decide)) (by decide) rfl (fun ls hl => ?_)
          refine lv_goto (tgt := 33) hx hb dX12_forwards_100 (by decide) ?_
          exact ih (sg σ26 74 (ix (v1 + 1)) 1) (v1 + 1) _ _ _ hm hI (lv_sub hl [1, 0] rfl) hx103
        · have hm := (if_pos c28).symm.trans hm
          refine lv_aload_n hx hb dX12_forwards_77 rfl (lv_at hl 0 rfl) ?_
          refine gf_59_13 hx hb ht hK hI mw_763 (fun _ h9 => h9) hown dX12_forwards_78 ?_
          refine lv_iload_n hx hb dX12_forwards_81 rfl (lv_at hl 1 rfl) ?_
          obtain ⟨g30, hm⟩ := gb_some hm
          refine ld_68 hx hb hK hI g30 (v := σ26 68 (ix v1)) rfl dX12_forwards_82 ?_
          refine lv_bipush (v := 6) hx hb dX12_forwards_83 (by decide) ?_
          refine lv_icmp_ne (tgt := 97) hx hb dX12_forwards_85 (by decide) (fun c31 => ?_) (fun c31 => ?_)
          · have hm := (if_neg c31).symm.trans hm
            refine lv_iinc (v := v1 + 1) (lv' := [(1, .int (v1 + 1)), (0, .ref (ga g 59))]) hx hb dX12_forwards_97 hl (k := 1) rfl (congrArg (fun z => v1 + z) (show Int32.ofInt 1 = 1 by decide)) (by decide) rfl (fun ls hl => ?_)
            refine lv_goto (tgt := 33) hx hb dX12_forwards_100 (by decide) ?_
            exact ih σ26 (v1 + 1) _ _ _ hm hI (lv_sub hl [1, 0] rfl) hx103
          · have hm := (if_pos c31).symm.trans hm
            refine lv_aload_n hx hb dX12_forwards_88 rfl (lv_at hl 0 rfl) ?_
            refine gf_59_19 hx hb ht hK hI mw_769 (fun _ h9 => h9) hown dX12_forwards_89 ?_
            refine lv_iload_n hx hb dX12_forwards_92 rfl (lv_at hl 1 rfl) ?_
            refine lv_iconst (v := 1) hx hb dX12_forwards_93 (by decide) ?_
            refine lv_iadd hx hb dX12_forwards_94 ?_
            refine lv_iconst (v := 1) hx hb dX12_forwards_95 (by decide) ?_
            obtain ⟨g32, hm⟩ := gb_some hm
            refine sv_74 hx hb hK hI g32 (by decide) dX12_forwards_96 (fun H locs hI => ?_)
            refine lv_iinc (v := v1 + 1) (lv' := [(1, .int (v1 + 1)), (0, .ref (ga g 59))]) hx hb dX12_forwards_97 hl (k := 1) rfl (congrArg (fun z => v1 + z) (show Int32.ofInt 1 = 1 by decide)) (by decide) rfl (fun ls hl => ?_)
            refine lv_goto (tgt := 33) hx hb dX12_forwards_100 (by decide) ?_
            exact ih (sg σ26 74 (ix (v1 + 1)) 1) (v1 + 1) _ _ _ hm hI (lv_sub hl [1, 0] rfl) hx103
set_option maxHeartbeats 4000000 in
set_option maxRecDepth 100000 in
theorem lp_X12_forwards_124 {p : Program} {l : Launch} {e : Env} {s : State} {m : MethodId} {args : Array Value} {below : List Frame} {meth : Method} {c : Code} {Q : State → Prop} {A : Nat → Prop} {g : GG} {q N n : Nat} {out : Int32 × Sg} {u1 : Int32} {K143 : (Sg → Int32 → Option (Int32 × Sg))}
    (hC : CXv p l e (qR 2 46) s m args below meth c cX12_forwards 3 RX12 g q n A Q (some out)) :
    ∀ (k : Nat) (σ : Sg) (v2 : Int32) (H : Heap) (locs : List Loc) (ls : Array Slot), lf_X12_forwards_124 N n u1 K143 k σ v2 = some out → wI g q n σ A s.heap H locs → lv_has ls 3 [(0, .ref (ga g 59)), (1, .int u1), (2, .int v2)] → (∀ (σ : Sg) (v2 : Int32) (H : Heap) (locs : List Loc) (ls : Array Slot), K143 σ v2 = some out → wI g q n σ A s.heap H locs → lv_has ls 3 [(0, .ref (ga g 59)), (1, .int u1)] → W p l e (qR 2 46) s m args below meth c H locs 0 0 Q (F0 m 143 ls [])) → W p l e (qR 2 46) s m args below meth c H locs 0 0 Q (F0 m 124 ls []) := by
  obtain ⟨hX, hK, hN, hZ, hA, hR⟩ := id hC
  have hx : p.tables.exec = Jvm.exec := hX.1
  have hb : c.code = cX12_forwards := hX.2.1
  have hml : c.maxLocals = 3 := hX.2.2.1
  have hown : s.vm.findClass RX12 = some m.cls := hX.2.2.2.1
  have ht : ∀ w ∈ BIG, w.before args s = true := hX.2.2.2.2
  intro k
  induction k with
  | zero =>
    intro σ v2 H locs ls hm
    have hm : none = some out := hm
    exact nomatch hm
  | succ k ih =>
    intro σ v2 H locs ls hm hI hl hx143
    have hm : lb_X12_forwards_124 N n u1 K143 (lf_X12_forwards_124 N n u1 K143 k) σ v2 = some out := hm
    unfold lb_X12_forwards_124 at hm
    refine lv_iload_n hx hb dX12_forwards_124 rfl (lv_at hl 2 rfl) ?_
    refine lv_bipush (v := 24) hx hb dX12_forwards_125 (by decide) ?_
    refine lv_icmp_ge (tgt := 143) hx hb dX12_forwards_127 (by decide) (fun c41 => ?_) (fun c41 => ?_)
    · have hm := (if_pos c41).symm.trans hm
      exact hx143 σ v2 _ _ _ hm hI (lv_sub hl [0, 1] rfl)
    · have hm := (if_neg c41).symm.trans hm
      refine lv_aload_n hx hb dX12_forwards_130 rfl (lv_at hl 0 rfl) ?_
      refine gf_59_20 hx hb ht hK hI mw_770 (fun _ h9 => h9) hown dX12_forwards_131 ?_
      refine lv_iload_n hx hb dX12_forwards_134 rfl (lv_at hl 2 rfl) ?_
      refine lv_iconst (v := (-1)) hx hb dX12_forwards_135 (by decide) ?_
      obtain ⟨g42, hm⟩ := gb_some hm
      refine sv_75 hx hb hK hI g42 dX12_forwards_136 (fun H locs hI => ?_)
      refine lv_iinc (v := v2 + 1) (lv' := [(2, .int (v2 + 1)), (0, .ref (ga g 59)), (1, .int u1)]) hx hb dX12_forwards_137 hl (k := 2) rfl (congrArg (fun z => v2 + z) (show Int32.ofInt 1 = 1 by decide)) (by decide) rfl (fun ls hl => ?_)
      refine lv_goto (tgt := 124) hx hb dX12_forwards_140 (by decide) ?_
      exact ih (sg σ 75 (ix v2) (-1)) (v2 + 1) _ _ _ hm hI (lv_sub hl [1, 2, 0] rfl) hx143
set_option maxHeartbeats 4000000 in
set_option maxRecDepth 100000 in
theorem lp_X12_forwards_105 {p : Program} {l : Launch} {e : Env} {s : State} {m : MethodId} {args : Array Value} {below : List Frame} {meth : Method} {c : Code} {Q : State → Prop} {A : Nat → Prop} {g : GG} {q N n : Nat} {out : Int32 × Sg}  {K154 : (Sg → Int32 → Option (Int32 × Sg))}
    (hC : CXv p l e (qR 2 46) s m args below meth c cX12_forwards 3 RX12 g q n A Q (some out)) :
    ∀ (k : Nat) (σ : Sg) (v1 : Int32) (H : Heap) (locs : List Loc) (ls : Array Slot), lf_X12_forwards_105 N n  K154 k σ v1 = some out → wI g q n σ A s.heap H locs → lv_has ls 3 [(0, .ref (ga g 59)), (1, .int v1)] → (∀ (σ : Sg) (v1 : Int32) (H : Heap) (locs : List Loc) (ls : Array Slot), K154 σ v1 = some out → wI g q n σ A s.heap H locs → lv_has ls 3 [] → W p l e (qR 2 46) s m args below meth c H locs 0 0 Q (F0 m 154 ls [])) → W p l e (qR 2 46) s m args below meth c H locs 0 0 Q (F0 m 105 ls []) := by
  obtain ⟨hX, hK, hN, hZ, hA, hR⟩ := id hC
  have hx : p.tables.exec = Jvm.exec := hX.1
  have hb : c.code = cX12_forwards := hX.2.1
  have hml : c.maxLocals = 3 := hX.2.2.1
  have hown : s.vm.findClass RX12 = some m.cls := hX.2.2.2.1
  have ht : ∀ w ∈ BIG, w.before args s = true := hX.2.2.2.2
  intro k
  induction k with
  | zero =>
    intro σ v1 H locs ls hm
    have hm : none = some out := hm
    exact nomatch hm
  | succ k ih =>
    intro σ v1 H locs ls hm hI hl hx154
    have hm : lb_X12_forwards_105 N n  K154 (lf_X12_forwards_105 N n  K154 k) σ v1 = some out := hm
    unfold lb_X12_forwards_105 at hm
    refine lv_iload_n hx hb dX12_forwards_105 rfl (lv_at hl 1 rfl) ?_
    refine lv_aload_n hx hb dX12_forwards_106 rfl (lv_at hl 0 rfl) ?_
    refine gf_59_12 hx hb ht hK hI (v := σ 59 12) rfl mw_888 (fun _ h9 => h9) hown dX12_forwards_107 ?_
    refine lv_icmp_ge (tgt := 154) hx hb dX12_forwards_110 (by decide) (fun c35 => ?_) (fun c35 => ?_)
    · have hm := (if_pos c35).symm.trans hm
      exact hx154 σ v1 _ _ _ hm hI (lv_sub hl [] rfl)
    · have hm := (if_neg c35).symm.trans hm
      refine lv_aload_n hx hb dX12_forwards_113 rfl (lv_at hl 0 rfl) ?_
      refine gf_59_19 hx hb ht hK hI mw_769 (fun _ h9 => h9) hown dX12_forwards_114 ?_
      refine lv_iload_n hx hb dX12_forwards_117 rfl (lv_at hl 1 rfl) ?_
      obtain ⟨g36, hm⟩ := gb_some hm
      refine ld_74 hx hb hK hI g36 (v := σ 74 (ix v1)) rfl dX12_forwards_118 ?_
      refine lv_if_eq (tgt := 143) hx hb dX12_forwards_119 (by decide) (fun c37 => ?_) (fun c37 => ?_)
      · have hm := (if_pos c37).symm.trans hm
        refine lv_aload_n hx hb dX12_forwards_143 rfl (lv_at hl 0 rfl) ?_
        refine lv_iload_n hx hb dX12_forwards_144 rfl (lv_at hl 1 rfl) ?_
        obtain ⟨r38, σ39, h40, hm⟩ := bd_some hm
        refine k_v hI hA (va_runV (As := [.int v1]) (rest := []) hX (c_X12_forward N n h40 _) (cwV 1 ht (in_V mw_913 mw_914 mw_915 mw_861 mw_906) rfl rfl rfl pd_X12_forward ⟨Nat.le_of_ble_eq_true rfl, Nat.le_of_ble_eq_true rfl⟩) ⟨q_blind, va_recv hK hI.1 (ci := 11) (q0 := 59) rfl rfl, q_to hI hK hN hZ hA⟩ rfl rfl hl.1 rfl (lv_room (Nat.le_of_ble_eq_true rfl)) dX12_forwards_145 (by decide)) (fun H locs hI => ?_)
        refine lv_iinc (v := v1 + 1) (lv' := [(1, .int (v1 + 1)), (0, .ref (ga g 59))]) hx hb dX12_forwards_148 hl (k := 1) rfl (congrArg (fun z => v1 + z) (show Int32.ofInt 1 = 1 by decide)) (by decide) rfl (fun ls hl => ?_)
        refine lv_goto (tgt := 105) hx hb dX12_forwards_151 (by decide) ?_
        exact ih σ39 (v1 + 1) _ _ _ hm hI (lv_sub hl [1, 0] rfl) hx154
      · have hm := (if_neg c37).symm.trans hm
        refine lv_iconst (v := 0) hx hb dX12_forwards_122 (by decide) ?_
        refine lv_istore_n (lv' := [(2, .int 0), (0, .ref (ga g 59)), (1, .int v1)]) hx hb dX12_forwards_123 rfl hl (by decide) rfl (fun ls hl => ?_)
        refine lp_X12_forwards_124 hC N _ _ _ _ _ hm hI (lv_sub hl [1, 2, 0] rfl) ?_
        intro σ43 w44 H locs ls hm hI hl
        refine lv_aload_n hx hb dX12_forwards_143 rfl (lv_at hl 0 rfl) ?_
        refine lv_iload_n hx hb dX12_forwards_144 rfl (lv_at hl 1 rfl) ?_
        obtain ⟨r45, σ46, h47, hm⟩ := bd_some hm
        refine k_v hI hA (va_runV (As := [.int v1]) (rest := []) hX (c_X12_forward N n h47 _) (cwV 1 ht (in_V mw_913 mw_914 mw_915 mw_861 mw_906) rfl rfl rfl pd_X12_forward ⟨Nat.le_of_ble_eq_true rfl, Nat.le_of_ble_eq_true rfl⟩) ⟨q_blind, va_recv hK hI.1 (ci := 11) (q0 := 59) rfl rfl, q_to hI hK hN hZ hA⟩ rfl rfl hl.1 rfl (lv_room (Nat.le_of_ble_eq_true rfl)) dX12_forwards_145 (by decide)) (fun H locs hI => ?_)
        refine lv_iinc (v := v1 + 1) (lv' := [(1, .int (v1 + 1)), (0, .ref (ga g 59))]) hx hb dX12_forwards_148 hl (k := 1) rfl (congrArg (fun z => v1 + z) (show Int32.ofInt 1 = 1 by decide)) (by decide) rfl (fun ls hl => ?_)
        refine lv_goto (tgt := 105) hx hb dX12_forwards_151 (by decide) ?_
        exact ih σ46 (v1 + 1) _ _ _ hm hI (lv_sub hl [1, 0] rfl) hx154
set_option maxHeartbeats 4000000 in
set_option maxRecDepth 100000 in
theorem c_X12_forwards {l : Launch} {g : GG} {q : Nat} (N n : Nat) {σ : Sg}  {r : Int32} {σ' : Sg} (hm : f_X12_forwards N n σ  = some (r, σ')) : CTv l yX12_forwards cX12_forwards 3 none 2 46 g q n [.ref (ga g 59)] σ σ' := by
  refine e_v (r := r) (by decide) (Nat.le_of_ble_eq_true rfl) ?_
  intro p e s m args below meth c A Q ls hC hl hI
  obtain ⟨hX, hK, hN, hZ, hA, hR⟩ := id hC
  have hx : p.tables.exec = Jvm.exec := hX.1
  have hb : c.code = cX12_forwards := hX.2.1
  have hml : c.maxLocals = 3 := hX.2.2.1
  have hown : s.vm.findClass RX12 = some m.cls := hX.2.2.2.1
  have ht : ∀ w ∈ BIG, w.before args s = true := hX.2.2.2.2
  have hl : lv_has ls 3 [(0, .ref (ga g 59))] := hl
  unfold f_X12_forwards at hm
  refine lv_iconst (v := 0) hx hb dX12_forwards_0 (by decide) ?_
  refine lv_istore_n (lv' := [(1, .int 0), (0, .ref (ga g 59))]) hx hb dX12_forwards_1 rfl hl (by decide) rfl (fun ls hl => ?_)
  refine lp_X12_forwards_2 hC N _ _ _ _ _ hm hI (lv_sub hl [1, 0] rfl) ?_
  intro σ5 w6 H locs ls hm hI hl
  refine lv_iconst (v := 0) hx hb dX12_forwards_31 (by decide) ?_
  refine lv_istore_n (lv' := [(1, .int 0), (0, .ref (ga g 59))]) hx hb dX12_forwards_32 rfl hl (by decide) rfl (fun ls hl => ?_)
  refine lp_X12_forwards_33 hC N _ _ _ _ _ hm hI (lv_sub hl [1, 0] rfl) ?_
  intro σ33 w34 H locs ls hm hI hl
  refine lv_iconst (v := 0) hx hb dX12_forwards_103 (by decide) ?_
  refine lv_istore_n (lv' := [(1, .int 0), (0, .ref (ga g 59))]) hx hb dX12_forwards_104 rfl hl (by decide) rfl (fun ls hl => ?_)
  refine lp_X12_forwards_105 hC N _ _ _ _ _ hm hI (lv_sub hl [1, 0] rfl) ?_
  intro σ48 w49 H locs ls hm hI hl
  exact hR _ _ _ _ _ hm hI dX12_forwards_154
def f_X12_func (N n : Nat) (σ : Sg) (p0 : Int32) (p1 : Int32) : Option (Int32 × Sg) := if p0 < 0 then (some ((-1), sg σ 59 0 0)) else (if 6 < p0 then (some ((-1), sg σ 59 0 0)) else (if p1 < p0 then (some ((-1), sg σ 59 0 0)) else (if 10 < p1 then (some ((-1), sg σ 59 0 0)) else (if (σ 59 1) = 12 then (some ((-1), sg σ 59 0 0)) else (if (σ 59 10) = 0 then (gb (σ 59 1) 12 (gb (σ 59 1) 12 (gb (σ 59 1) 12 (gb (σ 59 1) 12 (some (((σ 59 1) + 1) - 1, sg (sg (sg (sg (sg (sg σ 59 0 0) 60 (ix (σ 59 1)) p0) 61 (ix (σ 59 1)) p1) 62 (ix (σ 59 1)) (σ 59 6)) 63 (ix (σ 59 1)) 0) 59 1 ((σ 59 1) + 1))))))) else (some ((-1), sg σ 59 0 0)))))))
set_option maxHeartbeats 4000000 in
set_option maxRecDepth 100000 in
theorem c_X12_func {l : Launch} {g : GG} {q : Nat} (N n : Nat) {σ : Sg} {p0 : Int32} {p1 : Int32} {r : Int32} {σ' : Sg} (hm : f_X12_func N n σ p0 p1 = some (r, σ')) : CTi l yX12_func cX12_func 3 (some .int) 0 0 g q n [.ref (ga g 59), .int p0, .int p1] σ r σ' := by
  refine e_i (r := r) (by decide) (Nat.le_of_ble_eq_true rfl) ?_
  intro p e s m args below meth c A Q ls hC hl hI
  obtain ⟨hX, hK, hN, hZ, hA, hR⟩ := id hC
  have hx : p.tables.exec = Jvm.exec := hX.1
  have hb : c.code = cX12_func := hX.2.1
  have hml : c.maxLocals = 3 := hX.2.2.1
  have hown : s.vm.findClass RX12 = some m.cls := hX.2.2.2.1
  have ht : ∀ w ∈ BIG, w.before args s = true := hX.2.2.2.2
  have hl : lv_has ls 3 [(0, .ref (ga g 59)), (1, .int p0), (2, .int p1)] := hl
  unfold f_X12_func at hm
  refine lv_aload_n hx hb dX12_func_0 rfl (lv_at hl 0 rfl) ?_
  refine lv_iconst (v := 0) hx hb dX12_func_1 (by decide) ?_
  refine pf_59_0 hx hb ht hK hI mw_851 (fun _ h9 => h9) hown dX12_func_2 (fun H locs hI => ?_)
  refine lv_iload_n hx hb dX12_func_5 rfl (lv_at hl 1 rfl) ?_
  refine lv_if_lt (tgt := 42) hx hb dX12_func_6 (by decide) (fun c1 => ?_) (fun c1 => ?_)
  · have hm := (if_pos c1).symm.trans hm
    refine lv_iconst (v := (-1)) hx hb dX12_func_42 (by decide) ?_
    exact hR _ _ _ _ _ _ hm hI dX12_func_43
  · have hm := (if_neg c1).symm.trans hm
    refine lv_iload_n hx hb dX12_func_9 rfl (lv_at hl 1 rfl) ?_
    refine lv_bipush (v := 6) hx hb dX12_func_10 (by decide) ?_
    refine lv_icmp_gt (tgt := 42) hx hb dX12_func_12 (by decide) (fun c2 => ?_) (fun c2 => ?_)
    · have hm := (if_pos c2).symm.trans hm
      refine lv_iconst (v := (-1)) hx hb dX12_func_42 (by decide) ?_
      exact hR _ _ _ _ _ _ hm hI dX12_func_43
    · have hm := (if_neg c2).symm.trans hm
      refine lv_iload_n hx hb dX12_func_15 rfl (lv_at hl 2 rfl) ?_
      refine lv_iload_n hx hb dX12_func_16 rfl (lv_at hl 1 rfl) ?_
      refine lv_icmp_lt (tgt := 42) hx hb dX12_func_17 (by decide) (fun c3 => ?_) (fun c3 => ?_)
      · have hm := (if_pos c3).symm.trans hm
        refine lv_iconst (v := (-1)) hx hb dX12_func_42 (by decide) ?_
        exact hR _ _ _ _ _ _ hm hI dX12_func_43
      · have hm := (if_neg c3).symm.trans hm
        refine lv_iload_n hx hb dX12_func_20 rfl (lv_at hl 2 rfl) ?_
        refine lv_bipush (v := 10) hx hb dX12_func_21 (by decide) ?_
        refine lv_icmp_gt (tgt := 42) hx hb dX12_func_23 (by decide) (fun c4 => ?_) (fun c4 => ?_)
        · have hm := (if_pos c4).symm.trans hm
          refine lv_iconst (v := (-1)) hx hb dX12_func_42 (by decide) ?_
          exact hR _ _ _ _ _ _ hm hI dX12_func_43
        · have hm := (if_neg c4).symm.trans hm
          refine lv_aload_n hx hb dX12_func_26 rfl (lv_at hl 0 rfl) ?_
          refine gf_59_1 hx hb ht hK hI (v := σ 59 1) rfl mw_852 (fun _ h9 => h9) hown dX12_func_27 ?_
          refine lv_bipush (v := 12) hx hb dX12_func_30 (by decide) ?_
          refine lv_icmp_eq (tgt := 42) hx hb dX12_func_32 (by decide) (fun c5 => ?_) (fun c5 => ?_)
          · have hm := (if_pos c5).symm.trans hm
            refine lv_iconst (v := (-1)) hx hb dX12_func_42 (by decide) ?_
            exact hR _ _ _ _ _ _ hm hI dX12_func_43
          · have hm := (if_neg c5).symm.trans hm
            refine lv_aload_n hx hb dX12_func_35 rfl (lv_at hl 0 rfl) ?_
            refine gf_59_10 hx hb ht hK hI (v := σ 59 10) rfl mw_853 (fun _ h9 => h9) hown dX12_func_36 ?_
            refine lv_if_eq (tgt := 44) hx hb dX12_func_39 (by decide) (fun c6 => ?_) (fun c6 => ?_)
            · have hm := (if_pos c6).symm.trans hm
              refine lv_aload_n hx hb dX12_func_44 rfl (lv_at hl 0 rfl) ?_
              refine gf_59_2 hx hb ht hK hI mw_755 (fun _ h9 => h9) hown dX12_func_45 ?_
              refine lv_aload_n hx hb dX12_func_48 rfl (lv_at hl 0 rfl) ?_
              refine gf_59_1 hx hb ht hK hI (v := σ 59 1) rfl mw_852 (fun _ h9 => h9) hown dX12_func_49 ?_
              refine lv_iload_n hx hb dX12_func_52 rfl (lv_at hl 1 rfl) ?_
              obtain ⟨g7, hm⟩ := gb_some hm
              refine sv_60 hx hb hK hI g7 dX12_func_53 (fun H locs hI => ?_)
              refine lv_aload_n hx hb dX12_func_54 rfl (lv_at hl 0 rfl) ?_
              refine gf_59_3 hx hb ht hK hI mw_756 (fun _ h9 => h9) hown dX12_func_55 ?_
              refine lv_aload_n hx hb dX12_func_58 rfl (lv_at hl 0 rfl) ?_
              refine gf_59_1 hx hb ht hK hI (v := σ 59 1) rfl mw_852 (fun _ h9 => h9) hown dX12_func_59 ?_
              refine lv_iload_n hx hb dX12_func_62 rfl (lv_at hl 2 rfl) ?_
              obtain ⟨g8, hm⟩ := gb_some hm
              refine sv_61 hx hb hK hI g8 dX12_func_63 (fun H locs hI => ?_)
              refine lv_aload_n hx hb dX12_func_64 rfl (lv_at hl 0 rfl) ?_
              refine gf_59_4 hx hb ht hK hI mw_757 (fun _ h9 => h9) hown dX12_func_65 ?_
              refine lv_aload_n hx hb dX12_func_68 rfl (lv_at hl 0 rfl) ?_
              refine gf_59_1 hx hb ht hK hI (v := σ 59 1) rfl mw_852 (fun _ h9 => h9) hown dX12_func_69 ?_
              refine lv_aload_n hx hb dX12_func_72 rfl (lv_at hl 0 rfl) ?_
              refine gf_59_6 hx hb ht hK hI (v := σ 59 6) rfl mw_854 (fun _ h9 => h9) hown dX12_func_73 ?_
              obtain ⟨g9, hm⟩ := gb_some hm
              refine sv_62 hx hb hK hI g9 dX12_func_76 (fun H locs hI => ?_)
              refine lv_aload_n hx hb dX12_func_77 rfl (lv_at hl 0 rfl) ?_
              refine gf_59_5 hx hb ht hK hI mw_758 (fun _ h9 => h9) hown dX12_func_78 ?_
              refine lv_aload_n hx hb dX12_func_81 rfl (lv_at hl 0 rfl) ?_
              refine gf_59_1 hx hb ht hK hI (v := σ 59 1) rfl mw_852 (fun _ h9 => h9) hown dX12_func_82 ?_
              refine lv_iconst (v := 0) hx hb dX12_func_85 (by decide) ?_
              obtain ⟨g10, hm⟩ := gb_some hm
              refine sv_63 hx hb hK hI g10 dX12_func_86 (fun H locs hI => ?_)
              refine lv_aload_n hx hb dX12_func_87 rfl (lv_at hl 0 rfl) ?_
              refine lv_dup hx hb dX12_func_88 rfl ?_
              refine gf_59_1 hx hb ht hK hI (v := σ 59 1) rfl mw_852 (fun _ h9 => h9) hown dX12_func_89 ?_
              refine lv_iconst (v := 1) hx hb dX12_func_92 (by decide) ?_
              refine lv_iadd hx hb dX12_func_93 ?_
              refine pf_59_1 hx hb ht hK hI mw_852 (fun _ h9 => h9) hown dX12_func_94 (fun H locs hI => ?_)
              refine lv_aload_n hx hb dX12_func_97 rfl (lv_at hl 0 rfl) ?_
              refine gf_59_1 hx hb ht hK hI (v := (σ 59 1) + 1) rfl mw_852 (fun _ h9 => h9) hown dX12_func_98 ?_
              refine lv_iconst (v := 1) hx hb dX12_func_101 (by decide) ?_
              refine lv_isub hx hb dX12_func_102 ?_
              exact hR _ _ _ _ _ _ hm hI dX12_func_103
            · have hm := (if_neg c6).symm.trans hm
              refine lv_iconst (v := (-1)) hx hb dX12_func_42 (by decide) ?_
              exact hR _ _ _ _ _ _ hm hI dX12_func_43
def f_X12_isFunc (N n : Nat) (σ : Sg) (p0 : Int32) : Option (Int32 × Sg) := if (σ 59 37) = 0 then (some (0, σ)) else (if p0 < 0 then (some (0, σ)) else (if (σ 59 1) ≤ p0 then (some (0, σ)) else (some (1, σ))))
set_option maxHeartbeats 4000000 in
set_option maxRecDepth 100000 in
theorem c_X12_isFunc {l : Launch} {g : GG} {q : Nat} (N n : Nat) {σ : Sg} {p0 : Int32} {r : Int32} {σ' : Sg} (hm : f_X12_isFunc N n σ p0 = some (r, σ')) : CTi l yX12_isFunc cX12_isFunc 2 (some .boolean) 0 0 g q n [.ref (ga g 59), .int p0] σ r σ' := by
  refine e_z (r := r) (by decide) (Nat.le_of_ble_eq_true rfl) ?_
  intro p e s m args below meth c A Q ls hC hl hI
  obtain ⟨hX, hK, hN, hZ, hA, hR⟩ := id hC
  have hx : p.tables.exec = Jvm.exec := hX.1
  have hb : c.code = cX12_isFunc := hX.2.1
  have hml : c.maxLocals = 2 := hX.2.2.1
  have hown : s.vm.findClass RX12 = some m.cls := hX.2.2.2.1
  have ht : ∀ w ∈ BIG, w.before args s = true := hX.2.2.2.2
  have hl : lv_has ls 2 [(0, .ref (ga g 59)), (1, .int p0)] := hl
  unfold f_X12_isFunc at hm
  refine lv_aload_n hx hb dX12_isFunc_0 rfl (lv_at hl 0 rfl) ?_
  refine gf_59_37 hx hb ht hK hI (v := σ 59 37) rfl mw_991 (fun _ h9 => h9) hown dX12_isFunc_1 ?_
  refine lv_if_eq (tgt := 23) hx hb dX12_isFunc_4 (by decide) (fun c1 => ?_) (fun c1 => ?_)
  · have hm := (if_pos c1).symm.trans hm
    refine lv_iconst (v := 0) hx hb dX12_isFunc_23 (by decide) ?_
    exact hR _ _ _ _ _ _ hm hI (by decide) dX12_isFunc_24
  · have hm := (if_neg c1).symm.trans hm
    refine lv_iload_n hx hb dX12_isFunc_7 rfl (lv_at hl 1 rfl) ?_
    refine lv_if_lt (tgt := 23) hx hb dX12_isFunc_8 (by decide) (fun c2 => ?_) (fun c2 => ?_)
    · have hm := (if_pos c2).symm.trans hm
      refine lv_iconst (v := 0) hx hb dX12_isFunc_23 (by decide) ?_
      exact hR _ _ _ _ _ _ hm hI (by decide) dX12_isFunc_24
    · have hm := (if_neg c2).symm.trans hm
      refine lv_iload_n hx hb dX12_isFunc_11 rfl (lv_at hl 1 rfl) ?_
      refine lv_aload_n hx hb dX12_isFunc_12 rfl (lv_at hl 0 rfl) ?_
      refine gf_59_1 hx hb ht hK hI (v := σ 59 1) rfl mw_852 (fun _ h9 => h9) hown dX12_isFunc_13 ?_
      refine lv_icmp_ge (tgt := 23) hx hb dX12_isFunc_16 (by decide) (fun c3 => ?_) (fun c3 => ?_)
      · have hm := (if_pos c3).symm.trans hm
        refine lv_iconst (v := 0) hx hb dX12_isFunc_23 (by decide) ?_
        exact hR _ _ _ _ _ _ hm hI (by decide) dX12_isFunc_24
      · have hm := (if_neg c3).symm.trans hm
        refine lv_iconst (v := 1) hx hb dX12_isFunc_19 (by decide) ?_
        refine lv_goto (tgt := 24) hx hb dX12_isFunc_20 (by decide) ?_
        exact hR _ _ _ _ _ _ hm hI (by decide) dX12_isFunc_24
def f_X12_liveBehind (N n : Nat) (σ : Sg) (p0 : Int32) : Option (Int32 × Sg) := gb p0 300 (if (σ 68 (ix p0)) = 6 then (some (0, σ)) else (if (σ 68 (ix p0)) = 4 then (bd (f_X12_isJump N n σ (σ 68 (ix p0))) (fun r11 σ12 => if r11 = 0 then (some (0, σ12)) else (gb p0 300 (gb (σ12 69 (ix p0)) 301 (some (0 ||| (σ12 76 (ix (σ12 69 (ix p0)))), σ12)))))) else (gb (p0 + 1) 301 (bd (f_X12_isJump N n σ (σ 68 (ix p0))) (fun r5 σ6 => if r5 = 0 then (some (σ 76 (ix (p0 + 1)), σ6)) else (gb p0 300 (gb (σ6 69 (ix p0)) 301 (some ((σ 76 (ix (p0 + 1))) ||| (σ6 76 (ix (σ6 69 (ix p0)))), σ6)))))))))
set_option maxHeartbeats 4000000 in
set_option maxRecDepth 100000 in
theorem c_X12_liveBehind {l : Launch} {g : GG} {q : Nat} (N n : Nat) {σ : Sg} {p0 : Int32} {r : Int32} {σ' : Sg} (hm : f_X12_liveBehind N n σ p0 = some (r, σ')) : CTi l yX12_liveBehind cX12_liveBehind 4 (some .int) 1 20 g q n [.ref (ga g 59), .int p0] σ r σ' := by
  refine e_i (r := r) (by decide) (Nat.le_of_ble_eq_true rfl) ?_
  intro p e s m args below meth c A Q ls hC hl hI
  obtain ⟨hX, hK, hN, hZ, hA, hR⟩ := id hC
  have hx : p.tables.exec = Jvm.exec := hX.1
  have hb : c.code = cX12_liveBehind := hX.2.1
  have hml : c.maxLocals = 4 := hX.2.2.1
  have hown : s.vm.findClass RX12 = some m.cls := hX.2.2.2.1
  have ht : ∀ w ∈ BIG, w.before args s = true := hX.2.2.2.2
  have hl : lv_has ls 4 [(0, .ref (ga g 59)), (1, .int p0)] := hl
  unfold f_X12_liveBehind at hm
  refine lv_aload_n hx hb dX12_liveBehind_0 rfl (lv_at hl 0 rfl) ?_
  refine gf_59_13 hx hb ht hK hI mw_763 (fun _ h9 => h9) hown dX12_liveBehind_1 ?_
  refine lv_iload_n hx hb dX12_liveBehind_4 rfl (lv_at hl 1 rfl) ?_
  obtain ⟨g1, hm⟩ := gb_some hm
  refine ld_68 hx hb hK hI g1 (v := σ 68 (ix p0)) rfl dX12_liveBehind_5 ?_
  refine lv_istore_n (lv' := [(2, .int (σ 68 (ix p0))), (0, .ref (ga g 59)), (1, .int p0)]) hx hb dX12_liveBehind_6 rfl hl (by decide) rfl (fun ls hl => ?_)
  refine lv_iload_n hx hb dX12_liveBehind_7 rfl (lv_at hl 0 rfl) ?_
  refine lv_bipush (v := 6) hx hb dX12_liveBehind_8 (by decide) ?_
  refine lv_icmp_ne (tgt := 15) hx hb dX12_liveBehind_10 (by decide) (fun c2 => ?_) (fun c2 => ?_)
  · have hm := (if_neg c2).symm.trans hm
    refine lv_iload_n hx hb dX12_liveBehind_15 rfl (lv_at hl 0 rfl) ?_
    refine lv_iconst (v := 4) hx hb dX12_liveBehind_16 (by decide) ?_
    refine lv_icmp_ne (tgt := 24) hx hb dX12_liveBehind_17 (by decide) (fun c3 => ?_) (fun c3 => ?_)
    · have hm := (if_neg c3).symm.trans hm
      refine lv_aload_n hx hb dX12_liveBehind_24 rfl (lv_at hl 1 rfl) ?_
      refine gf_59_21 hx hb ht hK hI mw_771 (fun _ h9 => h9) hown dX12_liveBehind_25 ?_
      refine lv_iload_n hx hb dX12_liveBehind_28 rfl (lv_at hl 2 rfl) ?_
      refine lv_iconst (v := 1) hx hb dX12_liveBehind_29 (by decide) ?_
      refine lv_iadd hx hb dX12_liveBehind_30 ?_
      obtain ⟨g4, hm⟩ := gb_some hm
      refine ld_76 hx hb hK hI g4 (v := σ 76 (ix (p0 + 1))) rfl dX12_liveBehind_31 ?_
      refine lv_istore_n (lv' := [(3, .int (σ 76 (ix (p0 + 1)))), (2, .int (σ 68 (ix p0))), (0, .ref (ga g 59)), (1, .int p0)]) hx hb dX12_liveBehind_32 rfl hl (by decide) rfl (fun ls hl => ?_)
      refine lv_iload_n hx hb dX12_liveBehind_33 rfl (lv_at hl 1 rfl) ?_
      obtain ⟨r5, σ6, h7, hm⟩ := bd_some hm
      refine k_i hI hA (va_runS (As := [.int (σ 68 (ix p0))]) (rest := []) hX (c_X12_isJump N n h7 _) (va_cwS 1 ht (in_S mw_902 mw_903 mw_861 mw_891) rfl rfl rfl pd_X12_isJump ⟨Nat.le_of_ble_eq_true rfl, Nat.le_of_ble_eq_true rfl⟩) ⟨q_blind, q_to hI hK hN hZ hA⟩ rfl rfl hl.1 rfl (lv_room (Nat.le_of_ble_eq_true rfl)) dX12_liveBehind_34 (by decide)) (fun H locs hI => ?_)
      refine lv_if_eq (tgt := 56) hx hb dX12_liveBehind_37 (by decide) (fun c8 => ?_) (fun c8 => ?_)
      · have hm := (if_pos c8).symm.trans hm
        refine lv_iload_n hx hb dX12_liveBehind_56 rfl (lv_at hl 0 rfl) ?_
        exact hR _ _ _ _ _ _ hm hI dX12_liveBehind_57
      · have hm := (if_neg c8).symm.trans hm
        refine lv_iload_n hx hb dX12_liveBehind_40 rfl (lv_at hl 0 rfl) ?_
        refine lv_aload_n hx hb dX12_liveBehind_41 rfl (lv_at hl 2 rfl) ?_
        refine gf_59_21 hx hb ht hK hI mw_771 (fun _ h9 => h9) hown dX12_liveBehind_42 ?_
        refine lv_aload_n hx hb dX12_liveBehind_45 rfl (lv_at hl 2 rfl) ?_
        refine gf_59_14 hx hb ht hK hI mw_764 (fun _ h9 => h9) hown dX12_liveBehind_46 ?_
        refine lv_iload_n hx hb dX12_liveBehind_49 rfl (lv_at hl 3 rfl) ?_
        obtain ⟨g9, hm⟩ := gb_some hm
        refine ld_69 hx hb hK hI g9 (v := σ6 69 (ix p0)) rfl dX12_liveBehind_50 ?_
        obtain ⟨g10, hm⟩ := gb_some hm
        refine ld_76 hx hb hK hI g10 (v := σ6 76 (ix (σ6 69 (ix p0)))) rfl dX12_liveBehind_51 ?_
        refine lv_ior hx hb dX12_liveBehind_52 ?_
        refine lv_goto (tgt := 57) hx hb dX12_liveBehind_53 (by decide) ?_
        exact hR _ _ _ _ _ _ hm hI dX12_liveBehind_57
    · have hm := (if_pos c3).symm.trans hm
      refine lv_iconst (v := 0) hx hb dX12_liveBehind_20 (by decide) ?_
      refine lv_goto (tgt := 32) hx hb dX12_liveBehind_21 (by decide) ?_
      refine lv_istore_n (lv' := [(3, .int 0), (2, .int (σ 68 (ix p0))), (0, .ref (ga g 59)), (1, .int p0)]) hx hb dX12_liveBehind_32 rfl hl (by decide) rfl (fun ls hl => ?_)
      refine lv_iload_n hx hb dX12_liveBehind_33 rfl (lv_at hl 1 rfl) ?_
      obtain ⟨r11, σ12, h13, hm⟩ := bd_some hm
      refine k_i hI hA (va_runS (As := [.int (σ 68 (ix p0))]) (rest := []) hX (c_X12_isJump N n h13 _) (va_cwS 1 ht (in_S mw_902 mw_903 mw_861 mw_891) rfl rfl rfl pd_X12_isJump ⟨Nat.le_of_ble_eq_true rfl, Nat.le_of_ble_eq_true rfl⟩) ⟨q_blind, q_to hI hK hN hZ hA⟩ rfl rfl hl.1 rfl (lv_room (Nat.le_of_ble_eq_true rfl)) dX12_liveBehind_34 (by decide)) (fun H locs hI => ?_)
      refine lv_if_eq (tgt := 56) hx hb dX12_liveBehind_37 (by decide) (fun c14 => ?_) (fun c14 => ?_)
      · have hm := (if_pos c14).symm.trans hm
        refine lv_iload_n hx hb dX12_liveBehind_56 rfl (lv_at hl 0 rfl) ?_
        exact hR _ _ _ _ _ _ hm hI dX12_liveBehind_57
      · have hm := (if_neg c14).symm.trans hm
        refine lv_iload_n hx hb dX12_liveBehind_40 rfl (lv_at hl 0 rfl) ?_
        refine lv_aload_n hx hb dX12_liveBehind_41 rfl (lv_at hl 2 rfl) ?_
        refine gf_59_21 hx hb ht hK hI mw_771 (fun _ h9 => h9) hown dX12_liveBehind_42 ?_
        refine lv_aload_n hx hb dX12_liveBehind_45 rfl (lv_at hl 2 rfl) ?_
        refine gf_59_14 hx hb ht hK hI mw_764 (fun _ h9 => h9) hown dX12_liveBehind_46 ?_
        refine lv_iload_n hx hb dX12_liveBehind_49 rfl (lv_at hl 3 rfl) ?_
        obtain ⟨g15, hm⟩ := gb_some hm
        refine ld_69 hx hb hK hI g15 (v := σ12 69 (ix p0)) rfl dX12_liveBehind_50 ?_
        obtain ⟨g16, hm⟩ := gb_some hm
        refine ld_76 hx hb hK hI g16 (v := σ12 76 (ix (σ12 69 (ix p0)))) rfl dX12_liveBehind_51 ?_
        refine lv_ior hx hb dX12_liveBehind_52 ?_
        refine lv_goto (tgt := 57) hx hb dX12_liveBehind_53 (by decide) ?_
        exact hR _ _ _ _ _ _ hm hI dX12_liveBehind_57
  · have hm := (if_pos c2).symm.trans hm
    refine lv_iconst (v := 0) hx hb dX12_liveBehind_13 (by decide) ?_
    exact hR _ _ _ _ _ _ hm hI dX12_liveBehind_14
def f_X12_isLeftOut (N n : Nat) (σ : Sg) (p0 : Int32) : Option (Int32 × Sg) := gb p0 300 (if (σ 68 (ix p0)) = 0 then (bd (f_X12_liveBehind N n σ p0) (fun r3 σ4 => gb (8 * p0) 2400 (if ((r3 >>> ((σ4 70 (ix (8 * p0))) &&& 31)) &&& 1) = 0 then (some (1, σ4)) else (if (σ 68 (ix p0)) = 1 then (gb (8 * p0) 2400 (gb ((8 * p0) + 1) 2400 (if (σ4 70 (ix (8 * p0))) = (σ4 70 (ix ((8 * p0) + 1))) then (some (1, σ4)) else (some (0, σ4))))) else (some (0, σ4)))))) else (if (σ 68 (ix p0)) = 1 then (bd (f_X12_liveBehind N n σ p0) (fun r13 σ14 => gb (8 * p0) 2400 (if ((r13 >>> ((σ14 70 (ix (8 * p0))) &&& 31)) &&& 1) = 0 then (some (1, σ14)) else (gb (8 * p0) 2400 (gb ((8 * p0) + 1) 2400 (if (σ14 70 (ix (8 * p0))) = (σ14 70 (ix ((8 * p0) + 1))) then (some (1, σ14)) else (some (0, σ14)))))))) else (some (0, σ))))
set_option maxHeartbeats 4000000 in
set_option maxRecDepth 100000 in
theorem c_X12_isLeftOut {l : Launch} {g : GG} {q : Nat} (N n : Nat) {σ : Sg} {p0 : Int32} {r : Int32} {σ' : Sg} (hm : f_X12_isLeftOut N n σ p0 = some (r, σ')) : CTi l yX12_isLeftOut cX12_isLeftOut 3 (some .boolean) 2 43 g q n [.ref (ga g 59), .int p0] σ r σ' := by
  refine e_z (r := r) (by decide) (Nat.le_of_ble_eq_true rfl) ?_
  intro p e s m args below meth c A Q ls hC hl hI
  obtain ⟨hX, hK, hN, hZ, hA, hR⟩ := id hC
  have hx : p.tables.exec = Jvm.exec := hX.1
  have hb : c.code = cX12_isLeftOut := hX.2.1
  have hml : c.maxLocals = 3 := hX.2.2.1
  have hown : s.vm.findClass RX12 = some m.cls := hX.2.2.2.1
  have ht : ∀ w ∈ BIG, w.before args s = true := hX.2.2.2.2
  have hl : lv_has ls 3 [(0, .ref (ga g 59)), (1, .int p0)] := hl
  unfold f_X12_isLeftOut at hm
  refine lv_aload_n hx hb dX12_isLeftOut_0 rfl (lv_at hl 0 rfl) ?_
  refine gf_59_13 hx hb ht hK hI mw_763 (fun _ h9 => h9) hown dX12_isLeftOut_1 ?_
  refine lv_iload_n hx hb dX12_isLeftOut_4 rfl (lv_at hl 1 rfl) ?_
  obtain ⟨g1, hm⟩ := gb_some hm
  refine ld_68 hx hb hK hI g1 (v := σ 68 (ix p0)) rfl dX12_isLeftOut_5 ?_
  refine lv_istore_n (lv' := [(2, .int (σ 68 (ix p0))), (0, .ref (ga g 59)), (1, .int p0)]) hx hb dX12_isLeftOut_6 rfl hl (by decide) rfl (fun ls hl => ?_)
  refine lv_iload_n hx hb dX12_isLeftOut_7 rfl (lv_at hl 0 rfl) ?_
  refine lv_if_eq (tgt := 18) hx hb dX12_isLeftOut_8 (by decide) (fun c2 => ?_) (fun c2 => ?_)
  · have hm := (if_pos c2).symm.trans hm
    refine lv_aload_n hx hb dX12_isLeftOut_18 rfl (lv_at hl 1 rfl) ?_
    refine lv_iload_n hx hb dX12_isLeftOut_19 rfl (lv_at hl 2 rfl) ?_
    obtain ⟨r3, σ4, h5, hm⟩ := bd_some hm
    refine k_i hI hA (va_runV (As := [.int p0]) (rest := []) hX (c_X12_liveBehind N n h5 _) (cwV 1 ht (in_V mw_918 mw_919 mw_920 mw_861 mw_916) rfl rfl rfl pd_X12_liveBehind ⟨Nat.le_of_ble_eq_true rfl, Nat.le_of_ble_eq_true rfl⟩) ⟨q_blind, va_recv hK hI.1 (ci := 11) (q0 := 59) rfl rfl, q_to hI hK hN hZ hA⟩ rfl rfl hl.1 rfl (lv_room (Nat.le_of_ble_eq_true rfl)) dX12_isLeftOut_20 (by decide)) (fun H locs hI => ?_)
    refine lv_aload_n hx hb dX12_isLeftOut_23 rfl (lv_at hl 1 rfl) ?_
    refine gf_59_15 hx hb ht hK hI mw_765 (fun _ h9 => h9) hown dX12_isLeftOut_24 ?_
    refine lv_bipush (v := 8) hx hb dX12_isLeftOut_27 (by decide) ?_
    refine lv_iload_n hx hb dX12_isLeftOut_29 rfl (lv_at hl 2 rfl) ?_
    refine lv_imul hx hb dX12_isLeftOut_30 ?_
    obtain ⟨g6, hm⟩ := gb_some hm
    refine ld_70 hx hb hK hI g6 (v := σ4 70 (ix (8 * p0))) rfl dX12_isLeftOut_31 ?_
    refine lv_ishr hx hb dX12_isLeftOut_32 ?_
    refine lv_iconst (v := 1) hx hb dX12_isLeftOut_33 (by decide) ?_
    refine lv_iand hx hb dX12_isLeftOut_34 ?_
    refine lv_if_eq (tgt := 66) hx hb dX12_isLeftOut_35 (by decide) (fun c7 => ?_) (fun c7 => ?_)
    · have hm := (if_pos c7).symm.trans hm
      refine lv_iconst (v := 1) hx hb dX12_isLeftOut_66 (by decide) ?_
      refine lv_goto (tgt := 71) hx hb dX12_isLeftOut_67 (by decide) ?_
      exact hR _ _ _ _ _ _ hm hI (by decide) dX12_isLeftOut_71
    · have hm := (if_neg c7).symm.trans hm
      refine lv_iload_n hx hb dX12_isLeftOut_38 rfl (lv_at hl 0 rfl) ?_
      refine lv_iconst (v := 1) hx hb dX12_isLeftOut_39 (by decide) ?_
      refine lv_icmp_ne (tgt := 70) hx hb dX12_isLeftOut_40 (by decide) (fun c8 => ?_) (fun c8 => ?_)
      · have hm := (if_neg c8).symm.trans hm
        refine lv_iconst (v := 0) hx hb dX12_isLeftOut_70 (by decide) ?_
        exact hR _ _ _ _ _ _ hm hI (by decide) dX12_isLeftOut_71
      · have hm := (if_pos c8).symm.trans hm
        refine lv_aload_n hx hb dX12_isLeftOut_43 rfl (lv_at hl 1 rfl) ?_
        refine gf_59_15 hx hb ht hK hI mw_765 (fun _ h9 => h9) hown dX12_isLeftOut_44 ?_
        refine lv_bipush (v := 8) hx hb dX12_isLeftOut_47 (by decide) ?_
        refine lv_iload_n hx hb dX12_isLeftOut_49 rfl (lv_at hl 2 rfl) ?_
        refine lv_imul hx hb dX12_isLeftOut_50 ?_
        obtain ⟨g9, hm⟩ := gb_some hm
        refine ld_70 hx hb hK hI g9 (v := σ4 70 (ix (8 * p0))) rfl dX12_isLeftOut_51 ?_
        refine lv_aload_n hx hb dX12_isLeftOut_52 rfl (lv_at hl 1 rfl) ?_
        refine gf_59_15 hx hb ht hK hI mw_765 (fun _ h9 => h9) hown dX12_isLeftOut_53 ?_
        refine lv_bipush (v := 8) hx hb dX12_isLeftOut_56 (by decide) ?_
        refine lv_iload_n hx hb dX12_isLeftOut_58 rfl (lv_at hl 2 rfl) ?_
        refine lv_imul hx hb dX12_isLeftOut_59 ?_
        refine lv_iconst (v := 1) hx hb dX12_isLeftOut_60 (by decide) ?_
        refine lv_iadd hx hb dX12_isLeftOut_61 ?_
        obtain ⟨g10, hm⟩ := gb_some hm
        refine ld_70 hx hb hK hI g10 (v := σ4 70 (ix ((8 * p0) + 1))) rfl dX12_isLeftOut_62 ?_
        refine lv_icmp_ne (tgt := 70) hx hb dX12_isLeftOut_63 (by decide) (fun c11 => ?_) (fun c11 => ?_)
        · have hm := (if_neg c11).symm.trans hm
          refine lv_iconst (v := 0) hx hb dX12_isLeftOut_70 (by decide) ?_
          exact hR _ _ _ _ _ _ hm hI (by decide) dX12_isLeftOut_71
        · have hm := (if_pos c11).symm.trans hm
          refine lv_iconst (v := 1) hx hb dX12_isLeftOut_66 (by decide) ?_
          refine lv_goto (tgt := 71) hx hb dX12_isLeftOut_67 (by decide) ?_
          exact hR _ _ _ _ _ _ hm hI (by decide) dX12_isLeftOut_71
  · have hm := (if_neg c2).symm.trans hm
    refine lv_iload_n hx hb dX12_isLeftOut_11 rfl (lv_at hl 0 rfl) ?_
    refine lv_iconst (v := 1) hx hb dX12_isLeftOut_12 (by decide) ?_
    refine lv_icmp_eq (tgt := 18) hx hb dX12_isLeftOut_13 (by decide) (fun c12 => ?_) (fun c12 => ?_)
    · have hm := (if_pos c12).symm.trans hm
      refine lv_aload_n hx hb dX12_isLeftOut_18 rfl (lv_at hl 1 rfl) ?_
      refine lv_iload_n hx hb dX12_isLeftOut_19 rfl (lv_at hl 2 rfl) ?_
      obtain ⟨r13, σ14, h15, hm⟩ := bd_some hm
      refine k_i hI hA (va_runV (As := [.int p0]) (rest := []) hX (c_X12_liveBehind N n h15 _) (cwV 1 ht (in_V mw_918 mw_919 mw_920 mw_861 mw_916) rfl rfl rfl pd_X12_liveBehind ⟨Nat.le_of_ble_eq_true rfl, Nat.le_of_ble_eq_true rfl⟩) ⟨q_blind, va_recv hK hI.1 (ci := 11) (q0 := 59) rfl rfl, q_to hI hK hN hZ hA⟩ rfl rfl hl.1 rfl (lv_room (Nat.le_of_ble_eq_true rfl)) dX12_isLeftOut_20 (by decide)) (fun H locs hI => ?_)
      refine lv_aload_n hx hb dX12_isLeftOut_23 rfl (lv_at hl 1 rfl) ?_
      refine gf_59_15 hx hb ht hK hI mw_765 (fun _ h9 => h9) hown dX12_isLeftOut_24 ?_
      refine lv_bipush (v := 8) hx hb dX12_isLeftOut_27 (by decide) ?_
      refine lv_iload_n hx hb dX12_isLeftOut_29 rfl (lv_at hl 2 rfl) ?_
      refine lv_imul hx hb dX12_isLeftOut_30 ?_
      obtain ⟨g16, hm⟩ := gb_some hm
      refine ld_70 hx hb hK hI g16 (v := σ14 70 (ix (8 * p0))) rfl dX12_isLeftOut_31 ?_
      refine lv_ishr hx hb dX12_isLeftOut_32 ?_
      refine lv_iconst (v := 1) hx hb dX12_isLeftOut_33 (by decide) ?_
      refine lv_iand hx hb dX12_isLeftOut_34 ?_
      refine lv_if_eq (tgt := 66) hx hb dX12_isLeftOut_35 (by decide) (fun c17 => ?_) (fun c17 => ?_)
      · have hm := (if_pos c17).symm.trans hm
        refine lv_iconst (v := 1) hx hb dX12_isLeftOut_66 (by decide) ?_
        refine lv_goto (tgt := 71) hx hb dX12_isLeftOut_67 (by decide) ?_
        exact hR _ _ _ _ _ _ hm hI (by decide) dX12_isLeftOut_71
      · have hm := (if_neg c17).symm.trans hm
        refine lv_iload_n hx hb dX12_isLeftOut_38 rfl (lv_at hl 0 rfl) ?_
        refine lv_iconst (v := 1) hx hb dX12_isLeftOut_39 (by decide) ?_
        refine lv_icmp_ne (tgt := 70) hx hb dX12_isLeftOut_40 (by decide) (fun h => absurd c12 h) (fun _ => ?_)
        refine lv_aload_n hx hb dX12_isLeftOut_43 rfl (lv_at hl 1 rfl) ?_
        refine gf_59_15 hx hb ht hK hI mw_765 (fun _ h9 => h9) hown dX12_isLeftOut_44 ?_
        refine lv_bipush (v := 8) hx hb dX12_isLeftOut_47 (by decide) ?_
        refine lv_iload_n hx hb dX12_isLeftOut_49 rfl (lv_at hl 2 rfl) ?_
        refine lv_imul hx hb dX12_isLeftOut_50 ?_
        obtain ⟨g18, hm⟩ := gb_some hm
        refine ld_70 hx hb hK hI g18 (v := σ14 70 (ix (8 * p0))) rfl dX12_isLeftOut_51 ?_
        refine lv_aload_n hx hb dX12_isLeftOut_52 rfl (lv_at hl 1 rfl) ?_
        refine gf_59_15 hx hb ht hK hI mw_765 (fun _ h9 => h9) hown dX12_isLeftOut_53 ?_
        refine lv_bipush (v := 8) hx hb dX12_isLeftOut_56 (by decide) ?_
        refine lv_iload_n hx hb dX12_isLeftOut_58 rfl (lv_at hl 2 rfl) ?_
        refine lv_imul hx hb dX12_isLeftOut_59 ?_
        refine lv_iconst (v := 1) hx hb dX12_isLeftOut_60 (by decide) ?_
        refine lv_iadd hx hb dX12_isLeftOut_61 ?_
        obtain ⟨g19, hm⟩ := gb_some hm
        refine ld_70 hx hb hK hI g19 (v := σ14 70 (ix ((8 * p0) + 1))) rfl dX12_isLeftOut_62 ?_
        refine lv_icmp_ne (tgt := 70) hx hb dX12_isLeftOut_63 (by decide) (fun c20 => ?_) (fun c20 => ?_)
        · have hm := (if_neg c20).symm.trans hm
          refine lv_iconst (v := 0) hx hb dX12_isLeftOut_70 (by decide) ?_
          exact hR _ _ _ _ _ _ hm hI (by decide) dX12_isLeftOut_71
        · have hm := (if_pos c20).symm.trans hm
          refine lv_iconst (v := 1) hx hb dX12_isLeftOut_66 (by decide) ?_
          refine lv_goto (tgt := 71) hx hb dX12_isLeftOut_67 (by decide) ?_
          exact hR _ _ _ _ _ _ hm hI (by decide) dX12_isLeftOut_71
    · have hm := (if_neg c12).symm.trans hm
      refine lv_iconst (v := 0) hx hb dX12_isLeftOut_16 (by decide) ?_
      exact hR _ _ _ _ _ _ hm hI (by decide) dX12_isLeftOut_17
def f_X12_place (N n : Nat) (σ : Sg) (p0 : Int32) (p1 : Int32) : Option (Int32 × Sg) := gb (σ 59 12) 300 (gb (σ 59 12) 300 (gb (σ 59 12) 300 (some (0, sg (sg (sg (sg σ 68 (ix (σ 59 12)) p0) 69 (ix (σ 59 12)) p1) 71 (ix (σ 59 12)) 0) 59 12 ((σ 59 12) + 1)))))
set_option maxHeartbeats 4000000 in
set_option maxRecDepth 100000 in
theorem c_X12_place {l : Launch} {g : GG} {q : Nat} (N n : Nat) {σ : Sg} {p0 : Int32} {p1 : Int32} {r : Int32} {σ' : Sg} (hm : f_X12_place N n σ p0 p1 = some (r, σ')) : CTv l yX12_place cX12_place 3 none 0 0 g q n [.ref (ga g 59), .int p0, .int p1] σ σ' := by
  refine e_v (r := r) (by decide) (Nat.le_of_ble_eq_true rfl) ?_
  intro p e s m args below meth c A Q ls hC hl hI
  obtain ⟨hX, hK, hN, hZ, hA, hR⟩ := id hC
  have hx : p.tables.exec = Jvm.exec := hX.1
  have hb : c.code = cX12_place := hX.2.1
  have hml : c.maxLocals = 3 := hX.2.2.1
  have hown : s.vm.findClass RX12 = some m.cls := hX.2.2.2.1
  have ht : ∀ w ∈ BIG, w.before args s = true := hX.2.2.2.2
  have hl : lv_has ls 3 [(0, .ref (ga g 59)), (1, .int p0), (2, .int p1)] := hl
  unfold f_X12_place at hm
  refine lv_aload_n hx hb dX12_place_0 rfl (lv_at hl 0 rfl) ?_
  refine gf_59_13 hx hb ht hK hI mw_763 (fun _ h9 => h9) hown dX12_place_1 ?_
  refine lv_aload_n hx hb dX12_place_4 rfl (lv_at hl 0 rfl) ?_
  refine gf_59_12 hx hb ht hK hI (v := σ 59 12) rfl mw_888 (fun _ h9 => h9) hown dX12_place_5 ?_
  refine lv_iload_n hx hb dX12_place_8 rfl (lv_at hl 1 rfl) ?_
  obtain ⟨g1, hm⟩ := gb_some hm
  refine sv_68 hx hb hK hI g1 dX12_place_9 (fun H locs hI => ?_)
  refine lv_aload_n hx hb dX12_place_10 rfl (lv_at hl 0 rfl) ?_
  refine gf_59_14 hx hb ht hK hI mw_764 (fun _ h9 => h9) hown dX12_place_11 ?_
  refine lv_aload_n hx hb dX12_place_14 rfl (lv_at hl 0 rfl) ?_
  refine gf_59_12 hx hb ht hK hI (v := σ 59 12) rfl mw_888 (fun _ h9 => h9) hown dX12_place_15 ?_
  refine lv_iload_n hx hb dX12_place_18 rfl (lv_at hl 2 rfl) ?_
  obtain ⟨g2, hm⟩ := gb_some hm
  refine sv_69 hx hb hK hI g2 dX12_place_19 (fun H locs hI => ?_)
  refine lv_aload_n hx hb dX12_place_20 rfl (lv_at hl 0 rfl) ?_
  refine gf_59_16 hx hb ht hK hI mw_766 (fun _ h9 => h9) hown dX12_place_21 ?_
  refine lv_aload_n hx hb dX12_place_24 rfl (lv_at hl 0 rfl) ?_
  refine gf_59_12 hx hb ht hK hI (v := σ 59 12) rfl mw_888 (fun _ h9 => h9) hown dX12_place_25 ?_
  refine lv_iconst (v := 0) hx hb dX12_place_28 (by decide) ?_
  obtain ⟨g3, hm⟩ := gb_some hm
  refine sv_71 hx hb hK hI g3 dX12_place_29 (fun H locs hI => ?_)
  refine lv_aload_n hx hb dX12_place_30 rfl (lv_at hl 0 rfl) ?_
  refine lv_dup hx hb dX12_place_31 rfl ?_
  refine gf_59_12 hx hb ht hK hI (v := σ 59 12) rfl mw_888 (fun _ h9 => h9) hown dX12_place_32 ?_
  refine lv_iconst (v := 1) hx hb dX12_place_35 (by decide) ?_
  refine lv_iadd hx hb dX12_place_36 ?_
  refine pf_59_12 hx hb ht hK hI mw_888 (fun _ h9 => h9) hown dX12_place_37 (fun H locs hI => ?_)
  exact hR _ _ _ _ _ hm hI dX12_place_40
def f_X12_tells (N n : Nat) (σ : Sg) (p0 : Int32) : Option (Int32 × Sg) := gb ((σ 59 12) - 1) 300 (gb ((8 * ((σ 59 12) - 1)) + (σ 71 (ix ((σ 59 12) - 1)))) 2400 (gb ((σ 59 12) - 1) 300 (gb ((σ 59 12) - 1) 300 (some (0, sg (sg σ 70 (ix ((8 * ((σ 59 12) - 1)) + (σ 71 (ix ((σ 59 12) - 1))))) p0) 71 (ix ((σ 59 12) - 1)) ((σ 71 (ix ((σ 59 12) - 1))) + 1))))))
set_option maxHeartbeats 4000000 in
set_option maxRecDepth 100000 in
theorem c_X12_tells {l : Launch} {g : GG} {q : Nat} (N n : Nat) {σ : Sg} {p0 : Int32} {r : Int32} {σ' : Sg} (hm : f_X12_tells N n σ p0 = some (r, σ')) : CTv l yX12_tells cX12_tells 2 none 0 0 g q n [.ref (ga g 59), .int p0] σ σ' := by
  refine e_v (r := r) (by decide) (Nat.le_of_ble_eq_true rfl) ?_
  intro p e s m args below meth c A Q ls hC hl hI
  obtain ⟨hX, hK, hN, hZ, hA, hR⟩ := id hC
  have hx : p.tables.exec = Jvm.exec := hX.1
  have hb : c.code = cX12_tells := hX.2.1
  have hml : c.maxLocals = 2 := hX.2.2.1
  have hown : s.vm.findClass RX12 = some m.cls := hX.2.2.2.1
  have ht : ∀ w ∈ BIG, w.before args s = true := hX.2.2.2.2
  have hl : lv_has ls 2 [(0, .ref (ga g 59)), (1, .int p0)] := hl
  unfold f_X12_tells at hm
  refine lv_aload_n hx hb dX12_tells_0 rfl (lv_at hl 0 rfl) ?_
  refine gf_59_15 hx hb ht hK hI mw_765 (fun _ h9 => h9) hown dX12_tells_1 ?_
  refine lv_bipush (v := 8) hx hb dX12_tells_4 (by decide) ?_
  refine lv_aload_n hx hb dX12_tells_6 rfl (lv_at hl 0 rfl) ?_
  refine gf_59_12 hx hb ht hK hI (v := σ 59 12) rfl mw_888 (fun _ h9 => h9) hown dX12_tells_7 ?_
  refine lv_iconst (v := 1) hx hb dX12_tells_10 (by decide) ?_
  refine lv_isub hx hb dX12_tells_11 ?_
  refine lv_imul hx hb dX12_tells_12 ?_
  refine lv_aload_n hx hb dX12_tells_13 rfl (lv_at hl 0 rfl) ?_
  refine gf_59_16 hx hb ht hK hI mw_766 (fun _ h9 => h9) hown dX12_tells_14 ?_
  refine lv_aload_n hx hb dX12_tells_17 rfl (lv_at hl 0 rfl) ?_
  refine gf_59_12 hx hb ht hK hI (v := σ 59 12) rfl mw_888 (fun _ h9 => h9) hown dX12_tells_18 ?_
  refine lv_iconst (v := 1) hx hb dX12_tells_21 (by decide) ?_
  refine lv_isub hx hb dX12_tells_22 ?_
  obtain ⟨g1, hm⟩ := gb_some hm
  refine ld_71 hx hb hK hI g1 (v := σ 71 (ix ((σ 59 12) - 1))) rfl dX12_tells_23 ?_
  refine lv_iadd hx hb dX12_tells_24 ?_
  refine lv_iload_n hx hb dX12_tells_25 rfl (lv_at hl 1 rfl) ?_
  obtain ⟨g2, hm⟩ := gb_some hm
  refine sv_70 hx hb hK hI g2 dX12_tells_26 (fun H locs hI => ?_)
  refine lv_aload_n hx hb dX12_tells_27 rfl (lv_at hl 0 rfl) ?_
  refine gf_59_16 hx hb ht hK hI mw_766 (fun _ h9 => h9) hown dX12_tells_28 ?_
  refine lv_aload_n hx hb dX12_tells_31 rfl (lv_at hl 0 rfl) ?_
  refine gf_59_12 hx hb ht hK hI (v := σ 59 12) rfl mw_888 (fun _ h9 => h9) hown dX12_tells_32 ?_
  refine lv_iconst (v := 1) hx hb dX12_tells_35 (by decide) ?_
  refine lv_isub hx hb dX12_tells_36 ?_
  refine lv_dup2_11 hx hb dX12_tells_37 rfl rfl ?_
  obtain ⟨g3, hm⟩ := gb_some hm
  refine ld_71 hx hb hK hI g3 (v := σ 71 (ix ((σ 59 12) - 1))) rfl dX12_tells_38 ?_
  refine lv_iconst (v := 1) hx hb dX12_tells_39 (by decide) ?_
  refine lv_iadd hx hb dX12_tells_40 ?_
  obtain ⟨g4, hm⟩ := gb_some hm
  refine sv_71 hx hb hK hI g4 dX12_tells_41 (fun H locs hI => ?_)
  exact hR _ _ _ _ _ hm hI dX12_tells_42
def lb_X12_lay_229 (N n : Nat) (u3 : Int32) (u4 : Int32) (K262 : (Sg → Int32 → Option (Int32 × Sg))) (rec : (Sg → Int32 → Option (Int32 × Sg))) (σ : Sg) (v5 : Int32) : Option (Int32 × Sg) := gb u3 12 (if (σ 60 (ix u3)) ≤ v5 then (K262 σ v5) else (gb u3 12 (bd (f_X12_tells N n σ ((u4 - (σ 60 (ix u3))) + v5)) (fun r71 σ72 => rec σ72 (v5 + 1)))))
def lf_X12_lay_229 (N n : Nat) (u3 : Int32) (u4 : Int32) (K262 : (Sg → Int32 → Option (Int32 × Sg))) : Nat → (Sg → Int32 → Option (Int32 × Sg))
  | 0 => fun _ _ => none
  | k + 1 => lb_X12_lay_229 N n u3 u4 K262 (lf_X12_lay_229 N n u3 u4 K262 k)
def f_X12_lay (N n : Nat) (σ : Sg) (p0 : Int32) (p1 : Int32) (p2 : Int32) (p3 : Int32) : Option (Int32 × Sg) := if p1 = 0 then (bd (f_X12_place N n σ 0 p2) (fun r2 σ3 => bd (f_X12_tells N n σ3 p3) (fun r5 σ6 => some (0, σ6)))) else (if p1 = 1 then (bd (f_X12_place N n σ 1 0) (fun r9 σ10 => bd (f_X12_tells N n σ10 p3) (fun r12 σ13 => bd (f_X12_tells N n σ13 p2) (fun r15 σ16 => some (0, σ16))))) else (if p1 = 2 then (bd (f_X12_place N n σ 1 0) (fun r19 σ20 => bd (f_X12_tells N n σ20 p2) (fun r22 σ23 => bd (f_X12_tells N n σ23 (p3 - 1)) (fun r25 σ26 => some (0, σ26))))) else (if p1 = 9 then (bd (f_X12_place N n σ 1 0) (fun r29 σ30 => bd (f_X12_tells N n σ30 p3) (fun r32 σ33 => bd (f_X12_tells N n σ33 (p3 - 1)) (fun r35 σ36 => some (0, σ36))))) else (if p1 = 10 then (bd (f_X12_place N n σ 3 0) (fun r39 σ40 => bd (f_X12_tells N n σ40 (p3 - 1)) (fun r42 σ43 => bd (f_X12_tells N n σ43 (p3 - 2)) (fun r45 σ46 => some (0, σ46))))) else (if p1 = 11 then (some (0, σ)) else (if p1 = 12 then (bd (f_X12_place N n σ 4 p2) (fun r50 σ51 => some (0, σ51))) else (if p1 = 13 then (bd (f_X12_place N n σ 5 p2) (fun r54 σ55 => bd (f_X12_tells N n σ55 (p3 - 1)) (fun r57 σ58 => some (0, σ58)))) else (if p1 = 14 then (bd (f_X12_place N n σ 13 p2) (fun r61 σ62 => gb p2 12 (bd (f_X12_tells N n σ62 (p3 - (σ62 60 (ix p2)))) (fun r65 σ66 => lf_X12_lay_229 N n p2 p3 (fun σ74 w75 => some (0, σ74)) N σ66 0)))) else (if p1 = 15 then (bd (f_X12_place N n σ 6 0) (fun r77 σ78 => bd (f_X12_tells N n σ78 (p3 - 1)) (fun r80 σ81 => some (0, σ81)))) else (if p1 = 16 then (bd (f_X12_place N n σ 7 0) (fun r84 σ85 => bd (f_X12_tells N n σ85 (p3 - 1)) (fun r87 σ88 => bd (f_X12_tells N n σ88 (p3 - 1)) (fun r90 σ91 => some (0, σ91))))) else (if p1 = 17 then (bd (f_X12_place N n σ 8 0) (fun r94 σ95 => bd (f_X12_tells N n σ95 (p3 - 1)) (fun r97 σ98 => bd (f_X12_tells N n σ98 (p3 - 2)) (fun r100 σ101 => some (0, σ101))))) else (bd (f_X12_place N n σ 2 p1) (fun r103 σ104 => bd (f_X12_tells N n σ104 (p3 - 2)) (fun r106 σ107 => bd (f_X12_tells N n σ107 (p3 - 2)) (fun r109 σ110 => bd (f_X12_tells N n σ110 (p3 - 1)) (fun r112 σ113 => some (0, σ113)))))))))))))))))
set_option maxHeartbeats 4000000 in
set_option maxRecDepth 100000 in
theorem lp_X12_lay_229 {p : Program} {l : Launch} {e : Env} {s : State} {m : MethodId} {args : Array Value} {below : List Frame} {meth : Method} {c : Code} {Q : State → Prop} {A : Nat → Prop} {g : GG} {q N n : Nat} {out : Int32 × Sg} {u3 : Int32} {u4 : Int32} {K262 : (Sg → Int32 → Option (Int32 × Sg))}
    (hC : CXv p l e (qR 1 22) s m args below meth c cX12_lay 6 RX12 g q n A Q (some out)) :
    ∀ (k : Nat) (σ : Sg) (v5 : Int32) (H : Heap) (locs : List Loc) (ls : Array Slot), lf_X12_lay_229 N n u3 u4 K262 k σ v5 = some out → wI g q n σ A s.heap H locs → lv_has ls 6 [(0, .ref (ga g 59)), (3, .int u3), (4, .int u4), (5, .int v5)] → (∀ (σ : Sg) (v5 : Int32) (H : Heap) (locs : List Loc) (ls : Array Slot), K262 σ v5 = some out → wI g q n σ A s.heap H locs → lv_has ls 6 [] → W p l e (qR 1 22) s m args below meth c H locs 0 0 Q (F0 m 262 ls [])) → W p l e (qR 1 22) s m args below meth c H locs 0 0 Q (F0 m 229 ls []) := by
  obtain ⟨hX, hK, hN, hZ, hA, hR⟩ := id hC
  have hx : p.tables.exec = Jvm.exec := hX.1
  have hb : c.code = cX12_lay := hX.2.1
  have hml : c.maxLocals = 6 := hX.2.2.1
  have hown : s.vm.findClass RX12 = some m.cls := hX.2.2.2.1
  have ht : ∀ w ∈ BIG, w.before args s = true := hX.2.2.2.2
  intro k
  induction k with
  | zero =>
    intro σ v5 H locs ls hm
    have hm : none = some out := hm
    exact nomatch hm
  | succ k ih =>
    intro σ v5 H locs ls hm hI hl hx262
    have hm : lb_X12_lay_229 N n u3 u4 K262 (lf_X12_lay_229 N n u3 u4 K262 k) σ v5 = some out := hm
    unfold lb_X12_lay_229 at hm
    refine lv_iload hx hb dX12_lay_229 (lv_at hl 3 rfl) ?_
    refine lv_aload_n hx hb dX12_lay_231 rfl (lv_at hl 0 rfl) ?_
    refine gf_59_2 hx hb ht hK hI mw_755 (fun _ h9 => h9) hown dX12_lay_232 ?_
    refine lv_iload_n hx hb dX12_lay_235 rfl (lv_at hl 1 rfl) ?_
    obtain ⟨g68, hm⟩ := gb_some hm
    refine ld_60 hx hb hK hI g68 (v := σ 60 (ix u3)) rfl dX12_lay_236 ?_
    refine lv_icmp_ge (tgt := 262) hx hb dX12_lay_237 (by decide) (fun c69 => ?_) (fun c69 => ?_)
    · have hm := (if_pos c69).symm.trans hm
      exact hx262 σ v5 _ _ _ hm hI (lv_sub hl [] rfl)
    · have hm := (if_neg c69).symm.trans hm
      refine lv_aload_n hx hb dX12_lay_240 rfl (lv_at hl 0 rfl) ?_
      refine lv_iload hx hb dX12_lay_241 (lv_at hl 2 rfl) ?_
      refine lv_aload_n hx hb dX12_lay_243 rfl (lv_at hl 0 rfl) ?_
      refine gf_59_2 hx hb ht hK hI mw_755 (fun _ h9 => h9) hown dX12_lay_244 ?_
      refine lv_iload_n hx hb dX12_lay_247 rfl (lv_at hl 1 rfl) ?_
      obtain ⟨g70, hm⟩ := gb_some hm
      refine ld_60 hx hb hK hI g70 (v := σ 60 (ix u3)) rfl dX12_lay_248 ?_
      refine lv_isub hx hb dX12_lay_249 ?_
      refine lv_iload hx hb dX12_lay_250 (lv_at hl 3 rfl) ?_
      refine lv_iadd hx hb dX12_lay_252 ?_
      obtain ⟨r71, σ72, h73, hm⟩ := bd_some hm
      refine k_v hI hA (va_runV (As := [.int ((u4 - (σ 60 (ix u3))) + v5)]) (rest := []) hX (c_X12_tells N n h73 _) (cwV 1 ht (in_V mw_896 mw_897 mw_898 mw_861 mw_889) rfl rfl rfl pd_X12_tells ⟨Nat.le_of_ble_eq_true rfl, Nat.le_of_ble_eq_true rfl⟩) ⟨q_blind, va_recv hK hI.1 (ci := 11) (q0 := 59) rfl rfl, q_to hI hK hN hZ hA⟩ rfl rfl hl.1 rfl (lv_room (Nat.le_of_ble_eq_true rfl)) dX12_lay_253 (by decide)) (fun H locs hI => ?_)
      refine lv_iinc (v := v5 + 1) (lv' := [(5, .int (v5 + 1)), (0, .ref (ga g 59)), (3, .int u3), (4, .int u4)]) hx hb dX12_lay_256 hl (k := 3) rfl (congrArg (fun z => v5 + z) (show Int32.ofInt 1 = 1 by decide)) (by decide) rfl (fun ls hl => ?_)
      refine lv_goto (tgt := 229) hx hb dX12_lay_259 (by decide) ?_
      exact ih σ72 (v5 + 1) _ _ _ hm hI (lv_sub hl [1, 2, 3, 0] rfl) hx262
set_option maxHeartbeats 4000000 in
set_option maxRecDepth 100000 in
theorem c_X12_lay {l : Launch} {g : GG} {q : Nat} (N n : Nat) {σ : Sg} {p0 : Int32} {p1 : Int32} {p2 : Int32} {p3 : Int32} {r : Int32} {σ' : Sg} (hm : f_X12_lay N n σ p0 p1 p2 p3 = some (r, σ')) : CTv l yX12_lay cX12_lay 6 none 1 22 g q n [.ref (ga g 59), .int p0, .int p1, .int p2, .int p3] σ σ' := by
  refine e_v (r := r) (by decide) (Nat.le_of_ble_eq_true rfl) ?_
  intro p e s m args below meth c A Q ls hC hl hI
  obtain ⟨hX, hK, hN, hZ, hA, hR⟩ := id hC
  have hx : p.tables.exec = Jvm.exec := hX.1
  have hb : c.code = cX12_lay := hX.2.1
  have hml : c.maxLocals = 6 := hX.2.2.1
  have hown : s.vm.findClass RX12 = some m.cls := hX.2.2.2.1
  have ht : ∀ w ∈ BIG, w.before args s = true := hX.2.2.2.2
  have hl : lv_has ls 6 [(0, .ref (ga g 59)), (1, .int p0), (2, .int p1), (3, .int p2), (4, .int p3)] := hl
  unfold f_X12_lay at hm
  refine lv_iload_n hx hb dX12_lay_0 rfl (lv_at hl 2 rfl) ?_
  by_cases c1 : p1 = 0
  · have hm := (if_pos c1).symm.trans hm
    refine lv_tableIn (off := 87) (tgt := 88) hx hb dX12_lay_1 (by (rw [c1]; decide)) (by (rw [c1]; decide)) (by (rw [c1]; rfl)) (by decide) ?_
    refine lv_aload_n hx hb dX12_lay_88 rfl (lv_at hl 0 rfl) ?_
    refine lv_iconst (v := 0) hx hb dX12_lay_89 (by decide) ?_
    refine lv_iload_n hx hb dX12_lay_90 rfl (lv_at hl 3 rfl) ?_
    obtain ⟨r2, σ3, h4, hm⟩ := bd_some hm
    refine k_v hI hA (va_runV (As := [.int 0, .int p2]) (rest := []) hX (c_X12_place N n h4 _) (cwV 2 ht (in_V mw_893 mw_894 mw_895 mw_861 mw_887) rfl rfl rfl pd_X12_place ⟨Nat.le_of_ble_eq_true rfl, Nat.le_of_ble_eq_true rfl⟩) ⟨q_blind, va_recv hK hI.1 (ci := 11) (q0 := 59) rfl rfl, q_to hI hK hN hZ hA⟩ rfl rfl hl.1 rfl (lv_room (Nat.le_of_ble_eq_true rfl)) dX12_lay_91 (by decide)) (fun H locs hI => ?_)
    refine lv_aload_n hx hb dX12_lay_94 rfl (lv_at hl 0 rfl) ?_
    refine lv_iload hx hb dX12_lay_95 (lv_at hl 4 rfl) ?_
    obtain ⟨r5, σ6, h7, hm⟩ := bd_some hm
    refine k_v hI hA (va_runV (As := [.int p3]) (rest := []) hX (c_X12_tells N n h7 _) (cwV 1 ht (in_V mw_896 mw_897 mw_898 mw_861 mw_889) rfl rfl rfl pd_X12_tells ⟨Nat.le_of_ble_eq_true rfl, Nat.le_of_ble_eq_true rfl⟩) ⟨q_blind, va_recv hK hI.1 (ci := 11) (q0 := 59) rfl rfl, q_to hI hK hN hZ hA⟩ rfl rfl hl.1 rfl (lv_room (Nat.le_of_ble_eq_true rfl)) dX12_lay_97 (by decide)) (fun H locs hI => ?_)
    exact hR _ _ _ _ _ hm hI dX12_lay_100
  have hm := (if_neg c1).symm.trans hm
  by_cases c8 : p1 = 1
  · have hm := (if_pos c8).symm.trans hm
    refine lv_tableIn (off := 100) (tgt := 101) hx hb dX12_lay_1 (by (rw [c8]; decide)) (by (rw [c8]; decide)) (by (rw [c8]; rfl)) (by decide) ?_
    refine lv_aload_n hx hb dX12_lay_101 rfl (lv_at hl 0 rfl) ?_
    refine lv_iconst (v := 1) hx hb dX12_lay_102 (by decide) ?_
    refine lv_iconst (v := 0) hx hb dX12_lay_103 (by decide) ?_
    obtain ⟨r9, σ10, h11, hm⟩ := bd_some hm
    refine k_v hI hA (va_runV (As := [.int 1, .int 0]) (rest := []) hX (c_X12_place N n h11 _) (cwV 2 ht (in_V mw_893 mw_894 mw_895 mw_861 mw_887) rfl rfl rfl pd_X12_place ⟨Nat.le_of_ble_eq_true rfl, Nat.le_of_ble_eq_true rfl⟩) ⟨q_blind, va_recv hK hI.1 (ci := 11) (q0 := 59) rfl rfl, q_to hI hK hN hZ hA⟩ rfl rfl hl.1 rfl (lv_room (Nat.le_of_ble_eq_true rfl)) dX12_lay_104 (by decide)) (fun H locs hI => ?_)
    refine lv_aload_n hx hb dX12_lay_107 rfl (lv_at hl 0 rfl) ?_
    refine lv_iload hx hb dX12_lay_108 (lv_at hl 4 rfl) ?_
    obtain ⟨r12, σ13, h14, hm⟩ := bd_some hm
    refine k_v hI hA (va_runV (As := [.int p3]) (rest := []) hX (c_X12_tells N n h14 _) (cwV 1 ht (in_V mw_896 mw_897 mw_898 mw_861 mw_889) rfl rfl rfl pd_X12_tells ⟨Nat.le_of_ble_eq_true rfl, Nat.le_of_ble_eq_true rfl⟩) ⟨q_blind, va_recv hK hI.1 (ci := 11) (q0 := 59) rfl rfl, q_to hI hK hN hZ hA⟩ rfl rfl hl.1 rfl (lv_room (Nat.le_of_ble_eq_true rfl)) dX12_lay_110 (by decide)) (fun H locs hI => ?_)
    refine lv_aload_n hx hb dX12_lay_113 rfl (lv_at hl 0 rfl) ?_
    refine lv_iload_n hx hb dX12_lay_114 rfl (lv_at hl 3 rfl) ?_
    obtain ⟨r15, σ16, h17, hm⟩ := bd_some hm
    refine k_v hI hA (va_runV (As := [.int p2]) (rest := []) hX (c_X12_tells N n h17 _) (cwV 1 ht (in_V mw_896 mw_897 mw_898 mw_861 mw_889) rfl rfl rfl pd_X12_tells ⟨Nat.le_of_ble_eq_true rfl, Nat.le_of_ble_eq_true rfl⟩) ⟨q_blind, va_recv hK hI.1 (ci := 11) (q0 := 59) rfl rfl, q_to hI hK hN hZ hA⟩ rfl rfl hl.1 rfl (lv_room (Nat.le_of_ble_eq_true rfl)) dX12_lay_115 (by decide)) (fun H locs hI => ?_)
    exact hR _ _ _ _ _ hm hI dX12_lay_118
  have hm := (if_neg c8).symm.trans hm
  by_cases c18 : p1 = 2
  · have hm := (if_pos c18).symm.trans hm
    refine lv_tableIn (off := 118) (tgt := 119) hx hb dX12_lay_1 (by (rw [c18]; decide)) (by (rw [c18]; decide)) (by (rw [c18]; rfl)) (by decide) ?_
    refine lv_aload_n hx hb dX12_lay_119 rfl (lv_at hl 0 rfl) ?_
    refine lv_iconst (v := 1) hx hb dX12_lay_120 (by decide) ?_
    refine lv_iconst (v := 0) hx hb dX12_lay_121 (by decide) ?_
    obtain ⟨r19, σ20, h21, hm⟩ := bd_some hm
    refine k_v hI hA (va_runV (As := [.int 1, .int 0]) (rest := []) hX (c_X12_place N n h21 _) (cwV 2 ht (in_V mw_893 mw_894 mw_895 mw_861 mw_887) rfl rfl rfl pd_X12_place ⟨Nat.le_of_ble_eq_true rfl, Nat.le_of_ble_eq_true rfl⟩) ⟨q_blind, va_recv hK hI.1 (ci := 11) (q0 := 59) rfl rfl, q_to hI hK hN hZ hA⟩ rfl rfl hl.1 rfl (lv_room (Nat.le_of_ble_eq_true rfl)) dX12_lay_122 (by decide)) (fun H locs hI => ?_)
    refine lv_aload_n hx hb dX12_lay_125 rfl (lv_at hl 0 rfl) ?_
    refine lv_iload_n hx hb dX12_lay_126 rfl (lv_at hl 3 rfl) ?_
    obtain ⟨r22, σ23, h24, hm⟩ := bd_some hm
    refine k_v hI hA (va_runV (As := [.int p2]) (rest := []) hX (c_X12_tells N n h24 _) (cwV 1 ht (in_V mw_896 mw_897 mw_898 mw_861 mw_889) rfl rfl rfl pd_X12_tells ⟨Nat.le_of_ble_eq_true rfl, Nat.le_of_ble_eq_true rfl⟩) ⟨q_blind, va_recv hK hI.1 (ci := 11) (q0 := 59) rfl rfl, q_to hI hK hN hZ hA⟩ rfl rfl hl.1 rfl (lv_room (Nat.le_of_ble_eq_true rfl)) dX12_lay_127 (by decide)) (fun H locs hI => ?_)
    refine lv_aload_n hx hb dX12_lay_130 rfl (lv_at hl 0 rfl) ?_
    refine lv_iload hx hb dX12_lay_131 (lv_at hl 4 rfl) ?_
    refine lv_iconst (v := 1) hx hb dX12_lay_133 (by decide) ?_
    refine lv_isub hx hb dX12_lay_134 ?_
    obtain ⟨r25, σ26, h27, hm⟩ := bd_some hm
    refine k_v hI hA (va_runV (As := [.int (p3 - 1)]) (rest := []) hX (c_X12_tells N n h27 _) (cwV 1 ht (in_V mw_896 mw_897 mw_898 mw_861 mw_889) rfl rfl rfl pd_X12_tells ⟨Nat.le_of_ble_eq_true rfl, Nat.le_of_ble_eq_true rfl⟩) ⟨q_blind, va_recv hK hI.1 (ci := 11) (q0 := 59) rfl rfl, q_to hI hK hN hZ hA⟩ rfl rfl hl.1 rfl (lv_room (Nat.le_of_ble_eq_true rfl)) dX12_lay_135 (by decide)) (fun H locs hI => ?_)
    exact hR _ _ _ _ _ hm hI dX12_lay_138
  have hm := (if_neg c18).symm.trans hm
  by_cases c28 : p1 = 9
  · have hm := (if_pos c28).symm.trans hm
    refine lv_tableIn (off := 138) (tgt := 139) hx hb dX12_lay_1 (by (rw [c28]; decide)) (by (rw [c28]; decide)) (by (rw [c28]; rfl)) (by decide) ?_
    refine lv_aload_n hx hb dX12_lay_139 rfl (lv_at hl 0 rfl) ?_
    refine lv_iconst (v := 1) hx hb dX12_lay_140 (by decide) ?_
    refine lv_iconst (v := 0) hx hb dX12_lay_141 (by decide) ?_
    obtain ⟨r29, σ30, h31, hm⟩ := bd_some hm
    refine k_v hI hA (va_runV (As := [.int 1, .int 0]) (rest := []) hX (c_X12_place N n h31 _) (cwV 2 ht (in_V mw_893 mw_894 mw_895 mw_861 mw_887) rfl rfl rfl pd_X12_place ⟨Nat.le_of_ble_eq_true rfl, Nat.le_of_ble_eq_true rfl⟩) ⟨q_blind, va_recv hK hI.1 (ci := 11) (q0 := 59) rfl rfl, q_to hI hK hN hZ hA⟩ rfl rfl hl.1 rfl (lv_room (Nat.le_of_ble_eq_true rfl)) dX12_lay_142 (by decide)) (fun H locs hI => ?_)
    refine lv_aload_n hx hb dX12_lay_145 rfl (lv_at hl 0 rfl) ?_
    refine lv_iload hx hb dX12_lay_146 (lv_at hl 4 rfl) ?_
    obtain ⟨r32, σ33, h34, hm⟩ := bd_some hm
    refine k_v hI hA (va_runV (As := [.int p3]) (rest := []) hX (c_X12_tells N n h34 _) (cwV 1 ht (in_V mw_896 mw_897 mw_898 mw_861 mw_889) rfl rfl rfl pd_X12_tells ⟨Nat.le_of_ble_eq_true rfl, Nat.le_of_ble_eq_true rfl⟩) ⟨q_blind, va_recv hK hI.1 (ci := 11) (q0 := 59) rfl rfl, q_to hI hK hN hZ hA⟩ rfl rfl hl.1 rfl (lv_room (Nat.le_of_ble_eq_true rfl)) dX12_lay_148 (by decide)) (fun H locs hI => ?_)
    refine lv_aload_n hx hb dX12_lay_151 rfl (lv_at hl 0 rfl) ?_
    refine lv_iload hx hb dX12_lay_152 (lv_at hl 4 rfl) ?_
    refine lv_iconst (v := 1) hx hb dX12_lay_154 (by decide) ?_
    refine lv_isub hx hb dX12_lay_155 ?_
    obtain ⟨r35, σ36, h37, hm⟩ := bd_some hm
    refine k_v hI hA (va_runV (As := [.int (p3 - 1)]) (rest := []) hX (c_X12_tells N n h37 _) (cwV 1 ht (in_V mw_896 mw_897 mw_898 mw_861 mw_889) rfl rfl rfl pd_X12_tells ⟨Nat.le_of_ble_eq_true rfl, Nat.le_of_ble_eq_true rfl⟩) ⟨q_blind, va_recv hK hI.1 (ci := 11) (q0 := 59) rfl rfl, q_to hI hK hN hZ hA⟩ rfl rfl hl.1 rfl (lv_room (Nat.le_of_ble_eq_true rfl)) dX12_lay_156 (by decide)) (fun H locs hI => ?_)
    exact hR _ _ _ _ _ hm hI dX12_lay_159
  have hm := (if_neg c28).symm.trans hm
  by_cases c38 : p1 = 10
  · have hm := (if_pos c38).symm.trans hm
    refine lv_tableIn (off := 159) (tgt := 160) hx hb dX12_lay_1 (by (rw [c38]; decide)) (by (rw [c38]; decide)) (by (rw [c38]; rfl)) (by decide) ?_
    refine lv_aload_n hx hb dX12_lay_160 rfl (lv_at hl 0 rfl) ?_
    refine lv_iconst (v := 3) hx hb dX12_lay_161 (by decide) ?_
    refine lv_iconst (v := 0) hx hb dX12_lay_162 (by decide) ?_
    obtain ⟨r39, σ40, h41, hm⟩ := bd_some hm
    refine k_v hI hA (va_runV (As := [.int 3, .int 0]) (rest := []) hX (c_X12_place N n h41 _) (cwV 2 ht (in_V mw_893 mw_894 mw_895 mw_861 mw_887) rfl rfl rfl pd_X12_place ⟨Nat.le_of_ble_eq_true rfl, Nat.le_of_ble_eq_true rfl⟩) ⟨q_blind, va_recv hK hI.1 (ci := 11) (q0 := 59) rfl rfl, q_to hI hK hN hZ hA⟩ rfl rfl hl.1 rfl (lv_room (Nat.le_of_ble_eq_true rfl)) dX12_lay_163 (by decide)) (fun H locs hI => ?_)
    refine lv_aload_n hx hb dX12_lay_166 rfl (lv_at hl 0 rfl) ?_
    refine lv_iload hx hb dX12_lay_167 (lv_at hl 4 rfl) ?_
    refine lv_iconst (v := 1) hx hb dX12_lay_169 (by decide) ?_
    refine lv_isub hx hb dX12_lay_170 ?_
    obtain ⟨r42, σ43, h44, hm⟩ := bd_some hm
    refine k_v hI hA (va_runV (As := [.int (p3 - 1)]) (rest := []) hX (c_X12_tells N n h44 _) (cwV 1 ht (in_V mw_896 mw_897 mw_898 mw_861 mw_889) rfl rfl rfl pd_X12_tells ⟨Nat.le_of_ble_eq_true rfl, Nat.le_of_ble_eq_true rfl⟩) ⟨q_blind, va_recv hK hI.1 (ci := 11) (q0 := 59) rfl rfl, q_to hI hK hN hZ hA⟩ rfl rfl hl.1 rfl (lv_room (Nat.le_of_ble_eq_true rfl)) dX12_lay_171 (by decide)) (fun H locs hI => ?_)
    refine lv_aload_n hx hb dX12_lay_174 rfl (lv_at hl 0 rfl) ?_
    refine lv_iload hx hb dX12_lay_175 (lv_at hl 4 rfl) ?_
    refine lv_iconst (v := 2) hx hb dX12_lay_177 (by decide) ?_
    refine lv_isub hx hb dX12_lay_178 ?_
    obtain ⟨r45, σ46, h47, hm⟩ := bd_some hm
    refine k_v hI hA (va_runV (As := [.int (p3 - 2)]) (rest := []) hX (c_X12_tells N n h47 _) (cwV 1 ht (in_V mw_896 mw_897 mw_898 mw_861 mw_889) rfl rfl rfl pd_X12_tells ⟨Nat.le_of_ble_eq_true rfl, Nat.le_of_ble_eq_true rfl⟩) ⟨q_blind, va_recv hK hI.1 (ci := 11) (q0 := 59) rfl rfl, q_to hI hK hN hZ hA⟩ rfl rfl hl.1 rfl (lv_room (Nat.le_of_ble_eq_true rfl)) dX12_lay_179 (by decide)) (fun H locs hI => ?_)
    exact hR _ _ _ _ _ hm hI dX12_lay_182
  have hm := (if_neg c38).symm.trans hm
  by_cases c48 : p1 = 11
  · have hm := (if_pos c48).symm.trans hm
    refine lv_tableIn (off := 182) (tgt := 183) hx hb dX12_lay_1 (by (rw [c48]; decide)) (by (rw [c48]; decide)) (by (rw [c48]; rfl)) (by decide) ?_
    exact hR _ _ _ _ _ hm hI dX12_lay_183
  have hm := (if_neg c48).symm.trans hm
  by_cases c49 : p1 = 12
  · have hm := (if_pos c49).symm.trans hm
    refine lv_tableIn (off := 183) (tgt := 184) hx hb dX12_lay_1 (by (rw [c49]; decide)) (by (rw [c49]; decide)) (by (rw [c49]; rfl)) (by decide) ?_
    refine lv_aload_n hx hb dX12_lay_184 rfl (lv_at hl 0 rfl) ?_
    refine lv_iconst (v := 4) hx hb dX12_lay_185 (by decide) ?_
    refine lv_iload_n hx hb dX12_lay_186 rfl (lv_at hl 3 rfl) ?_
    obtain ⟨r50, σ51, h52, hm⟩ := bd_some hm
    refine k_v hI hA (va_runV (As := [.int 4, .int p2]) (rest := []) hX (c_X12_place N n h52 _) (cwV 2 ht (in_V mw_893 mw_894 mw_895 mw_861 mw_887) rfl rfl rfl pd_X12_place ⟨Nat.le_of_ble_eq_true rfl, Nat.le_of_ble_eq_true rfl⟩) ⟨q_blind, va_recv hK hI.1 (ci := 11) (q0 := 59) rfl rfl, q_to hI hK hN hZ hA⟩ rfl rfl hl.1 rfl (lv_room (Nat.le_of_ble_eq_true rfl)) dX12_lay_187 (by decide)) (fun H locs hI => ?_)
    exact hR _ _ _ _ _ hm hI dX12_lay_190
  have hm := (if_neg c49).symm.trans hm
  by_cases c53 : p1 = 13
  · have hm := (if_pos c53).symm.trans hm
    refine lv_tableIn (off := 190) (tgt := 191) hx hb dX12_lay_1 (by (rw [c53]; decide)) (by (rw [c53]; decide)) (by (rw [c53]; rfl)) (by decide) ?_
    refine lv_aload_n hx hb dX12_lay_191 rfl (lv_at hl 0 rfl) ?_
    refine lv_iconst (v := 5) hx hb dX12_lay_192 (by decide) ?_
    refine lv_iload_n hx hb dX12_lay_193 rfl (lv_at hl 3 rfl) ?_
    obtain ⟨r54, σ55, h56, hm⟩ := bd_some hm
    refine k_v hI hA (va_runV (As := [.int 5, .int p2]) (rest := []) hX (c_X12_place N n h56 _) (cwV 2 ht (in_V mw_893 mw_894 mw_895 mw_861 mw_887) rfl rfl rfl pd_X12_place ⟨Nat.le_of_ble_eq_true rfl, Nat.le_of_ble_eq_true rfl⟩) ⟨q_blind, va_recv hK hI.1 (ci := 11) (q0 := 59) rfl rfl, q_to hI hK hN hZ hA⟩ rfl rfl hl.1 rfl (lv_room (Nat.le_of_ble_eq_true rfl)) dX12_lay_194 (by decide)) (fun H locs hI => ?_)
    refine lv_aload_n hx hb dX12_lay_197 rfl (lv_at hl 0 rfl) ?_
    refine lv_iload hx hb dX12_lay_198 (lv_at hl 4 rfl) ?_
    refine lv_iconst (v := 1) hx hb dX12_lay_200 (by decide) ?_
    refine lv_isub hx hb dX12_lay_201 ?_
    obtain ⟨r57, σ58, h59, hm⟩ := bd_some hm
    refine k_v hI hA (va_runV (As := [.int (p3 - 1)]) (rest := []) hX (c_X12_tells N n h59 _) (cwV 1 ht (in_V mw_896 mw_897 mw_898 mw_861 mw_889) rfl rfl rfl pd_X12_tells ⟨Nat.le_of_ble_eq_true rfl, Nat.le_of_ble_eq_true rfl⟩) ⟨q_blind, va_recv hK hI.1 (ci := 11) (q0 := 59) rfl rfl, q_to hI hK hN hZ hA⟩ rfl rfl hl.1 rfl (lv_room (Nat.le_of_ble_eq_true rfl)) dX12_lay_202 (by decide)) (fun H locs hI => ?_)
    exact hR _ _ _ _ _ hm hI dX12_lay_205
  have hm := (if_neg c53).symm.trans hm
  by_cases c60 : p1 = 14
  · have hm := (if_pos c60).symm.trans hm
    refine lv_tableIn (off := 205) (tgt := 206) hx hb dX12_lay_1 (by (rw [c60]; decide)) (by (rw [c60]; decide)) (by (rw [c60]; rfl)) (by decide) ?_
    refine lv_aload_n hx hb dX12_lay_206 rfl (lv_at hl 0 rfl) ?_
    refine lv_bipush (v := 13) hx hb dX12_lay_207 (by decide) ?_
    refine lv_iload_n hx hb dX12_lay_209 rfl (lv_at hl 3 rfl) ?_
    obtain ⟨r61, σ62, h63, hm⟩ := bd_some hm
    refine k_v hI hA (va_runV (As := [.int 13, .int p2]) (rest := []) hX (c_X12_place N n h63 _) (cwV 2 ht (in_V mw_893 mw_894 mw_895 mw_861 mw_887) rfl rfl rfl pd_X12_place ⟨Nat.le_of_ble_eq_true rfl, Nat.le_of_ble_eq_true rfl⟩) ⟨q_blind, va_recv hK hI.1 (ci := 11) (q0 := 59) rfl rfl, q_to hI hK hN hZ hA⟩ rfl rfl hl.1 rfl (lv_room (Nat.le_of_ble_eq_true rfl)) dX12_lay_210 (by decide)) (fun H locs hI => ?_)
    refine lv_aload_n hx hb dX12_lay_213 rfl (lv_at hl 0 rfl) ?_
    refine lv_iload hx hb dX12_lay_214 (lv_at hl 4 rfl) ?_
    refine lv_aload_n hx hb dX12_lay_216 rfl (lv_at hl 0 rfl) ?_
    refine gf_59_2 hx hb ht hK hI mw_755 (fun _ h9 => h9) hown dX12_lay_217 ?_
    refine lv_iload_n hx hb dX12_lay_220 rfl (lv_at hl 3 rfl) ?_
    obtain ⟨g64, hm⟩ := gb_some hm
    refine ld_60 hx hb hK hI g64 (v := σ62 60 (ix p2)) rfl dX12_lay_221 ?_
    refine lv_isub hx hb dX12_lay_222 ?_
    obtain ⟨r65, σ66, h67, hm⟩ := bd_some hm
    refine k_v hI hA (va_runV (As := [.int (p3 - (σ62 60 (ix p2)))]) (rest := []) hX (c_X12_tells N n h67 _) (cwV 1 ht (in_V mw_896 mw_897 mw_898 mw_861 mw_889) rfl rfl rfl pd_X12_tells ⟨Nat.le_of_ble_eq_true rfl, Nat.le_of_ble_eq_true rfl⟩) ⟨q_blind, va_recv hK hI.1 (ci := 11) (q0 := 59) rfl rfl, q_to hI hK hN hZ hA⟩ rfl rfl hl.1 rfl (lv_room (Nat.le_of_ble_eq_true rfl)) dX12_lay_223 (by decide)) (fun H locs hI => ?_)
    refine lv_iconst (v := 0) hx hb dX12_lay_226 (by decide) ?_
    refine lv_istore (lv' := [(5, .int 0), (0, .ref (ga g 59)), (1, .int p0), (2, .int p1), (3, .int p2), (4, .int p3)]) hx hb dX12_lay_227 hl (by decide) rfl (fun ls hl => ?_)
    refine lp_X12_lay_229 hC N _ _ _ _ _ hm hI (lv_sub hl [1, 4, 5, 0] rfl) ?_
    intro σ74 w75 H locs ls hm hI hl
    exact hR _ _ _ _ _ hm hI dX12_lay_262
  have hm := (if_neg c60).symm.trans hm
  by_cases c76 : p1 = 15
  · have hm := (if_pos c76).symm.trans hm
    refine lv_tableIn (off := 262) (tgt := 263) hx hb dX12_lay_1 (by (rw [c76]; decide)) (by (rw [c76]; decide)) (by (rw [c76]; rfl)) (by decide) ?_
    refine lv_aload_n hx hb dX12_lay_263 rfl (lv_at hl 0 rfl) ?_
    refine lv_bipush (v := 6) hx hb dX12_lay_264 (by decide) ?_
    refine lv_iconst (v := 0) hx hb dX12_lay_266 (by decide) ?_
    obtain ⟨r77, σ78, h79, hm⟩ := bd_some hm
    refine k_v hI hA (va_runV (As := [.int 6, .int 0]) (rest := []) hX (c_X12_place N n h79 _) (cwV 2 ht (in_V mw_893 mw_894 mw_895 mw_861 mw_887) rfl rfl rfl pd_X12_place ⟨Nat.le_of_ble_eq_true rfl, Nat.le_of_ble_eq_true rfl⟩) ⟨q_blind, va_recv hK hI.1 (ci := 11) (q0 := 59) rfl rfl, q_to hI hK hN hZ hA⟩ rfl rfl hl.1 rfl (lv_room (Nat.le_of_ble_eq_true rfl)) dX12_lay_267 (by decide)) (fun H locs hI => ?_)
    refine lv_aload_n hx hb dX12_lay_270 rfl (lv_at hl 0 rfl) ?_
    refine lv_iload hx hb dX12_lay_271 (lv_at hl 4 rfl) ?_
    refine lv_iconst (v := 1) hx hb dX12_lay_273 (by decide) ?_
    refine lv_isub hx hb dX12_lay_274 ?_
    obtain ⟨r80, σ81, h82, hm⟩ := bd_some hm
    refine k_v hI hA (va_runV (As := [.int (p3 - 1)]) (rest := []) hX (c_X12_tells N n h82 _) (cwV 1 ht (in_V mw_896 mw_897 mw_898 mw_861 mw_889) rfl rfl rfl pd_X12_tells ⟨Nat.le_of_ble_eq_true rfl, Nat.le_of_ble_eq_true rfl⟩) ⟨q_blind, va_recv hK hI.1 (ci := 11) (q0 := 59) rfl rfl, q_to hI hK hN hZ hA⟩ rfl rfl hl.1 rfl (lv_room (Nat.le_of_ble_eq_true rfl)) dX12_lay_275 (by decide)) (fun H locs hI => ?_)
    exact hR _ _ _ _ _ hm hI dX12_lay_278
  have hm := (if_neg c76).symm.trans hm
  by_cases c83 : p1 = 16
  · have hm := (if_pos c83).symm.trans hm
    refine lv_tableIn (off := 278) (tgt := 279) hx hb dX12_lay_1 (by (rw [c83]; decide)) (by (rw [c83]; decide)) (by (rw [c83]; rfl)) (by decide) ?_
    refine lv_aload_n hx hb dX12_lay_279 rfl (lv_at hl 0 rfl) ?_
    refine lv_bipush (v := 7) hx hb dX12_lay_280 (by decide) ?_
    refine lv_iconst (v := 0) hx hb dX12_lay_282 (by decide) ?_
    obtain ⟨r84, σ85, h86, hm⟩ := bd_some hm
    refine k_v hI hA (va_runV (As := [.int 7, .int 0]) (rest := []) hX (c_X12_place N n h86 _) (cwV 2 ht (in_V mw_893 mw_894 mw_895 mw_861 mw_887) rfl rfl rfl pd_X12_place ⟨Nat.le_of_ble_eq_true rfl, Nat.le_of_ble_eq_true rfl⟩) ⟨q_blind, va_recv hK hI.1 (ci := 11) (q0 := 59) rfl rfl, q_to hI hK hN hZ hA⟩ rfl rfl hl.1 rfl (lv_room (Nat.le_of_ble_eq_true rfl)) dX12_lay_283 (by decide)) (fun H locs hI => ?_)
    refine lv_aload_n hx hb dX12_lay_286 rfl (lv_at hl 0 rfl) ?_
    refine lv_iload hx hb dX12_lay_287 (lv_at hl 4 rfl) ?_
    refine lv_iconst (v := 1) hx hb dX12_lay_289 (by decide) ?_
    refine lv_isub hx hb dX12_lay_290 ?_
    obtain ⟨r87, σ88, h89, hm⟩ := bd_some hm
    refine k_v hI hA (va_runV (As := [.int (p3 - 1)]) (rest := []) hX (c_X12_tells N n h89 _) (cwV 1 ht (in_V mw_896 mw_897 mw_898 mw_861 mw_889) rfl rfl rfl pd_X12_tells ⟨Nat.le_of_ble_eq_true rfl, Nat.le_of_ble_eq_true rfl⟩) ⟨q_blind, va_recv hK hI.1 (ci := 11) (q0 := 59) rfl rfl, q_to hI hK hN hZ hA⟩ rfl rfl hl.1 rfl (lv_room (Nat.le_of_ble_eq_true rfl)) dX12_lay_291 (by decide)) (fun H locs hI => ?_)
    refine lv_aload_n hx hb dX12_lay_294 rfl (lv_at hl 0 rfl) ?_
    refine lv_iload hx hb dX12_lay_295 (lv_at hl 4 rfl) ?_
    refine lv_iconst (v := 1) hx hb dX12_lay_297 (by decide) ?_
    refine lv_isub hx hb dX12_lay_298 ?_
    obtain ⟨r90, σ91, h92, hm⟩ := bd_some hm
    refine k_v hI hA (va_runV (As := [.int (p3 - 1)]) (rest := []) hX (c_X12_tells N n h92 _) (cwV 1 ht (in_V mw_896 mw_897 mw_898 mw_861 mw_889) rfl rfl rfl pd_X12_tells ⟨Nat.le_of_ble_eq_true rfl, Nat.le_of_ble_eq_true rfl⟩) ⟨q_blind, va_recv hK hI.1 (ci := 11) (q0 := 59) rfl rfl, q_to hI hK hN hZ hA⟩ rfl rfl hl.1 rfl (lv_room (Nat.le_of_ble_eq_true rfl)) dX12_lay_299 (by decide)) (fun H locs hI => ?_)
    exact hR _ _ _ _ _ hm hI dX12_lay_302
  have hm := (if_neg c83).symm.trans hm
  by_cases c93 : p1 = 17
  · have hm := (if_pos c93).symm.trans hm
    refine lv_tableIn (off := 302) (tgt := 303) hx hb dX12_lay_1 (by (rw [c93]; decide)) (by (rw [c93]; decide)) (by (rw [c93]; rfl)) (by decide) ?_
    refine lv_aload_n hx hb dX12_lay_303 rfl (lv_at hl 0 rfl) ?_
    refine lv_bipush (v := 8) hx hb dX12_lay_304 (by decide) ?_
    refine lv_iconst (v := 0) hx hb dX12_lay_306 (by decide) ?_
    obtain ⟨r94, σ95, h96, hm⟩ := bd_some hm
    refine k_v hI hA (va_runV (As := [.int 8, .int 0]) (rest := []) hX (c_X12_place N n h96 _) (cwV 2 ht (in_V mw_893 mw_894 mw_895 mw_861 mw_887) rfl rfl rfl pd_X12_place ⟨Nat.le_of_ble_eq_true rfl, Nat.le_of_ble_eq_true rfl⟩) ⟨q_blind, va_recv hK hI.1 (ci := 11) (q0 := 59) rfl rfl, q_to hI hK hN hZ hA⟩ rfl rfl hl.1 rfl (lv_room (Nat.le_of_ble_eq_true rfl)) dX12_lay_307 (by decide)) (fun H locs hI => ?_)
    refine lv_aload_n hx hb dX12_lay_310 rfl (lv_at hl 0 rfl) ?_
    refine lv_iload hx hb dX12_lay_311 (lv_at hl 4 rfl) ?_
    refine lv_iconst (v := 1) hx hb dX12_lay_313 (by decide) ?_
    refine lv_isub hx hb dX12_lay_314 ?_
    obtain ⟨r97, σ98, h99, hm⟩ := bd_some hm
    refine k_v hI hA (va_runV (As := [.int (p3 - 1)]) (rest := []) hX (c_X12_tells N n h99 _) (cwV 1 ht (in_V mw_896 mw_897 mw_898 mw_861 mw_889) rfl rfl rfl pd_X12_tells ⟨Nat.le_of_ble_eq_true rfl, Nat.le_of_ble_eq_true rfl⟩) ⟨q_blind, va_recv hK hI.1 (ci := 11) (q0 := 59) rfl rfl, q_to hI hK hN hZ hA⟩ rfl rfl hl.1 rfl (lv_room (Nat.le_of_ble_eq_true rfl)) dX12_lay_315 (by decide)) (fun H locs hI => ?_)
    refine lv_aload_n hx hb dX12_lay_318 rfl (lv_at hl 0 rfl) ?_
    refine lv_iload hx hb dX12_lay_319 (lv_at hl 4 rfl) ?_
    refine lv_iconst (v := 2) hx hb dX12_lay_321 (by decide) ?_
    refine lv_isub hx hb dX12_lay_322 ?_
    obtain ⟨r100, σ101, h102, hm⟩ := bd_some hm
    refine k_v hI hA (va_runV (As := [.int (p3 - 2)]) (rest := []) hX (c_X12_tells N n h102 _) (cwV 1 ht (in_V mw_896 mw_897 mw_898 mw_861 mw_889) rfl rfl rfl pd_X12_tells ⟨Nat.le_of_ble_eq_true rfl, Nat.le_of_ble_eq_true rfl⟩) ⟨q_blind, va_recv hK hI.1 (ci := 11) (q0 := 59) rfl rfl, q_to hI hK hN hZ hA⟩ rfl rfl hl.1 rfl (lv_room (Nat.le_of_ble_eq_true rfl)) dX12_lay_323 (by decide)) (fun H locs hI => ?_)
    exact hR _ _ _ _ _ hm hI dX12_lay_326
  have hm := (if_neg c93).symm.trans hm
  refine sw_d (tgt := 327) hx hb [0, 1, 2, 9, 10, 11, 12, 13, 14, 15, 16, 17] dX12_lay_1 (by decide) (by decide) (ne_c (lv_neT c1 (by decide)) (ne_c (lv_neT c8 (by decide)) (ne_c (lv_neT c18 (by decide)) (ne_c (lv_neT c28 (by decide)) (ne_c (lv_neT c38 (by decide)) (ne_c (lv_neT c48 (by decide)) (ne_c (lv_neT c49 (by decide)) (ne_c (lv_neT c53 (by decide)) (ne_c (lv_neT c60 (by decide)) (ne_c (lv_neT c76 (by decide)) (ne_c (lv_neT c83 (by decide)) (ne_c (lv_neT c93 (by decide)) ne_n)))))))))))) (by decide) ?_
  refine lv_aload_n hx hb dX12_lay_327 rfl (lv_at hl 0 rfl) ?_
  refine lv_iconst (v := 2) hx hb dX12_lay_328 (by decide) ?_
  refine lv_iload_n hx hb dX12_lay_329 rfl (lv_at hl 2 rfl) ?_
  obtain ⟨r103, σ104, h105, hm⟩ := bd_some hm
  refine k_v hI hA (va_runV (As := [.int 2, .int p1]) (rest := []) hX (c_X12_place N n h105 _) (cwV 2 ht (in_V mw_893 mw_894 mw_895 mw_861 mw_887) rfl rfl rfl pd_X12_place ⟨Nat.le_of_ble_eq_true rfl, Nat.le_of_ble_eq_true rfl⟩) ⟨q_blind, va_recv hK hI.1 (ci := 11) (q0 := 59) rfl rfl, q_to hI hK hN hZ hA⟩ rfl rfl hl.1 rfl (lv_room (Nat.le_of_ble_eq_true rfl)) dX12_lay_330 (by decide)) (fun H locs hI => ?_)
  refine lv_aload_n hx hb dX12_lay_333 rfl (lv_at hl 0 rfl) ?_
  refine lv_iload hx hb dX12_lay_334 (lv_at hl 4 rfl) ?_
  refine lv_iconst (v := 2) hx hb dX12_lay_336 (by decide) ?_
  refine lv_isub hx hb dX12_lay_337 ?_
  obtain ⟨r106, σ107, h108, hm⟩ := bd_some hm
  refine k_v hI hA (va_runV (As := [.int (p3 - 2)]) (rest := []) hX (c_X12_tells N n h108 _) (cwV 1 ht (in_V mw_896 mw_897 mw_898 mw_861 mw_889) rfl rfl rfl pd_X12_tells ⟨Nat.le_of_ble_eq_true rfl, Nat.le_of_ble_eq_true rfl⟩) ⟨q_blind, va_recv hK hI.1 (ci := 11) (q0 := 59) rfl rfl, q_to hI hK hN hZ hA⟩ rfl rfl hl.1 rfl (lv_room (Nat.le_of_ble_eq_true rfl)) dX12_lay_338 (by decide)) (fun H locs hI => ?_)
  refine lv_aload_n hx hb dX12_lay_341 rfl (lv_at hl 0 rfl) ?_
  refine lv_iload hx hb dX12_lay_342 (lv_at hl 4 rfl) ?_
  refine lv_iconst (v := 2) hx hb dX12_lay_344 (by decide) ?_
  refine lv_isub hx hb dX12_lay_345 ?_
  obtain ⟨r109, σ110, h111, hm⟩ := bd_some hm
  refine k_v hI hA (va_runV (As := [.int (p3 - 2)]) (rest := []) hX (c_X12_tells N n h111 _) (cwV 1 ht (in_V mw_896 mw_897 mw_898 mw_861 mw_889) rfl rfl rfl pd_X12_tells ⟨Nat.le_of_ble_eq_true rfl, Nat.le_of_ble_eq_true rfl⟩) ⟨q_blind, va_recv hK hI.1 (ci := 11) (q0 := 59) rfl rfl, q_to hI hK hN hZ hA⟩ rfl rfl hl.1 rfl (lv_room (Nat.le_of_ble_eq_true rfl)) dX12_lay_346 (by decide)) (fun H locs hI => ?_)
  refine lv_aload_n hx hb dX12_lay_349 rfl (lv_at hl 0 rfl) ?_
  refine lv_iload hx hb dX12_lay_350 (lv_at hl 4 rfl) ?_
  refine lv_iconst (v := 1) hx hb dX12_lay_352 (by decide) ?_
  refine lv_isub hx hb dX12_lay_353 ?_
  obtain ⟨r112, σ113, h114, hm⟩ := bd_some hm
  refine k_v hI hA (va_runV (As := [.int (p3 - 1)]) (rest := []) hX (c_X12_tells N n h114 _) (cwV 1 ht (in_V mw_896 mw_897 mw_898 mw_861 mw_889) rfl rfl rfl pd_X12_tells ⟨Nat.le_of_ble_eq_true rfl, Nat.le_of_ble_eq_true rfl⟩) ⟨q_blind, va_recv hK hI.1 (ci := 11) (q0 := 59) rfl rfl, q_to hI hK hN hZ hA⟩ rfl rfl hl.1 rfl (lv_room (Nat.le_of_ble_eq_true rfl)) dX12_lay_354 (by decide)) (fun H locs hI => ?_)
  exact hR _ _ _ _ _ hm hI dX12_lay_357
