def lb_X2_giveBack_3 (N n : Nat) (u1 : Int32) (u2 : Int32) (u3 : Int32) (K52 : (Sg → Int32 → Option (Int32 × Sg))) (rec : (Sg → Int32 → Option (Int32 × Sg))) (σ : Sg) (v4 : Int32) : Option (Int32 × Sg) := if u3 ≤ v4 then (K52 σ v4) else (gb v4 16 (if (σ 38 (ix v4)) = (-1) then (rec σ (v4 + 1)) else (gb v4 16 (gb (u1 + (σ 38 (ix v4))) 264 (if u2 ≤ (σ 34 (ix (u1 + (σ 38 (ix v4))))) then (rec σ (v4 + 1)) else (gb v4 16 (rec (sg σ 38 (ix v4) (-1)) (v4 + 1))))))))
def lf_X2_giveBack_3 (N n : Nat) (u1 : Int32) (u2 : Int32) (u3 : Int32) (K52 : (Sg → Int32 → Option (Int32 × Sg))) : Nat → (Sg → Int32 → Option (Int32 × Sg))
  | 0 => fun _ _ => none
  | k + 1 => lb_X2_giveBack_3 N n u1 u2 u3 K52 (lf_X2_giveBack_3 N n u1 u2 u3 K52 k)
def f_X2_giveBack (N n : Nat) (σ : Sg) (p0 : Int32) (p1 : Int32) (p2 : Int32) : Option (Int32 × Sg) := lf_X2_giveBack_3 N n p0 p1 p2 (fun σ8 w9 => some (0, σ8)) N σ 0
set_option maxHeartbeats 4000000 in
set_option maxRecDepth 100000 in
theorem lp_X2_giveBack_3 {p : Program} {l : Launch} {e : Env} {s : State} {m : MethodId} {args : Array Value} {below : List Frame} {meth : Method} {c : Code} {Q : State → Prop} {A : Nat → Prop} {g : GG} {q N n : Nat} {out : Int32 × Sg} {u1 : Int32} {u2 : Int32} {u3 : Int32} {K52 : (Sg → Int32 → Option (Int32 × Sg))}
    (hC : CXv p l e (qR 0 0) s m args below meth c cX2_giveBack 5 RX2 g q n A Q (some out)) :
    ∀ (k : Nat) (σ : Sg) (v4 : Int32) (H : Heap) (locs : List Loc) (ls : Array Slot), lf_X2_giveBack_3 N n u1 u2 u3 K52 k σ v4 = some out → wI g q n σ A s.heap H locs → lv_has ls 5 [(0, .ref (ga g 32)), (1, .int u1), (2, .int u2), (3, .int u3), (4, .int v4)] → (∀ (σ : Sg) (v4 : Int32) (H : Heap) (locs : List Loc) (ls : Array Slot), K52 σ v4 = some out → wI g q n σ A s.heap H locs → lv_has ls 5 [] → W p l e (qR 0 0) s m args below meth c H locs 0 0 Q (F0 m 52 ls [])) → W p l e (qR 0 0) s m args below meth c H locs 0 0 Q (F0 m 3 ls []) := by
  obtain ⟨hX, hK, hN, hZ, hA, hR⟩ := id hC
  have hx : p.tables.exec = Jvm.exec := hX.1
  have hb : c.code = cX2_giveBack := hX.2.1
  have hml : c.maxLocals = 5 := hX.2.2.1
  have hown : s.vm.findClass RX2 = some m.cls := hX.2.2.2.1
  have ht : ∀ w ∈ BIG, w.before args s = true := hX.2.2.2.2
  intro k
  induction k with
  | zero =>
    intro σ v4 H locs ls hm
    have hm : none = some out := hm
    exact nomatch hm
  | succ k ih =>
    intro σ v4 H locs ls hm hI hl hx52
    have hm : lb_X2_giveBack_3 N n u1 u2 u3 K52 (lf_X2_giveBack_3 N n u1 u2 u3 K52 k) σ v4 = some out := hm
    unfold lb_X2_giveBack_3 at hm
    refine lv_iload hx hb dX2_giveBack_3 (lv_at hl 4 rfl) ?_
    refine lv_iload_n hx hb dX2_giveBack_5 rfl (lv_at hl 3 rfl) ?_
    refine lv_icmp_ge (tgt := 52) hx hb dX2_giveBack_6 (by decide) (fun c1 => ?_) (fun c1 => ?_)
    · have hm := (if_pos c1).symm.trans hm
      exact hx52 σ v4 _ _ _ hm hI (lv_sub hl [] rfl)
    · have hm := (if_neg c1).symm.trans hm
      refine lv_aload_n hx hb dX2_giveBack_9 rfl (lv_at hl 0 rfl) ?_
      refine gf_32_5 hx hb ht hK hI mw_105 (fun _ h9 => h9) hown dX2_giveBack_10 ?_
      refine lv_iload hx hb dX2_giveBack_13 (lv_at hl 4 rfl) ?_
      obtain ⟨g2, hm⟩ := gb_some hm
      refine ld_38 hx hb hK hI g2 (v := σ 38 (ix v4)) rfl dX2_giveBack_15 ?_
      refine lv_iconst (v := (-1)) hx hb dX2_giveBack_16 (by decide) ?_
      refine lv_icmp_eq (tgt := 46) hx hb dX2_giveBack_17 (by decide) (fun c3 => ?_) (fun c3 => ?_)
      · have hm := (if_pos c3).symm.trans hm
        refine lv_iinc (v := v4 + 1) (lv' := [(4, .int (v4 + 1)), (0, .ref (ga g 32)), (1, .int u1), (2, .int u2), (3, .int u3)]) hx hb dX2_giveBack_46 hl (k := 4) rfl (congrArg (fun z => v4 + z) (show Int32.ofInt 1 = 1 by decide)) (by decide) rfl (fun ls hl => ?_)
        refine lv_goto (tgt := 3) hx hb dX2_giveBack_49 (by decide) ?_
        exact ih σ (v4 + 1) _ _ _ hm hI (lv_sub hl [1, 2, 3, 4, 0] rfl) hx52
      · have hm := (if_neg c3).symm.trans hm
        refine lv_aload_n hx hb dX2_giveBack_20 rfl (lv_at hl 0 rfl) ?_
        refine gf_32_1 hx hb ht hK hI mw_101 (fun _ h9 => h9) hown dX2_giveBack_21 ?_
        refine lv_iload_n hx hb dX2_giveBack_24 rfl (lv_at hl 1 rfl) ?_
        refine lv_aload_n hx hb dX2_giveBack_25 rfl (lv_at hl 0 rfl) ?_
        refine gf_32_5 hx hb ht hK hI mw_105 (fun _ h9 => h9) hown dX2_giveBack_26 ?_
        refine lv_iload hx hb dX2_giveBack_29 (lv_at hl 4 rfl) ?_
        obtain ⟨g4, hm⟩ := gb_some hm
        refine ld_38 hx hb hK hI g4 (v := σ 38 (ix v4)) rfl dX2_giveBack_31 ?_
        refine lv_iadd hx hb dX2_giveBack_32 ?_
        obtain ⟨g5, hm⟩ := gb_some hm
        refine ld_34 hx hb hK hI g5 (v := σ 34 (ix (u1 + (σ 38 (ix v4))))) rfl dX2_giveBack_33 ?_
        refine lv_iload_n hx hb dX2_giveBack_34 rfl (lv_at hl 2 rfl) ?_
        refine lv_icmp_ge (tgt := 46) hx hb dX2_giveBack_35 (by decide) (fun c6 => ?_) (fun c6 => ?_)
        · have hm := (if_pos c6).symm.trans hm
          refine lv_iinc (v := v4 + 1) (lv' := [(4, .int (v4 + 1)), (0, .ref (ga g 32)), (1, .int u1), (2, .int u2), (3, .int u3)]) hx hb dX2_giveBack_46 hl (k := 4) rfl (congrArg (fun z => v4 + z) (show Int32.ofInt 1 = 1 by decide)) (by decide) rfl (fun ls hl => ?_)
          refine lv_goto (tgt := 3) hx hb dX2_giveBack_49 (by decide) ?_
          exact ih σ (v4 + 1) _ _ _ hm hI (lv_sub hl [1, 2, 3, 4, 0] rfl) hx52
        · have hm := (if_neg c6).symm.trans hm
          refine lv_aload_n hx hb dX2_giveBack_38 rfl (lv_at hl 0 rfl) ?_
          refine gf_32_5 hx hb ht hK hI mw_105 (fun _ h9 => h9) hown dX2_giveBack_39 ?_
          refine lv_iload hx hb dX2_giveBack_42 (lv_at hl 4 rfl) ?_
          refine lv_iconst (v := (-1)) hx hb dX2_giveBack_44 (by decide) ?_
          obtain ⟨g7, hm⟩ := gb_some hm
          refine sv_38 hx hb hK hI g7 dX2_giveBack_45 (fun H locs hI => ?_)
          refine lv_iinc (v := v4 + 1) (lv' := [(4, .int (v4 + 1)), (0, .ref (ga g 32)), (1, .int u1), (2, .int u2), (3, .int u3)]) hx hb dX2_giveBack_46 hl (k := 4) rfl (congrArg (fun z => v4 + z) (show Int32.ofInt 1 = 1 by decide)) (by decide) rfl (fun ls hl => ?_)
          refine lv_goto (tgt := 3) hx hb dX2_giveBack_49 (by decide) ?_
          exact ih (sg σ 38 (ix v4) (-1)) (v4 + 1) _ _ _ hm hI (lv_sub hl [1, 2, 3, 4, 0] rfl) hx52
set_option maxHeartbeats 4000000 in
set_option maxRecDepth 100000 in
theorem c_X2_giveBack {l : Launch} {g : GG} {q : Nat} (N n : Nat) {σ : Sg} {p0 : Int32} {p1 : Int32} {p2 : Int32} {r : Int32} {σ' : Sg} (hm : f_X2_giveBack N n σ p0 p1 p2 = some (r, σ')) : CTv l yX2_giveBack cX2_giveBack 5 none 0 0 g q n [.ref (ga g 32), .int p0, .int p1, .int p2] σ σ' := by
  refine e_v (r := r) (by decide) (Nat.le_of_ble_eq_true rfl) ?_
  intro p e s m args below meth c A Q ls hC hl hI
  obtain ⟨hX, hK, hN, hZ, hA, hR⟩ := id hC
  have hx : p.tables.exec = Jvm.exec := hX.1
  have hb : c.code = cX2_giveBack := hX.2.1
  have hml : c.maxLocals = 5 := hX.2.2.1
  have hown : s.vm.findClass RX2 = some m.cls := hX.2.2.2.1
  have ht : ∀ w ∈ BIG, w.before args s = true := hX.2.2.2.2
  have hl : lv_has ls 5 [(0, .ref (ga g 32)), (1, .int p0), (2, .int p1), (3, .int p2)] := hl
  unfold f_X2_giveBack at hm
  refine lv_iconst (v := 0) hx hb dX2_giveBack_0 (by decide) ?_
  refine lv_istore (lv' := [(4, .int 0), (0, .ref (ga g 32)), (1, .int p0), (2, .int p1), (3, .int p2)]) hx hb dX2_giveBack_1 hl (by decide) rfl (fun ls hl => ?_)
  refine lp_X2_giveBack_3 hC N _ _ _ _ _ hm hI (lv_sub hl [1, 2, 3, 4, 0] rfl) ?_
  intro σ8 w9 H locs ls hm hI hl
  exact hR _ _ _ _ _ hm hI dX2_giveBack_52
def lb_X2_longestWith_6 (N n : Nat) (u1 : Int32) (u3 : Int32) (K69 : (Sg → Int32 → Int32 → Option (Int32 × Sg))) (rec : (Sg → Int32 → Int32 → Option (Int32 × Sg))) (σ : Sg) (v4 : Int32) (v5 : Int32) : Option (Int32 × Sg) := if u3 ≤ v5 then (K69 σ v4 v5) else (gb v5 16 (gb (u1 + (σ 38 (ix v5))) 264 (gb (u1 + v4) 264 (if 0 < ((σ 34 (ix (u1 + (σ 38 (ix v5))))) - (σ 34 (ix (u1 + v4)))) then (rec σ (σ 38 (ix v5)) (v5 + 1)) else (if ((σ 34 (ix (u1 + (σ 38 (ix v5))))) - (σ 34 (ix (u1 + v4)))) = 0 then (if (σ 38 (ix v5)) ≤ v4 then (rec σ v4 (v5 + 1)) else (rec σ (σ 38 (ix v5)) (v5 + 1))) else (rec σ v4 (v5 + 1)))))))
def lf_X2_longestWith_6 (N n : Nat) (u1 : Int32) (u3 : Int32) (K69 : (Sg → Int32 → Int32 → Option (Int32 × Sg))) : Nat → (Sg → Int32 → Int32 → Option (Int32 × Sg))
  | 0 => fun _ _ _ => none
  | k + 1 => lb_X2_longestWith_6 N n u1 u3 K69 (lf_X2_longestWith_6 N n u1 u3 K69 k)
def f_X2_longestWith (N n : Nat) (σ : Sg) (p0 : Int32) (p1 : Int32) (p2 : Int32) : Option (Int32 × Sg) := lf_X2_longestWith_6 N n p0 p2 (fun σ8 w9 w10 => some (w9, σ8)) N σ p1 0
set_option maxHeartbeats 4000000 in
set_option maxRecDepth 100000 in
theorem lp_X2_longestWith_6 {p : Program} {l : Launch} {e : Env} {s : State} {m : MethodId} {args : Array Value} {below : List Frame} {meth : Method} {c : Code} {Q : State → Prop} {A : Nat → Prop} {g : GG} {q N n : Nat} {out : Int32 × Sg} {u1 : Int32} {u3 : Int32} {K69 : (Sg → Int32 → Int32 → Option (Int32 × Sg))}
    (hC : CXi p l e (qR 0 0) s m args below meth c cX2_longestWith 8 RX2 g q n A Q (some out)) :
    ∀ (k : Nat) (σ : Sg) (v4 : Int32) (v5 : Int32) (H : Heap) (locs : List Loc) (ls : Array Slot), lf_X2_longestWith_6 N n u1 u3 K69 k σ v4 v5 = some out → wI g q n σ A s.heap H locs → lv_has ls 8 [(0, .ref (ga g 32)), (1, .int u1), (3, .int u3), (4, .int v4), (5, .int v5)] → (∀ (σ : Sg) (v4 : Int32) (v5 : Int32) (H : Heap) (locs : List Loc) (ls : Array Slot), K69 σ v4 v5 = some out → wI g q n σ A s.heap H locs → lv_has ls 8 [(4, .int v4)] → W p l e (qR 0 0) s m args below meth c H locs 0 0 Q (F0 m 69 ls [])) → W p l e (qR 0 0) s m args below meth c H locs 0 0 Q (F0 m 6 ls []) := by
  obtain ⟨hX, hK, hN, hZ, hA, hR⟩ := id hC
  have hx : p.tables.exec = Jvm.exec := hX.1
  have hb : c.code = cX2_longestWith := hX.2.1
  have hml : c.maxLocals = 8 := hX.2.2.1
  have hown : s.vm.findClass RX2 = some m.cls := hX.2.2.2.1
  have ht : ∀ w ∈ BIG, w.before args s = true := hX.2.2.2.2
  intro k
  induction k with
  | zero =>
    intro σ v4 v5 H locs ls hm
    have hm : none = some out := hm
    exact nomatch hm
  | succ k ih =>
    intro σ v4 v5 H locs ls hm hI hl hx69
    have hm : lb_X2_longestWith_6 N n u1 u3 K69 (lf_X2_longestWith_6 N n u1 u3 K69 k) σ v4 v5 = some out := hm
    unfold lb_X2_longestWith_6 at hm
    refine lv_iload hx hb dX2_longestWith_6 (lv_at hl 4 rfl) ?_
    refine lv_iload_n hx hb dX2_longestWith_8 rfl (lv_at hl 2 rfl) ?_
    refine lv_icmp_ge (tgt := 69) hx hb dX2_longestWith_9 (by decide) (fun c1 => ?_) (fun c1 => ?_)
    · have hm := (if_pos c1).symm.trans hm
      exact hx69 σ v4 v5 _ _ _ hm hI (lv_sub hl [3] rfl)
    · have hm := (if_neg c1).symm.trans hm
      refine lv_aload_n hx hb dX2_longestWith_12 rfl (lv_at hl 0 rfl) ?_
      refine gf_32_5 hx hb ht hK hI mw_105 (fun _ h9 => h9) hown dX2_longestWith_13 ?_
      refine lv_iload hx hb dX2_longestWith_16 (lv_at hl 4 rfl) ?_
      obtain ⟨g2, hm⟩ := gb_some hm
      refine ld_38 hx hb hK hI g2 (v := σ 38 (ix v5)) rfl dX2_longestWith_18 ?_
      refine lv_istore (lv' := [(6, .int (σ 38 (ix v5))), (0, .ref (ga g 32)), (1, .int u1), (3, .int u3), (4, .int v4), (5, .int v5)]) hx hb dX2_longestWith_19 hl (by decide) rfl (fun ls hl => ?_)
      refine lv_aload_n hx hb dX2_longestWith_21 rfl (lv_at hl 1 rfl) ?_
      refine gf_32_1 hx hb ht hK hI mw_101 (fun _ h9 => h9) hown dX2_longestWith_22 ?_
      refine lv_iload_n hx hb dX2_longestWith_25 rfl (lv_at hl 2 rfl) ?_
      refine lv_iload hx hb dX2_longestWith_26 (lv_at hl 0 rfl) ?_
      refine lv_iadd hx hb dX2_longestWith_28 ?_
      obtain ⟨g3, hm⟩ := gb_some hm
      refine ld_34 hx hb hK hI g3 (v := σ 34 (ix (u1 + (σ 38 (ix v5))))) rfl dX2_longestWith_29 ?_
      refine lv_aload_n hx hb dX2_longestWith_30 rfl (lv_at hl 1 rfl) ?_
      refine gf_32_1 hx hb ht hK hI mw_101 (fun _ h9 => h9) hown dX2_longestWith_31 ?_
      refine lv_iload_n hx hb dX2_longestWith_34 rfl (lv_at hl 2 rfl) ?_
      refine lv_iload hx hb dX2_longestWith_35 (lv_at hl 4 rfl) ?_
      refine lv_iadd hx hb dX2_longestWith_37 ?_
      obtain ⟨g4, hm⟩ := gb_some hm
      refine ld_34 hx hb hK hI g4 (v := σ 34 (ix (u1 + v4))) rfl dX2_longestWith_38 ?_
      refine lv_isub hx hb dX2_longestWith_39 ?_
      refine lv_istore (lv' := [(7, .int ((σ 34 (ix (u1 + (σ 38 (ix v5))))) - (σ 34 (ix (u1 + v4))))), (6, .int (σ 38 (ix v5))), (0, .ref (ga g 32)), (1, .int u1), (3, .int u3), (4, .int v4), (5, .int v5)]) hx hb dX2_longestWith_40 hl (by decide) rfl (fun ls hl => ?_)
      refine lv_iload hx hb dX2_longestWith_42 (lv_at hl 0 rfl) ?_
      refine lv_if_gt (tgt := 59) hx hb dX2_longestWith_44 (by decide) (fun c5 => ?_) (fun c5 => ?_)
      · have hm := (if_pos c5).symm.trans hm
        refine lv_iload hx hb dX2_longestWith_59 (lv_at hl 1 rfl) ?_
        refine lv_istore (lv' := [(4, .int (σ 38 (ix v5))), (7, .int ((σ 34 (ix (u1 + (σ 38 (ix v5))))) - (σ 34 (ix (u1 + v4))))), (6, .int (σ 38 (ix v5))), (0, .ref (ga g 32)), (1, .int u1), (3, .int u3), (5, .int v5)]) hx hb dX2_longestWith_61 hl (by decide) rfl (fun ls hl => ?_)
        refine lv_iinc (v := v5 + 1) (lv' := [(5, .int (v5 + 1)), (4, .int (σ 38 (ix v5))), (7, .int ((σ 34 (ix (u1 + (σ 38 (ix v5))))) - (σ 34 (ix (u1 + v4))))), (6, .int (σ 38 (ix v5))), (0, .ref (ga g 32)), (1, .int u1), (3, .int u3)]) hx hb dX2_longestWith_63 hl (k := 6) rfl (congrArg (fun z => v5 + z) (show Int32.ofInt 1 = 1 by decide)) (by decide) rfl (fun ls hl => ?_)
        refine lv_goto (tgt := 6) hx hb dX2_longestWith_66 (by decide) ?_
        exact ih σ (σ 38 (ix v5)) (v5 + 1) _ _ _ hm hI (lv_sub hl [4, 5, 6, 1, 0] rfl) hx69
      · have hm := (if_neg c5).symm.trans hm
        refine lv_iload hx hb dX2_longestWith_47 (lv_at hl 0 rfl) ?_
        refine lv_if_ne (tgt := 63) hx hb dX2_longestWith_49 (by decide) (fun c6 => ?_) (fun c6 => ?_)
        · have hm := (if_neg c6).symm.trans hm
          refine lv_iinc (v := v5 + 1) (lv' := [(5, .int (v5 + 1)), (7, .int ((σ 34 (ix (u1 + (σ 38 (ix v5))))) - (σ 34 (ix (u1 + v4))))), (6, .int (σ 38 (ix v5))), (0, .ref (ga g 32)), (1, .int u1), (3, .int u3), (4, .int v4)]) hx hb dX2_longestWith_63 hl (k := 6) rfl (congrArg (fun z => v5 + z) (show Int32.ofInt 1 = 1 by decide)) (by decide) rfl (fun ls hl => ?_)
          refine lv_goto (tgt := 6) hx hb dX2_longestWith_66 (by decide) ?_
          exact ih σ v4 (v5 + 1) _ _ _ hm hI (lv_sub hl [3, 4, 5, 6, 0] rfl) hx69
        · have hm := (if_pos c6).symm.trans hm
          refine lv_iload hx hb dX2_longestWith_52 (lv_at hl 1 rfl) ?_
          refine lv_iload hx hb dX2_longestWith_54 (lv_at hl 5 rfl) ?_
          refine lv_icmp_le (tgt := 63) hx hb dX2_longestWith_56 (by decide) (fun c7 => ?_) (fun c7 => ?_)
          · have hm := (if_pos c7).symm.trans hm
            refine lv_iinc (v := v5 + 1) (lv' := [(5, .int (v5 + 1)), (7, .int ((σ 34 (ix (u1 + (σ 38 (ix v5))))) - (σ 34 (ix (u1 + v4))))), (6, .int (σ 38 (ix v5))), (0, .ref (ga g 32)), (1, .int u1), (3, .int u3), (4, .int v4)]) hx hb dX2_longestWith_63 hl (k := 6) rfl (congrArg (fun z => v5 + z) (show Int32.ofInt 1 = 1 by decide)) (by decide) rfl (fun ls hl => ?_)
            refine lv_goto (tgt := 6) hx hb dX2_longestWith_66 (by decide) ?_
            exact ih σ v4 (v5 + 1) _ _ _ hm hI (lv_sub hl [3, 4, 5, 6, 0] rfl) hx69
          · have hm := (if_neg c7).symm.trans hm
            refine lv_iload hx hb dX2_longestWith_59 (lv_at hl 1 rfl) ?_
            refine lv_istore (lv' := [(4, .int (σ 38 (ix v5))), (7, .int ((σ 34 (ix (u1 + (σ 38 (ix v5))))) - (σ 34 (ix (u1 + v4))))), (6, .int (σ 38 (ix v5))), (0, .ref (ga g 32)), (1, .int u1), (3, .int u3), (5, .int v5)]) hx hb dX2_longestWith_61 hl (by decide) rfl (fun ls hl => ?_)
            refine lv_iinc (v := v5 + 1) (lv' := [(5, .int (v5 + 1)), (4, .int (σ 38 (ix v5))), (7, .int ((σ 34 (ix (u1 + (σ 38 (ix v5))))) - (σ 34 (ix (u1 + v4))))), (6, .int (σ 38 (ix v5))), (0, .ref (ga g 32)), (1, .int u1), (3, .int u3)]) hx hb dX2_longestWith_63 hl (k := 6) rfl (congrArg (fun z => v5 + z) (show Int32.ofInt 1 = 1 by decide)) (by decide) rfl (fun ls hl => ?_)
            refine lv_goto (tgt := 6) hx hb dX2_longestWith_66 (by decide) ?_
            exact ih σ (σ 38 (ix v5)) (v5 + 1) _ _ _ hm hI (lv_sub hl [4, 5, 6, 1, 0] rfl) hx69
set_option maxHeartbeats 4000000 in
set_option maxRecDepth 100000 in
theorem c_X2_longestWith {l : Launch} {g : GG} {q : Nat} (N n : Nat) {σ : Sg} {p0 : Int32} {p1 : Int32} {p2 : Int32} {r : Int32} {σ' : Sg} (hm : f_X2_longestWith N n σ p0 p1 p2 = some (r, σ')) : CTi l yX2_longestWith cX2_longestWith 8 (some .int) 0 0 g q n [.ref (ga g 32), .int p0, .int p1, .int p2] σ r σ' := by
  refine e_i (r := r) (by decide) (Nat.le_of_ble_eq_true rfl) ?_
  intro p e s m args below meth c A Q ls hC hl hI
  obtain ⟨hX, hK, hN, hZ, hA, hR⟩ := id hC
  have hx : p.tables.exec = Jvm.exec := hX.1
  have hb : c.code = cX2_longestWith := hX.2.1
  have hml : c.maxLocals = 8 := hX.2.2.1
  have hown : s.vm.findClass RX2 = some m.cls := hX.2.2.2.1
  have ht : ∀ w ∈ BIG, w.before args s = true := hX.2.2.2.2
  have hl : lv_has ls 8 [(0, .ref (ga g 32)), (1, .int p0), (2, .int p1), (3, .int p2)] := hl
  unfold f_X2_longestWith at hm
  refine lv_iload_n hx hb dX2_longestWith_0 rfl (lv_at hl 2 rfl) ?_
  refine lv_istore (lv' := [(4, .int p1), (0, .ref (ga g 32)), (1, .int p0), (2, .int p1), (3, .int p2)]) hx hb dX2_longestWith_1 hl (by decide) rfl (fun ls hl => ?_)
  refine lv_iconst (v := 0) hx hb dX2_longestWith_3 (by decide) ?_
  refine lv_istore (lv' := [(5, .int 0), (4, .int p1), (0, .ref (ga g 32)), (1, .int p0), (2, .int p1), (3, .int p2)]) hx hb dX2_longestWith_4 hl (by decide) rfl (fun ls hl => ?_)
  refine lp_X2_longestWith_6 hC N _ _ _ _ _ _ hm hI (lv_sub hl [2, 3, 5, 1, 0] rfl) ?_
  intro σ8 w9 w10 H locs ls hm hI hl
  refine lv_iload hx hb dX2_longestWith_69 (lv_at hl 0 rfl) ?_
  exact hR _ _ _ _ _ _ hm hI dX2_longestWith_71
def lb_X2_giveOne_25 (N n : Nat) (u1 : Int32) (u2 : Int32) (u3 : Int32) (u4 : Int32) (K68 : (Sg → Int32 → Option (Int32 × Sg))) (rec : (Sg → Int32 → Option (Int32 × Sg))) (σ : Sg) (v5 : Int32) : Option (Int32 × Sg) := if u3 ≤ v5 then (K68 σ v5) else (gb v5 16 (if (σ 38 (ix v5)) = (-1) then (gb v5 16 (gb (u4 + u2) 264 (some (0, sg (sg σ 38 (ix v5) u2) 35 (ix (u4 + u2)) v5)))) else (rec σ (v5 + 1))))
def lf_X2_giveOne_25 (N n : Nat) (u1 : Int32) (u2 : Int32) (u3 : Int32) (u4 : Int32) (K68 : (Sg → Int32 → Option (Int32 × Sg))) : Nat → (Sg → Int32 → Option (Int32 × Sg))
  | 0 => fun _ _ => none
  | k + 1 => lb_X2_giveOne_25 N n u1 u2 u3 u4 K68 (lf_X2_giveOne_25 N n u1 u2 u3 u4 K68 k)
def f_X2_giveOne (N n : Nat) (σ : Sg) (p0 : Int32) (p1 : Int32) (p2 : Int32) : Option (Int32 × Sg) := gb ((p0 * 22) + p1) 264 (bd (f_X2_giveBack N n σ (p0 * 22) (σ 33 (ix ((p0 * 22) + p1))) p2) (fun r2 σ3 => lf_X2_giveOne_25 N n p0 p1 p2 (p0 * 22) (fun σ10 w11 => bd (f_X2_longestWith N n σ10 (p0 * 22) p1 p2) (fun r12 σ13 => gb p0 12 (gb ((p0 * 22) + r12) 264 (gb p0 12 (gb p0 12 (if r12 = p1 then (some (0, sg (sg σ13 36 (ix ((p0 * 22) + r12)) (σ13 37 (ix p0))) 37 (ix p0) ((σ13 37 (ix p0)) + 1))) else (gb ((p0 * 22) + r12) 264 (gb ((p0 * 22) + r12) 264 (gb ((p0 * 22) + p1) 264 (gb (σ13 35 (ix ((p0 * 22) + r12))) 16 (some (0, sg (sg (sg (sg (sg σ13 36 (ix ((p0 * 22) + r12)) (σ13 37 (ix p0))) 37 (ix p0) ((σ13 37 (ix p0)) + 1)) 35 (ix ((p0 * 22) + r12)) (-1)) 35 (ix ((p0 * 22) + p1)) (σ13 35 (ix ((p0 * 22) + r12)))) 38 (ix (σ13 35 (ix ((p0 * 22) + r12)))) p1)))))))))))) N σ3 0))
set_option maxHeartbeats 4000000 in
set_option maxRecDepth 100000 in
theorem lp_X2_giveOne_25 {p : Program} {l : Launch} {e : Env} {s : State} {m : MethodId} {args : Array Value} {below : List Frame} {meth : Method} {c : Code} {Q : State → Prop} {A : Nat → Prop} {g : GG} {q N n : Nat} {out : Int32 × Sg} {u1 : Int32} {u2 : Int32} {u3 : Int32} {u4 : Int32} {K68 : (Sg → Int32 → Option (Int32 × Sg))}
    (hC : CXv p l e (qR 1 27) s m args below meth c cX2_giveOne 7 RX2 g q n A Q (some out)) :
    ∀ (k : Nat) (σ : Sg) (v5 : Int32) (H : Heap) (locs : List Loc) (ls : Array Slot), lf_X2_giveOne_25 N n u1 u2 u3 u4 K68 k σ v5 = some out → wI g q n σ A s.heap H locs → lv_has ls 7 [(0, .ref (ga g 32)), (1, .int u1), (2, .int u2), (3, .int u3), (4, .int u4), (5, .int v5)] → (∀ (σ : Sg) (v5 : Int32) (H : Heap) (locs : List Loc) (ls : Array Slot), K68 σ v5 = some out → wI g q n σ A s.heap H locs → lv_has ls 7 [(0, .ref (ga g 32)), (1, .int u1), (2, .int u2), (3, .int u3), (4, .int u4)] → W p l e (qR 1 27) s m args below meth c H locs 0 0 Q (F0 m 68 ls [])) → W p l e (qR 1 27) s m args below meth c H locs 0 0 Q (F0 m 25 ls []) := by
  obtain ⟨hX, hK, hN, hZ, hA, hR⟩ := id hC
  have hx : p.tables.exec = Jvm.exec := hX.1
  have hb : c.code = cX2_giveOne := hX.2.1
  have hml : c.maxLocals = 7 := hX.2.2.1
  have hown : s.vm.findClass RX2 = some m.cls := hX.2.2.2.1
  have ht : ∀ w ∈ BIG, w.before args s = true := hX.2.2.2.2
  intro k
  induction k with
  | zero =>
    intro σ v5 H locs ls hm
    have hm : none = some out := hm
    exact nomatch hm
  | succ k ih =>
    intro σ v5 H locs ls hm hI hl hx68
    have hm : lb_X2_giveOne_25 N n u1 u2 u3 u4 K68 (lf_X2_giveOne_25 N n u1 u2 u3 u4 K68 k) σ v5 = some out := hm
    unfold lb_X2_giveOne_25 at hm
    refine lv_iload hx hb dX2_giveOne_25 (lv_at hl 5 rfl) ?_
    refine lv_iload_n hx hb dX2_giveOne_27 rfl (lv_at hl 3 rfl) ?_
    refine lv_icmp_ge (tgt := 68) hx hb dX2_giveOne_28 (by decide) (fun c5 => ?_) (fun c5 => ?_)
    · have hm := (if_pos c5).symm.trans hm
      exact hx68 σ v5 _ _ _ hm hI (lv_sub hl [0, 1, 2, 3, 4] rfl)
    · have hm := (if_neg c5).symm.trans hm
      refine lv_aload_n hx hb dX2_giveOne_31 rfl (lv_at hl 0 rfl) ?_
      refine gf_32_5 hx hb ht hK hI mw_105 (fun _ h9 => h9) hown dX2_giveOne_32 ?_
      refine lv_iload hx hb dX2_giveOne_35 (lv_at hl 5 rfl) ?_
      obtain ⟨g6, hm⟩ := gb_some hm
      refine ld_38 hx hb hK hI g6 (v := σ 38 (ix v5)) rfl dX2_giveOne_37 ?_
      refine lv_iconst (v := (-1)) hx hb dX2_giveOne_38 (by decide) ?_
      refine lv_icmp_ne (tgt := 62) hx hb dX2_giveOne_39 (by decide) (fun c7 => ?_) (fun c7 => ?_)
      · have hm := (if_neg c7).symm.trans hm
        refine lv_iinc (v := v5 + 1) (lv' := [(5, .int (v5 + 1)), (0, .ref (ga g 32)), (1, .int u1), (2, .int u2), (3, .int u3), (4, .int u4)]) hx hb dX2_giveOne_62 hl (k := 5) rfl (congrArg (fun z => v5 + z) (show Int32.ofInt 1 = 1 by decide)) (by decide) rfl (fun ls hl => ?_)
        refine lv_goto (tgt := 25) hx hb dX2_giveOne_65 (by decide) ?_
        exact ih σ (v5 + 1) _ _ _ hm hI (lv_sub hl [1, 2, 3, 4, 5, 0] rfl) hx68
      · have hm := (if_pos c7).symm.trans hm
        refine lv_aload_n hx hb dX2_giveOne_42 rfl (lv_at hl 0 rfl) ?_
        refine gf_32_5 hx hb ht hK hI mw_105 (fun _ h9 => h9) hown dX2_giveOne_43 ?_
        refine lv_iload hx hb dX2_giveOne_46 (lv_at hl 5 rfl) ?_
        refine lv_iload_n hx hb dX2_giveOne_48 rfl (lv_at hl 2 rfl) ?_
        obtain ⟨g8, hm⟩ := gb_some hm
        refine sv_38 hx hb hK hI g8 dX2_giveOne_49 (fun H locs hI => ?_)
        refine lv_aload_n hx hb dX2_giveOne_50 rfl (lv_at hl 0 rfl) ?_
        refine gf_32_2 hx hb ht hK hI mw_102 (fun _ h9 => h9) hown dX2_giveOne_51 ?_
        refine lv_iload hx hb dX2_giveOne_54 (lv_at hl 4 rfl) ?_
        refine lv_iload_n hx hb dX2_giveOne_56 rfl (lv_at hl 2 rfl) ?_
        refine lv_iadd hx hb dX2_giveOne_57 ?_
        refine lv_iload hx hb dX2_giveOne_58 (lv_at hl 5 rfl) ?_
        obtain ⟨g9, hm⟩ := gb_some hm
        refine sv_35 hx hb hK hI g9 dX2_giveOne_60 (fun H locs hI => ?_)
        exact hR _ _ _ _ _ hm hI dX2_giveOne_61
set_option maxHeartbeats 4000000 in
set_option maxRecDepth 100000 in
theorem c_X2_giveOne {l : Launch} {g : GG} {q : Nat} (N n : Nat) {σ : Sg} {p0 : Int32} {p1 : Int32} {p2 : Int32} {r : Int32} {σ' : Sg} (hm : f_X2_giveOne N n σ p0 p1 p2 = some (r, σ')) : CTv l yX2_giveOne cX2_giveOne 7 none 1 27 g q n [.ref (ga g 32), .int p0, .int p1, .int p2] σ σ' := by
  refine e_v (r := r) (by decide) (Nat.le_of_ble_eq_true rfl) ?_
  intro p e s m args below meth c A Q ls hC hl hI
  obtain ⟨hX, hK, hN, hZ, hA, hR⟩ := id hC
  have hx : p.tables.exec = Jvm.exec := hX.1
  have hb : c.code = cX2_giveOne := hX.2.1
  have hml : c.maxLocals = 7 := hX.2.2.1
  have hown : s.vm.findClass RX2 = some m.cls := hX.2.2.2.1
  have ht : ∀ w ∈ BIG, w.before args s = true := hX.2.2.2.2
  have hl : lv_has ls 7 [(0, .ref (ga g 32)), (1, .int p0), (2, .int p1), (3, .int p2)] := hl
  unfold f_X2_giveOne at hm
  refine lv_iload_n hx hb dX2_giveOne_0 rfl (lv_at hl 1 rfl) ?_
  refine lv_bipush (v := 22) hx hb dX2_giveOne_1 (by decide) ?_
  refine lv_imul hx hb dX2_giveOne_3 ?_
  refine lv_istore (lv' := [(4, .int (p0 * 22)), (0, .ref (ga g 32)), (1, .int p0), (2, .int p1), (3, .int p2)]) hx hb dX2_giveOne_4 hl (by decide) rfl (fun ls hl => ?_)
  refine lv_aload_n hx hb dX2_giveOne_6 rfl (lv_at hl 1 rfl) ?_
  refine lv_iload hx hb dX2_giveOne_7 (lv_at hl 0 rfl) ?_
  refine lv_aload_n hx hb dX2_giveOne_9 rfl (lv_at hl 1 rfl) ?_
  refine gf_32_0 hx hb ht hK hI mw_100 (fun _ h9 => h9) hown dX2_giveOne_10 ?_
  refine lv_iload hx hb dX2_giveOne_13 (lv_at hl 0 rfl) ?_
  refine lv_iload_n hx hb dX2_giveOne_15 rfl (lv_at hl 3 rfl) ?_
  refine lv_iadd hx hb dX2_giveOne_16 ?_
  obtain ⟨g1, hm⟩ := gb_some hm
  refine ld_33 hx hb hK hI g1 (v := σ 33 (ix ((p0 * 22) + p1))) rfl dX2_giveOne_17 ?_
  refine lv_iload_n hx hb dX2_giveOne_18 rfl (lv_at hl 4 rfl) ?_
  obtain ⟨r2, σ3, h4, hm⟩ := bd_some hm
  refine k_v hI hA (va_runV (As := [.int (p0 * 22), .int (σ 33 (ix ((p0 * 22) + p1))), .int p2]) (rest := []) hX (c_X2_giveBack N n h4 _) (cwV 3 ht (in_V mw_143 mw_144 mw_145 mw_146 mw_140) rfl rfl rfl pd_X2_giveBack ⟨Nat.le_of_ble_eq_true rfl, Nat.le_of_ble_eq_true rfl⟩) ⟨q_blind, va_recv hK hI.1 (ci := 2) (q0 := 32) rfl rfl, q_to hI hK hN hZ hA⟩ rfl rfl hl.1 rfl (lv_room (Nat.le_of_ble_eq_true rfl)) dX2_giveOne_19 (by decide)) (fun H locs hI => ?_)
  refine lv_iconst (v := 0) hx hb dX2_giveOne_22 (by decide) ?_
  refine lv_istore (lv' := [(5, .int 0), (4, .int (p0 * 22)), (0, .ref (ga g 32)), (1, .int p0), (2, .int p1), (3, .int p2)]) hx hb dX2_giveOne_23 hl (by decide) rfl (fun ls hl => ?_)
  refine lp_X2_giveOne_25 hC N _ _ _ _ _ hm hI (lv_sub hl [2, 3, 4, 5, 1, 0] rfl) ?_
  intro σ10 w11 H locs ls hm hI hl
  refine lv_aload_n hx hb dX2_giveOne_68 rfl (lv_at hl 0 rfl) ?_
  refine lv_iload hx hb dX2_giveOne_69 (lv_at hl 4 rfl) ?_
  refine lv_iload_n hx hb dX2_giveOne_71 rfl (lv_at hl 2 rfl) ?_
  refine lv_iload_n hx hb dX2_giveOne_72 rfl (lv_at hl 3 rfl) ?_
  obtain ⟨r12, σ13, h14, hm⟩ := bd_some hm
  refine k_i hI hA (va_runV (As := [.int (p0 * 22), .int p1, .int p2]) (rest := []) hX (c_X2_longestWith N n h14 _) (cwV 3 ht (in_V mw_147 mw_148 mw_149 mw_146 mw_141) rfl rfl rfl pd_X2_longestWith ⟨Nat.le_of_ble_eq_true rfl, Nat.le_of_ble_eq_true rfl⟩) ⟨q_blind, va_recv hK hI.1 (ci := 2) (q0 := 32) rfl rfl, q_to hI hK hN hZ hA⟩ rfl rfl hl.1 rfl (lv_room (Nat.le_of_ble_eq_true rfl)) dX2_giveOne_73 (by decide)) (fun H locs hI => ?_)
  refine lv_istore (lv' := [(5, .int r12), (0, .ref (ga g 32)), (1, .int p0), (2, .int p1), (3, .int p2), (4, .int (p0 * 22))]) hx hb dX2_giveOne_76 hl (by decide) rfl (fun ls hl => ?_)
  refine lv_aload_n hx hb dX2_giveOne_78 rfl (lv_at hl 1 rfl) ?_
  refine gf_32_3 hx hb ht hK hI mw_103 (fun _ h9 => h9) hown dX2_giveOne_79 ?_
  refine lv_iload hx hb dX2_giveOne_82 (lv_at hl 5 rfl) ?_
  refine lv_iload hx hb dX2_giveOne_84 (lv_at hl 0 rfl) ?_
  refine lv_iadd hx hb dX2_giveOne_86 ?_
  refine lv_aload_n hx hb dX2_giveOne_87 rfl (lv_at hl 1 rfl) ?_
  refine gf_32_4 hx hb ht hK hI mw_104 (fun _ h9 => h9) hown dX2_giveOne_88 ?_
  refine lv_iload_n hx hb dX2_giveOne_91 rfl (lv_at hl 2 rfl) ?_
  obtain ⟨g15, hm⟩ := gb_some hm
  refine ld_37 hx hb hK hI g15 (v := σ13 37 (ix p0)) rfl dX2_giveOne_92 ?_
  obtain ⟨g16, hm⟩ := gb_some hm
  refine sv_36 hx hb hK hI g16 dX2_giveOne_93 (fun H locs hI => ?_)
  refine lv_aload_n hx hb dX2_giveOne_94 rfl (lv_at hl 1 rfl) ?_
  refine gf_32_4 hx hb ht hK hI mw_104 (fun _ h9 => h9) hown dX2_giveOne_95 ?_
  refine lv_iload_n hx hb dX2_giveOne_98 rfl (lv_at hl 2 rfl) ?_
  refine lv_dup2_11 hx hb dX2_giveOne_99 rfl rfl ?_
  obtain ⟨g17, hm⟩ := gb_some hm
  refine ld_37 hx hb hK hI g17 (v := σ13 37 (ix p0)) rfl dX2_giveOne_100 ?_
  refine lv_iconst (v := 1) hx hb dX2_giveOne_101 (by decide) ?_
  refine lv_iadd hx hb dX2_giveOne_102 ?_
  obtain ⟨g18, hm⟩ := gb_some hm
  refine sv_37 hx hb hK hI g18 dX2_giveOne_103 (fun H locs hI => ?_)
  refine lv_iload hx hb dX2_giveOne_104 (lv_at hl 0 rfl) ?_
  refine lv_iload_n hx hb dX2_giveOne_106 rfl (lv_at hl 3 rfl) ?_
  refine lv_icmp_eq (tgt := 152) hx hb dX2_giveOne_107 (by decide) (fun c19 => ?_) (fun c19 => ?_)
  · have hm := (if_pos c19).symm.trans hm
    exact hR _ _ _ _ _ hm hI dX2_giveOne_152
  · have hm := (if_neg c19).symm.trans hm
    refine lv_aload_n hx hb dX2_giveOne_110 rfl (lv_at hl 1 rfl) ?_
    refine gf_32_2 hx hb ht hK hI mw_102 (fun _ h9 => h9) hown dX2_giveOne_111 ?_
    refine lv_iload hx hb dX2_giveOne_114 (lv_at hl 5 rfl) ?_
    refine lv_iload hx hb dX2_giveOne_116 (lv_at hl 0 rfl) ?_
    refine lv_iadd hx hb dX2_giveOne_118 ?_
    obtain ⟨g20, hm⟩ := gb_some hm
    refine ld_35 hx hb hK hI g20 (v := σ13 35 (ix ((p0 * 22) + r12))) rfl dX2_giveOne_119 ?_
    refine lv_istore (lv' := [(6, .int (σ13 35 (ix ((p0 * 22) + r12)))), (5, .int r12), (0, .ref (ga g 32)), (1, .int p0), (2, .int p1), (3, .int p2), (4, .int (p0 * 22))]) hx hb dX2_giveOne_120 hl (by decide) rfl (fun ls hl => ?_)
    refine lv_aload_n hx hb dX2_giveOne_122 rfl (lv_at hl 2 rfl) ?_
    refine gf_32_2 hx hb ht hK hI mw_102 (fun _ h9 => h9) hown dX2_giveOne_123 ?_
    refine lv_iload hx hb dX2_giveOne_126 (lv_at hl 6 rfl) ?_
    refine lv_iload hx hb dX2_giveOne_128 (lv_at hl 1 rfl) ?_
    refine lv_iadd hx hb dX2_giveOne_130 ?_
    refine lv_iconst (v := (-1)) hx hb dX2_giveOne_131 (by decide) ?_
    obtain ⟨g21, hm⟩ := gb_some hm
    refine sv_35 hx hb hK hI g21 dX2_giveOne_132 (fun H locs hI => ?_)
    refine lv_aload_n hx hb dX2_giveOne_133 rfl (lv_at hl 2 rfl) ?_
    refine gf_32_2 hx hb ht hK hI mw_102 (fun _ h9 => h9) hown dX2_giveOne_134 ?_
    refine lv_iload hx hb dX2_giveOne_137 (lv_at hl 6 rfl) ?_
    refine lv_iload_n hx hb dX2_giveOne_139 rfl (lv_at hl 4 rfl) ?_
    refine lv_iadd hx hb dX2_giveOne_140 ?_
    refine lv_iload hx hb dX2_giveOne_141 (lv_at hl 0 rfl) ?_
    obtain ⟨g22, hm⟩ := gb_some hm
    refine sv_35 hx hb hK hI g22 dX2_giveOne_143 (fun H locs hI => ?_)
    refine lv_aload_n hx hb dX2_giveOne_144 rfl (lv_at hl 2 rfl) ?_
    refine gf_32_5 hx hb ht hK hI mw_105 (fun _ h9 => h9) hown dX2_giveOne_145 ?_
    refine lv_iload hx hb dX2_giveOne_148 (lv_at hl 0 rfl) ?_
    refine lv_iload_n hx hb dX2_giveOne_150 rfl (lv_at hl 4 rfl) ?_
    obtain ⟨g23, hm⟩ := gb_some hm
    refine sv_38 hx hb hK hI g23 dX2_giveOne_151 (fun H locs hI => ?_)
    exact hR _ _ _ _ _ hm hI dX2_giveOne_152
def lb_X2_give_22 (N n : Nat) (u1 : Int32) (u4 : Int32) (u5 : Int32) (K66 : (Sg → Int32 → Option (Int32 × Sg))) (rec : (Sg → Int32 → Option (Int32 × Sg))) (σ : Sg) (v6 : Int32) : Option (Int32 × Sg) := if (σ 13 6) ≤ v6 then (K66 σ v6) else (gb v6 300 (bd (f_X5_readSet N n σ v6) (fun r7 σ8 => bd (f_X5_writtenSet N n σ8 v6) (fun r10 σ11 => bd (f_X2_widen N n σ11 u5 v6 (((σ 30 (ix v6)) ||| r7) ||| r10)) (fun r13 σ14 => rec σ14 (v6 + 1))))))
def lf_X2_give_22 (N n : Nat) (u1 : Int32) (u4 : Int32) (u5 : Int32) (K66 : (Sg → Int32 → Option (Int32 × Sg))) : Nat → (Sg → Int32 → Option (Int32 × Sg))
  | 0 => fun _ _ => none
  | k + 1 => lb_X2_give_22 N n u1 u4 u5 K66 (lf_X2_give_22 N n u1 u4 u5 K66 k)
def lb_X2_give_81 (N n : Nat) (u1 : Int32) (u4 : Int32) (u5 : Int32) (u6 : Int32) (K118 : (Sg → Int32 → Option (Int32 × Sg))) (rec : (Sg → Int32 → Option (Int32 × Sg))) (σ : Sg) (v7 : Int32) : Option (Int32 × Sg) := if 22 ≤ v7 then (K118 σ v7) else (gb (u5 + v7) 264 (if (σ 33 (ix (u5 + v7))) = u6 then (bd (f_X2_giveOne N n σ u1 v7 u4) (fun r22 σ23 => rec σ23 (v7 + 1))) else (rec σ (v7 + 1))))
def lf_X2_give_81 (N n : Nat) (u1 : Int32) (u4 : Int32) (u5 : Int32) (u6 : Int32) (K118 : (Sg → Int32 → Option (Int32 × Sg))) : Nat → (Sg → Int32 → Option (Int32 × Sg))
  | 0 => fun _ _ => none
  | k + 1 => lb_X2_give_81 N n u1 u4 u5 u6 K118 (lf_X2_give_81 N n u1 u4 u5 u6 K118 k)
def lb_X2_give_69 (N n : Nat) (u1 : Int32) (u4 : Int32) (u5 : Int32) (K124 : (Sg → Int32 → Option (Int32 × Sg))) (rec : (Sg → Int32 → Option (Int32 × Sg))) (σ : Sg) (v6 : Int32) : Option (Int32 × Sg) := if (σ 13 6) ≤ v6 then (K124 σ v6) else (lf_X2_give_81 N n u1 u4 u5 v6 (fun σ25 w26 => rec σ25 (v6 + 1)) N σ 0)
def lf_X2_give_69 (N n : Nat) (u1 : Int32) (u4 : Int32) (u5 : Int32) (K124 : (Sg → Int32 → Option (Int32 × Sg))) : Nat → (Sg → Int32 → Option (Int32 × Sg))
  | 0 => fun _ _ => none
  | k + 1 => lb_X2_give_69 N n u1 u4 u5 K124 (lf_X2_give_69 N n u1 u4 u5 K124 k)
def f_X2_give (N n : Nat) (σ : Sg) (p0 : Int32) (p3 : Int32) : Option (Int32 × Sg) := bd (f_X2_forget N n σ (p0 * 22)) (fun r1 σ2 => gb p0 12 (lf_X2_give_22 N n p0 p3 (p0 * 22) (fun σ16 w17 => lf_X2_give_69 N n p0 p3 (p0 * 22) (fun σ27 w28 => some (0, σ27)) N σ16 0) N (sg σ2 37 (ix p0) 0) 0))
set_option maxHeartbeats 4000000 in
set_option maxRecDepth 100000 in
theorem lp_X2_give_22 {p : Program} {l : Launch} {e : Env} {s : State} {m : MethodId} {args : Array Value} {below : List Frame} {meth : Method} {c : Code} {Q : State → Prop} {A : Nat → Prop} {g : GG} {q N n : Nat} {out : Int32 × Sg} {u1 : Int32} {u4 : Int32} {u5 : Int32} {K66 : (Sg → Int32 → Option (Int32 × Sg))}
    (hC : CXv p l e (qR 2 53) s m args below meth c cX2_give 8 RX2 g q n A Q (some out)) :
    ∀ (k : Nat) (σ : Sg) (v6 : Int32) (H : Heap) (locs : List Loc) (ls : Array Slot), lf_X2_give_22 N n u1 u4 u5 K66 k σ v6 = some out → wI g q n σ A s.heap H locs → lv_has ls 8 [(0, .ref (ga g 32)), (1, .int u1), (2, .ref (ga g 13)), (3, .ref (ga g 29)), (4, .int u4), (5, .int u5), (6, .int v6)] → (∀ (σ : Sg) (v6 : Int32) (H : Heap) (locs : List Loc) (ls : Array Slot), K66 σ v6 = some out → wI g q n σ A s.heap H locs → lv_has ls 8 [(0, .ref (ga g 32)), (1, .int u1), (2, .ref (ga g 13)), (4, .int u4), (5, .int u5)] → W p l e (qR 2 53) s m args below meth c H locs 0 0 Q (F0 m 66 ls [])) → W p l e (qR 2 53) s m args below meth c H locs 0 0 Q (F0 m 22 ls []) := by
  obtain ⟨hX, hK, hN, hZ, hA, hR⟩ := id hC
  have hx : p.tables.exec = Jvm.exec := hX.1
  have hb : c.code = cX2_give := hX.2.1
  have hml : c.maxLocals = 8 := hX.2.2.1
  have hown : s.vm.findClass RX2 = some m.cls := hX.2.2.2.1
  have ht : ∀ w ∈ BIG, w.before args s = true := hX.2.2.2.2
  intro k
  induction k with
  | zero =>
    intro σ v6 H locs ls hm
    have hm : none = some out := hm
    exact nomatch hm
  | succ k ih =>
    intro σ v6 H locs ls hm hI hl hx66
    have hm : lb_X2_give_22 N n u1 u4 u5 K66 (lf_X2_give_22 N n u1 u4 u5 K66 k) σ v6 = some out := hm
    unfold lb_X2_give_22 at hm
    refine lv_iload hx hb dX2_give_22 (lv_at hl 6 rfl) ?_
    refine lv_aload_n hx hb dX2_give_24 rfl (lv_at hl 2 rfl) ?_
    refine gf_13_6 hx hb ht hK hI (v := σ 13 6) rfl mw_150 (fun _ h9 => h9) hown dX2_give_25 ?_
    refine lv_icmp_ge (tgt := 66) hx hb dX2_give_28 (by decide) (fun c5 => ?_) (fun c5 => ?_)
    · have hm := (if_pos c5).symm.trans hm
      exact hx66 σ v6 _ _ _ hm hI (lv_sub hl [0, 1, 2, 4, 5] rfl)
    · have hm := (if_neg c5).symm.trans hm
      refine lv_aload_n hx hb dX2_give_31 rfl (lv_at hl 0 rfl) ?_
      refine lv_iload hx hb dX2_give_32 (lv_at hl 5 rfl) ?_
      refine lv_iload hx hb dX2_give_34 (lv_at hl 6 rfl) ?_
      refine lv_aload_n hx hb dX2_give_36 rfl (lv_at hl 3 rfl) ?_
      refine gf_29_0 hx hb ht hK hI mw_151 (fun _ h9 => h9) hown dX2_give_37 ?_
      refine lv_iload hx hb dX2_give_40 (lv_at hl 6 rfl) ?_
      obtain ⟨g6, hm⟩ := gb_some hm
      refine ld_30 hx hb hK hI g6 (v := σ 30 (ix v6)) rfl dX2_give_42 ?_
      refine lv_aload_n hx hb dX2_give_43 rfl (lv_at hl 2 rfl) ?_
      refine lv_iload hx hb dX2_give_44 (lv_at hl 6 rfl) ?_
      obtain ⟨r7, σ8, h9, hm⟩ := bd_some hm
      refine k_i hI hA (va_runV (As := [.int v6]) (rest := [.int (σ 30 (ix v6)), .int v6, .int u5, .ref (ga g 32)]) hX (c_X5_readSet N n h9 _) (cwV 1 ht (in_V mw_155 mw_136 mw_137 mw_138 mw_119) rfl rfl rfl pd_X5_readSet ⟨Nat.le_of_ble_eq_true rfl, Nat.le_of_ble_eq_true rfl⟩) ⟨q_blind, va_recv hK hI.1 (ci := 4) (q0 := 13) rfl rfl, q_to hI hK hN hZ hA⟩ rfl rfl hl.1 rfl (lv_room (Nat.le_of_ble_eq_true rfl)) dX2_give_46 (by decide)) (fun H locs hI => ?_)
      refine lv_ior hx hb dX2_give_49 ?_
      refine lv_aload_n hx hb dX2_give_50 rfl (lv_at hl 2 rfl) ?_
      refine lv_iload hx hb dX2_give_51 (lv_at hl 6 rfl) ?_
      obtain ⟨r10, σ11, h12, hm⟩ := bd_some hm
      refine k_i hI hA (va_runV (As := [.int v6]) (rest := [.int ((σ 30 (ix v6)) ||| r7), .int v6, .int u5, .ref (ga g 32)]) hX (c_X5_writtenSet N n h12 _) (cwV 1 ht (in_V mw_156 mw_157 mw_158 mw_138 mw_132) rfl rfl rfl pd_X5_writtenSet ⟨Nat.le_of_ble_eq_true rfl, Nat.le_of_ble_eq_true rfl⟩) ⟨q_blind, va_recv hK hI.1 (ci := 4) (q0 := 13) rfl rfl, q_to hI hK hN hZ hA⟩ rfl rfl hl.1 rfl (lv_room (Nat.le_of_ble_eq_true rfl)) dX2_give_53 (by decide)) (fun H locs hI => ?_)
      refine lv_ior hx hb dX2_give_56 ?_
      obtain ⟨r13, σ14, h15, hm⟩ := bd_some hm
      refine k_v hI hA (va_runV (As := [.int u5, .int v6, .int (((σ 30 (ix v6)) ||| r7) ||| r10)]) (rest := []) hX (c_X2_widen N n h15 _) (cwV 3 ht (in_V mw_159 mw_160 mw_161 mw_146 mw_139) rfl rfl rfl pd_X2_widen ⟨Nat.le_of_ble_eq_true rfl, Nat.le_of_ble_eq_true rfl⟩) ⟨q_blind, va_recv hK hI.1 (ci := 2) (q0 := 32) rfl rfl, q_to hI hK hN hZ hA⟩ rfl rfl hl.1 rfl (lv_room (Nat.le_of_ble_eq_true rfl)) dX2_give_57 (by decide)) (fun H locs hI => ?_)
      refine lv_iinc (v := v6 + 1) (lv' := [(6, .int (v6 + 1)), (0, .ref (ga g 32)), (1, .int u1), (2, .ref (ga g 13)), (3, .ref (ga g 29)), (4, .int u4), (5, .int u5)]) hx hb dX2_give_60 hl (k := 6) rfl (congrArg (fun z => v6 + z) (show Int32.ofInt 1 = 1 by decide)) (by decide) rfl (fun ls hl => ?_)
      refine lv_goto (tgt := 22) hx hb dX2_give_63 (by decide) ?_
      exact ih σ14 (v6 + 1) _ _ _ hm hI (lv_sub hl [1, 2, 3, 4, 5, 6, 0] rfl) hx66
set_option maxHeartbeats 4000000 in
set_option maxRecDepth 100000 in
theorem lp_X2_give_81 {p : Program} {l : Launch} {e : Env} {s : State} {m : MethodId} {args : Array Value} {below : List Frame} {meth : Method} {c : Code} {Q : State → Prop} {A : Nat → Prop} {g : GG} {q N n : Nat} {out : Int32 × Sg} {u1 : Int32} {u4 : Int32} {u5 : Int32} {u6 : Int32} {K118 : (Sg → Int32 → Option (Int32 × Sg))}
    (hC : CXv p l e (qR 2 53) s m args below meth c cX2_give 8 RX2 g q n A Q (some out)) :
    ∀ (k : Nat) (σ : Sg) (v7 : Int32) (H : Heap) (locs : List Loc) (ls : Array Slot), lf_X2_give_81 N n u1 u4 u5 u6 K118 k σ v7 = some out → wI g q n σ A s.heap H locs → lv_has ls 8 [(0, .ref (ga g 32)), (1, .int u1), (2, .ref (ga g 13)), (4, .int u4), (5, .int u5), (6, .int u6), (7, .int v7)] → (∀ (σ : Sg) (v7 : Int32) (H : Heap) (locs : List Loc) (ls : Array Slot), K118 σ v7 = some out → wI g q n σ A s.heap H locs → lv_has ls 8 [(0, .ref (ga g 32)), (1, .int u1), (2, .ref (ga g 13)), (4, .int u4), (5, .int u5), (6, .int u6)] → W p l e (qR 2 53) s m args below meth c H locs 0 0 Q (F0 m 118 ls [])) → W p l e (qR 2 53) s m args below meth c H locs 0 0 Q (F0 m 81 ls []) := by
  obtain ⟨hX, hK, hN, hZ, hA, hR⟩ := id hC
  have hx : p.tables.exec = Jvm.exec := hX.1
  have hb : c.code = cX2_give := hX.2.1
  have hml : c.maxLocals = 8 := hX.2.2.1
  have hown : s.vm.findClass RX2 = some m.cls := hX.2.2.2.1
  have ht : ∀ w ∈ BIG, w.before args s = true := hX.2.2.2.2
  intro k
  induction k with
  | zero =>
    intro σ v7 H locs ls hm
    have hm : none = some out := hm
    exact nomatch hm
  | succ k ih =>
    intro σ v7 H locs ls hm hI hl hx118
    have hm : lb_X2_give_81 N n u1 u4 u5 u6 K118 (lf_X2_give_81 N n u1 u4 u5 u6 K118 k) σ v7 = some out := hm
    unfold lb_X2_give_81 at hm
    refine lv_iload hx hb dX2_give_81 (lv_at hl 6 rfl) ?_
    refine lv_bipush (v := 22) hx hb dX2_give_83 (by decide) ?_
    refine lv_icmp_ge (tgt := 118) hx hb dX2_give_85 (by decide) (fun c19 => ?_) (fun c19 => ?_)
    · have hm := (if_pos c19).symm.trans hm
      exact hx118 σ v7 _ _ _ hm hI (lv_sub hl [0, 1, 2, 3, 4, 5] rfl)
    · have hm := (if_neg c19).symm.trans hm
      refine lv_aload_n hx hb dX2_give_88 rfl (lv_at hl 0 rfl) ?_
      refine gf_32_0 hx hb ht hK hI mw_100 (fun _ h9 => h9) hown dX2_give_89 ?_
      refine lv_iload hx hb dX2_give_92 (lv_at hl 4 rfl) ?_
      refine lv_iload hx hb dX2_give_94 (lv_at hl 6 rfl) ?_
      refine lv_iadd hx hb dX2_give_96 ?_
      obtain ⟨g20, hm⟩ := gb_some hm
      refine ld_33 hx hb hK hI g20 (v := σ 33 (ix (u5 + v7))) rfl dX2_give_97 ?_
      refine lv_iload hx hb dX2_give_98 (lv_at hl 5 rfl) ?_
      refine lv_icmp_ne (tgt := 112) hx hb dX2_give_100 (by decide) (fun c21 => ?_) (fun c21 => ?_)
      · have hm := (if_neg c21).symm.trans hm
        refine lv_iinc (v := v7 + 1) (lv' := [(7, .int (v7 + 1)), (0, .ref (ga g 32)), (1, .int u1), (2, .ref (ga g 13)), (4, .int u4), (5, .int u5), (6, .int u6)]) hx hb dX2_give_112 hl (k := 6) rfl (congrArg (fun z => v7 + z) (show Int32.ofInt 1 = 1 by decide)) (by decide) rfl (fun ls hl => ?_)
        refine lv_goto (tgt := 81) hx hb dX2_give_115 (by decide) ?_
        exact ih σ (v7 + 1) _ _ _ hm hI (lv_sub hl [1, 2, 3, 4, 5, 6, 0] rfl) hx118
      · have hm := (if_pos c21).symm.trans hm
        refine lv_aload_n hx hb dX2_give_103 rfl (lv_at hl 0 rfl) ?_
        refine lv_iload_n hx hb dX2_give_104 rfl (lv_at hl 1 rfl) ?_
        refine lv_iload hx hb dX2_give_105 (lv_at hl 6 rfl) ?_
        refine lv_iload hx hb dX2_give_107 (lv_at hl 3 rfl) ?_
        obtain ⟨r22, σ23, h24, hm⟩ := bd_some hm
        refine k_v hI hA (va_runV (As := [.int u1, .int v7, .int u4]) (rest := []) hX (c_X2_giveOne N n h24 _) (cwV 3 ht (in_V mw_162 mw_163 mw_164 mw_146 mw_142) rfl rfl rfl pd_X2_giveOne ⟨Nat.le_of_ble_eq_true rfl, Nat.le_of_ble_eq_true rfl⟩) ⟨q_blind, va_recv hK hI.1 (ci := 2) (q0 := 32) rfl rfl, q_to hI hK hN hZ hA⟩ rfl rfl hl.1 rfl (lv_room (Nat.le_of_ble_eq_true rfl)) dX2_give_109 (by decide)) (fun H locs hI => ?_)
        refine lv_iinc (v := v7 + 1) (lv' := [(7, .int (v7 + 1)), (0, .ref (ga g 32)), (1, .int u1), (2, .ref (ga g 13)), (4, .int u4), (5, .int u5), (6, .int u6)]) hx hb dX2_give_112 hl (k := 6) rfl (congrArg (fun z => v7 + z) (show Int32.ofInt 1 = 1 by decide)) (by decide) rfl (fun ls hl => ?_)
        refine lv_goto (tgt := 81) hx hb dX2_give_115 (by decide) ?_
        exact ih σ23 (v7 + 1) _ _ _ hm hI (lv_sub hl [1, 2, 3, 4, 5, 6, 0] rfl) hx118
set_option maxHeartbeats 4000000 in
set_option maxRecDepth 100000 in
theorem lp_X2_give_69 {p : Program} {l : Launch} {e : Env} {s : State} {m : MethodId} {args : Array Value} {below : List Frame} {meth : Method} {c : Code} {Q : State → Prop} {A : Nat → Prop} {g : GG} {q N n : Nat} {out : Int32 × Sg} {u1 : Int32} {u4 : Int32} {u5 : Int32} {K124 : (Sg → Int32 → Option (Int32 × Sg))}
    (hC : CXv p l e (qR 2 53) s m args below meth c cX2_give 8 RX2 g q n A Q (some out)) :
    ∀ (k : Nat) (σ : Sg) (v6 : Int32) (H : Heap) (locs : List Loc) (ls : Array Slot), lf_X2_give_69 N n u1 u4 u5 K124 k σ v6 = some out → wI g q n σ A s.heap H locs → lv_has ls 8 [(0, .ref (ga g 32)), (1, .int u1), (2, .ref (ga g 13)), (4, .int u4), (5, .int u5), (6, .int v6)] → (∀ (σ : Sg) (v6 : Int32) (H : Heap) (locs : List Loc) (ls : Array Slot), K124 σ v6 = some out → wI g q n σ A s.heap H locs → lv_has ls 8 [] → W p l e (qR 2 53) s m args below meth c H locs 0 0 Q (F0 m 124 ls [])) → W p l e (qR 2 53) s m args below meth c H locs 0 0 Q (F0 m 69 ls []) := by
  obtain ⟨hX, hK, hN, hZ, hA, hR⟩ := id hC
  have hx : p.tables.exec = Jvm.exec := hX.1
  have hb : c.code = cX2_give := hX.2.1
  have hml : c.maxLocals = 8 := hX.2.2.1
  have hown : s.vm.findClass RX2 = some m.cls := hX.2.2.2.1
  have ht : ∀ w ∈ BIG, w.before args s = true := hX.2.2.2.2
  intro k
  induction k with
  | zero =>
    intro σ v6 H locs ls hm
    have hm : none = some out := hm
    exact nomatch hm
  | succ k ih =>
    intro σ v6 H locs ls hm hI hl hx124
    have hm : lb_X2_give_69 N n u1 u4 u5 K124 (lf_X2_give_69 N n u1 u4 u5 K124 k) σ v6 = some out := hm
    unfold lb_X2_give_69 at hm
    refine lv_iload hx hb dX2_give_69 (lv_at hl 5 rfl) ?_
    refine lv_aload_n hx hb dX2_give_71 rfl (lv_at hl 2 rfl) ?_
    refine gf_13_6 hx hb ht hK hI (v := σ 13 6) rfl mw_150 (fun _ h9 => h9) hown dX2_give_72 ?_
    refine lv_icmp_ge (tgt := 124) hx hb dX2_give_75 (by decide) (fun c18 => ?_) (fun c18 => ?_)
    · have hm := (if_pos c18).symm.trans hm
      exact hx124 σ v6 _ _ _ hm hI (lv_sub hl [] rfl)
    · have hm := (if_neg c18).symm.trans hm
      refine lv_iconst (v := 0) hx hb dX2_give_78 (by decide) ?_
      refine lv_istore (lv' := [(7, .int 0), (0, .ref (ga g 32)), (1, .int u1), (2, .ref (ga g 13)), (4, .int u4), (5, .int u5), (6, .int v6)]) hx hb dX2_give_79 hl (by decide) rfl (fun ls hl => ?_)
      refine lp_X2_give_81 hC N _ _ _ _ _ hm hI (lv_sub hl [1, 2, 3, 4, 5, 6, 0] rfl) ?_
      intro σ25 w26 H locs ls hm hI hl
      refine lv_iinc (v := v6 + 1) (lv' := [(6, .int (v6 + 1)), (0, .ref (ga g 32)), (1, .int u1), (2, .ref (ga g 13)), (4, .int u4), (5, .int u5)]) hx hb dX2_give_118 hl (k := 5) rfl (congrArg (fun z => v6 + z) (show Int32.ofInt 1 = 1 by decide)) (by decide) rfl (fun ls hl => ?_)
      refine lv_goto (tgt := 69) hx hb dX2_give_121 (by decide) ?_
      exact ih σ25 (v6 + 1) _ _ _ hm hI (lv_sub hl [1, 2, 3, 4, 5, 0] rfl) hx124
set_option maxHeartbeats 4000000 in
set_option maxRecDepth 100000 in
theorem c_X2_give {l : Launch} {g : GG} {q : Nat} (N n : Nat) {σ : Sg} {p0 : Int32} {p3 : Int32} {r : Int32} {σ' : Sg} (hm : f_X2_give N n σ p0 p3 = some (r, σ')) : CTv l yX2_give cX2_give 8 none 2 53 g q n [.ref (ga g 32), .int p0, .ref (ga g 13), .ref (ga g 29), .int p3] σ σ' := by
  refine e_v (r := r) (by decide) (Nat.le_of_ble_eq_true rfl) ?_
  intro p e s m args below meth c A Q ls hC hl hI
  obtain ⟨hX, hK, hN, hZ, hA, hR⟩ := id hC
  have hx : p.tables.exec = Jvm.exec := hX.1
  have hb : c.code = cX2_give := hX.2.1
  have hml : c.maxLocals = 8 := hX.2.2.1
  have hown : s.vm.findClass RX2 = some m.cls := hX.2.2.2.1
  have ht : ∀ w ∈ BIG, w.before args s = true := hX.2.2.2.2
  have hl : lv_has ls 8 [(0, .ref (ga g 32)), (1, .int p0), (2, .ref (ga g 13)), (3, .ref (ga g 29)), (4, .int p3)] := hl
  unfold f_X2_give at hm
  refine lv_iload_n hx hb dX2_give_0 rfl (lv_at hl 1 rfl) ?_
  refine lv_bipush (v := 22) hx hb dX2_give_1 (by decide) ?_
  refine lv_imul hx hb dX2_give_3 ?_
  refine lv_istore (lv' := [(5, .int (p0 * 22)), (0, .ref (ga g 32)), (1, .int p0), (2, .ref (ga g 13)), (3, .ref (ga g 29)), (4, .int p3)]) hx hb dX2_give_4 hl (by decide) rfl (fun ls hl => ?_)
  refine lv_aload_n hx hb dX2_give_6 rfl (lv_at hl 1 rfl) ?_
  refine lv_iload hx hb dX2_give_7 (lv_at hl 0 rfl) ?_
  obtain ⟨r1, σ2, h3, hm⟩ := bd_some hm
  refine k_v hI hA (va_runV (As := [.int (p0 * 22)]) (rest := []) hX (c_X2_forget N n h3 _) (cwV 1 ht (in_V mw_152 mw_153 mw_154 mw_146 mw_116) rfl rfl rfl pd_X2_forget ⟨Nat.le_of_ble_eq_true rfl, Nat.le_of_ble_eq_true rfl⟩) ⟨q_blind, va_recv hK hI.1 (ci := 2) (q0 := 32) rfl rfl, q_to hI hK hN hZ hA⟩ rfl rfl hl.1 rfl (lv_room (Nat.le_of_ble_eq_true rfl)) dX2_give_9 (by decide)) (fun H locs hI => ?_)
  refine lv_aload_n hx hb dX2_give_12 rfl (lv_at hl 1 rfl) ?_
  refine gf_32_4 hx hb ht hK hI mw_104 (fun _ h9 => h9) hown dX2_give_13 ?_
  refine lv_iload_n hx hb dX2_give_16 rfl (lv_at hl 2 rfl) ?_
  refine lv_iconst (v := 0) hx hb dX2_give_17 (by decide) ?_
  obtain ⟨g4, hm⟩ := gb_some hm
  refine sv_37 hx hb hK hI g4 dX2_give_18 (fun H locs hI => ?_)
  refine lv_iconst (v := 0) hx hb dX2_give_19 (by decide) ?_
  refine lv_istore (lv' := [(6, .int 0), (5, .int (p0 * 22)), (0, .ref (ga g 32)), (1, .int p0), (2, .ref (ga g 13)), (3, .ref (ga g 29)), (4, .int p3)]) hx hb dX2_give_20 hl (by decide) rfl (fun ls hl => ?_)
  refine lp_X2_give_22 hC N _ _ _ _ _ hm hI (lv_sub hl [2, 3, 4, 5, 6, 1, 0] rfl) ?_
  intro σ16 w17 H locs ls hm hI hl
  refine lv_iconst (v := 0) hx hb dX2_give_66 (by decide) ?_
  refine lv_istore (lv' := [(6, .int 0), (0, .ref (ga g 32)), (1, .int p0), (2, .ref (ga g 13)), (4, .int p3), (5, .int (p0 * 22))]) hx hb dX2_give_67 hl (by decide) rfl (fun ls hl => ?_)
  refine lp_X2_give_69 hC N _ _ _ _ _ hm hI (lv_sub hl [1, 2, 3, 4, 5, 0] rfl) ?_
  intro σ27 w28 H locs ls hm hI hl
  exact hR _ _ _ _ _ hm hI dX2_give_124
def f_X5_goesToNext (N n : Nat) (σ : Sg) (p0 : Int32) : Option (Int32 × Sg) := gb p0 300 (if (σ 14 (ix p0)) = 4 then (some (0, σ)) else (gb p0 300 (if (σ 14 (ix p0)) = 6 then (some (0, σ)) else (if (σ 13 6) ≤ (p0 + 1) then (some (0, σ)) else (some (1, σ))))))
set_option maxHeartbeats 4000000 in
set_option maxRecDepth 100000 in
theorem c_X5_goesToNext {l : Launch} {g : GG} {q : Nat} (N n : Nat) {σ : Sg} {p0 : Int32} {r : Int32} {σ' : Sg} (hm : f_X5_goesToNext N n σ p0 = some (r, σ')) : CTi l yX5_goesToNext cX5_goesToNext 2 (some .boolean) 0 0 g q n [.ref (ga g 13), .int p0] σ r σ' := by
  refine e_z (r := r) (by decide) (Nat.le_of_ble_eq_true rfl) ?_
  intro p e s m args below meth c A Q ls hC hl hI
  obtain ⟨hX, hK, hN, hZ, hA, hR⟩ := id hC
  have hx : p.tables.exec = Jvm.exec := hX.1
  have hb : c.code = cX5_goesToNext := hX.2.1
  have hml : c.maxLocals = 2 := hX.2.2.1
  have hown : s.vm.findClass RX5 = some m.cls := hX.2.2.2.1
  have ht : ∀ w ∈ BIG, w.before args s = true := hX.2.2.2.2
  have hl : lv_has ls 2 [(0, .ref (ga g 13)), (1, .int p0)] := hl
  unfold f_X5_goesToNext at hm
  refine lv_aload_n hx hb dX5_goesToNext_0 rfl (lv_at hl 0 rfl) ?_
  refine gf_13_0 hx hb ht hK hI mw_133 (fun _ h9 => h9) hown dX5_goesToNext_1 ?_
  refine lv_iload_n hx hb dX5_goesToNext_4 rfl (lv_at hl 1 rfl) ?_
  obtain ⟨g1, hm⟩ := gb_some hm
  refine ld_14 hx hb hK hI g1 (v := σ 14 (ix p0)) rfl dX5_goesToNext_5 ?_
  refine lv_iconst (v := 4) hx hb dX5_goesToNext_6 (by decide) ?_
  refine lv_icmp_eq (tgt := 35) hx hb dX5_goesToNext_7 (by decide) (fun c2 => ?_) (fun c2 => ?_)
  · have hm := (if_pos c2).symm.trans hm
    refine lv_iconst (v := 0) hx hb dX5_goesToNext_35 (by decide) ?_
    exact hR _ _ _ _ _ _ hm hI (by decide) dX5_goesToNext_36
  · have hm := (if_neg c2).symm.trans hm
    refine lv_aload_n hx hb dX5_goesToNext_10 rfl (lv_at hl 0 rfl) ?_
    refine gf_13_0 hx hb ht hK hI mw_133 (fun _ h9 => h9) hown dX5_goesToNext_11 ?_
    refine lv_iload_n hx hb dX5_goesToNext_14 rfl (lv_at hl 1 rfl) ?_
    obtain ⟨g3, hm⟩ := gb_some hm
    refine ld_14 hx hb hK hI g3 (v := σ 14 (ix p0)) rfl dX5_goesToNext_15 ?_
    refine lv_bipush (v := 6) hx hb dX5_goesToNext_16 (by decide) ?_
    refine lv_icmp_eq (tgt := 35) hx hb dX5_goesToNext_18 (by decide) (fun c4 => ?_) (fun c4 => ?_)
    · have hm := (if_pos c4).symm.trans hm
      refine lv_iconst (v := 0) hx hb dX5_goesToNext_35 (by decide) ?_
      exact hR _ _ _ _ _ _ hm hI (by decide) dX5_goesToNext_36
    · have hm := (if_neg c4).symm.trans hm
      refine lv_iload_n hx hb dX5_goesToNext_21 rfl (lv_at hl 1 rfl) ?_
      refine lv_iconst (v := 1) hx hb dX5_goesToNext_22 (by decide) ?_
      refine lv_iadd hx hb dX5_goesToNext_23 ?_
      refine lv_aload_n hx hb dX5_goesToNext_24 rfl (lv_at hl 0 rfl) ?_
      refine gf_13_6 hx hb ht hK hI (v := σ 13 6) rfl mw_173 (fun _ h9 => h9) hown dX5_goesToNext_25 ?_
      refine lv_icmp_ge (tgt := 35) hx hb dX5_goesToNext_28 (by decide) (fun c5 => ?_) (fun c5 => ?_)
      · have hm := (if_pos c5).symm.trans hm
        refine lv_iconst (v := 0) hx hb dX5_goesToNext_35 (by decide) ?_
        exact hR _ _ _ _ _ _ hm hI (by decide) dX5_goesToNext_36
      · have hm := (if_neg c5).symm.trans hm
        refine lv_iconst (v := 1) hx hb dX5_goesToNext_31 (by decide) ?_
        refine lv_goto (tgt := 36) hx hb dX5_goesToNext_32 (by decide) ?_
        exact hR _ _ _ _ _ _ hm hI (by decide) dX5_goesToNext_36
def f_X5_jumps (N n : Nat) (σ : Sg) (p0 : Int32) : Option (Int32 × Sg) := gb p0 300 (if (σ 14 (ix p0)) = 4 then (some (1, σ)) else (gb p0 300 (if (σ 14 (ix p0)) = 5 then (some (1, σ)) else (some (0, σ)))))
set_option maxHeartbeats 4000000 in
set_option maxRecDepth 100000 in
theorem c_X5_jumps {l : Launch} {g : GG} {q : Nat} (N n : Nat) {σ : Sg} {p0 : Int32} {r : Int32} {σ' : Sg} (hm : f_X5_jumps N n σ p0 = some (r, σ')) : CTi l yX5_jumps cX5_jumps 2 (some .boolean) 0 0 g q n [.ref (ga g 13), .int p0] σ r σ' := by
  refine e_z (r := r) (by decide) (Nat.le_of_ble_eq_true rfl) ?_
  intro p e s m args below meth c A Q ls hC hl hI
  obtain ⟨hX, hK, hN, hZ, hA, hR⟩ := id hC
  have hx : p.tables.exec = Jvm.exec := hX.1
  have hb : c.code = cX5_jumps := hX.2.1
  have hml : c.maxLocals = 2 := hX.2.2.1
  have hown : s.vm.findClass RX5 = some m.cls := hX.2.2.2.1
  have ht : ∀ w ∈ BIG, w.before args s = true := hX.2.2.2.2
  have hl : lv_has ls 2 [(0, .ref (ga g 13)), (1, .int p0)] := hl
  unfold f_X5_jumps at hm
  refine lv_aload_n hx hb dX5_jumps_0 rfl (lv_at hl 0 rfl) ?_
  refine gf_13_0 hx hb ht hK hI mw_133 (fun _ h9 => h9) hown dX5_jumps_1 ?_
  refine lv_iload_n hx hb dX5_jumps_4 rfl (lv_at hl 1 rfl) ?_
  obtain ⟨g1, hm⟩ := gb_some hm
  refine ld_14 hx hb hK hI g1 (v := σ 14 (ix p0)) rfl dX5_jumps_5 ?_
  refine lv_iconst (v := 4) hx hb dX5_jumps_6 (by decide) ?_
  refine lv_icmp_eq (tgt := 20) hx hb dX5_jumps_7 (by decide) (fun c2 => ?_) (fun c2 => ?_)
  · have hm := (if_pos c2).symm.trans hm
    refine lv_iconst (v := 1) hx hb dX5_jumps_20 (by decide) ?_
    refine lv_goto (tgt := 25) hx hb dX5_jumps_21 (by decide) ?_
    exact hR _ _ _ _ _ _ hm hI (by decide) dX5_jumps_25
  · have hm := (if_neg c2).symm.trans hm
    refine lv_aload_n hx hb dX5_jumps_10 rfl (lv_at hl 0 rfl) ?_
    refine gf_13_0 hx hb ht hK hI mw_133 (fun _ h9 => h9) hown dX5_jumps_11 ?_
    refine lv_iload_n hx hb dX5_jumps_14 rfl (lv_at hl 1 rfl) ?_
    obtain ⟨g3, hm⟩ := gb_some hm
    refine ld_14 hx hb hK hI g3 (v := σ 14 (ix p0)) rfl dX5_jumps_15 ?_
    refine lv_iconst (v := 5) hx hb dX5_jumps_16 (by decide) ?_
    refine lv_icmp_ne (tgt := 24) hx hb dX5_jumps_17 (by decide) (fun c4 => ?_) (fun c4 => ?_)
    · have hm := (if_neg c4).symm.trans hm
      refine lv_iconst (v := 0) hx hb dX5_jumps_24 (by decide) ?_
      exact hR _ _ _ _ _ _ hm hI (by decide) dX5_jumps_25
    · have hm := (if_pos c4).symm.trans hm
      refine lv_iconst (v := 1) hx hb dX5_jumps_20 (by decide) ?_
      refine lv_goto (tgt := 25) hx hb dX5_jumps_21 (by decide) ?_
      exact hR _ _ _ _ _ _ hm hI (by decide) dX5_jumps_25
def lb_X3_growBackwards_9 (N n : Nat)  (K120 : (Sg → Int32 → Int32 → Option (Int32 × Sg))) (rec : (Sg → Int32 → Int32 → Option (Int32 × Sg))) (σ : Sg) (v2 : Int32) (v3 : Int32) : Option (Int32 × Sg) := if v3 < 0 then (K120 σ v2 v3) else (bd (f_X5_goesToNext N n σ v3) (fun r2 σ3 => if r2 = 0 then (bd (f_X5_jumps N n σ3 v3) (fun r6 σ7 => if r6 = 0 then (gb v3 300 (bd (f_X5_readSet N n (sg σ7 31 (ix v3) 0) v3) (fun r11 σ12 => bd (f_X5_writtenSet N n σ12 v3) (fun r14 σ15 => if v2 = 0 then (gb v3 300 (if (r11 ||| (0 &&& (r14 ^^^ (-1)))) = (σ15 30 (ix v3)) then (gb v3 300 (rec (sg σ15 30 (ix v3) (r11 ||| (0 &&& (r14 ^^^ (-1))))) 0 (v3 + (-1)))) else (gb v3 300 (rec (sg σ15 30 (ix v3) (r11 ||| (0 &&& (r14 ^^^ (-1))))) 1 (v3 + (-1)))))) else (gb v3 300 (rec (sg σ15 30 (ix v3) (r11 ||| (0 &&& (r14 ^^^ (-1))))) 1 (v3 + (-1)))))))) else (gb v3 300 (gb (σ7 16 (ix v3)) 300 (gb v3 300 (bd (f_X5_readSet N n (sg σ7 31 (ix v3) (0 ||| (σ7 30 (ix (σ7 16 (ix v3)))))) v3) (fun r26 σ27 => bd (f_X5_writtenSet N n σ27 v3) (fun r29 σ30 => if v2 = 0 then (gb v3 300 (if (r26 ||| ((0 ||| (σ7 30 (ix (σ7 16 (ix v3))))) &&& (r29 ^^^ (-1)))) = (σ30 30 (ix v3)) then (gb v3 300 (rec (sg σ30 30 (ix v3) (r26 ||| ((0 ||| (σ7 30 (ix (σ7 16 (ix v3))))) &&& (r29 ^^^ (-1))))) 0 (v3 + (-1)))) else (gb v3 300 (rec (sg σ30 30 (ix v3) (r26 ||| ((0 ||| (σ7 30 (ix (σ7 16 (ix v3))))) &&& (r29 ^^^ (-1))))) 1 (v3 + (-1)))))) else (gb v3 300 (rec (sg σ30 30 (ix v3) (r26 ||| ((0 ||| (σ7 30 (ix (σ7 16 (ix v3))))) &&& (r29 ^^^ (-1))))) 1 (v3 + (-1)))))))))))) else (gb (v3 + 1) 300 (bd (f_X5_jumps N n σ3 v3) (fun r39 σ40 => if r39 = 0 then (gb v3 300 (bd (f_X5_readSet N n (sg σ40 31 (ix v3) (σ3 30 (ix (v3 + 1)))) v3) (fun r44 σ45 => bd (f_X5_writtenSet N n σ45 v3) (fun r47 σ48 => if v2 = 0 then (gb v3 300 (if (r44 ||| ((σ3 30 (ix (v3 + 1))) &&& (r47 ^^^ (-1)))) = (σ48 30 (ix v3)) then (gb v3 300 (rec (sg σ48 30 (ix v3) (r44 ||| ((σ3 30 (ix (v3 + 1))) &&& (r47 ^^^ (-1))))) 0 (v3 + (-1)))) else (gb v3 300 (rec (sg σ48 30 (ix v3) (r44 ||| ((σ3 30 (ix (v3 + 1))) &&& (r47 ^^^ (-1))))) 1 (v3 + (-1)))))) else (gb v3 300 (rec (sg σ48 30 (ix v3) (r44 ||| ((σ3 30 (ix (v3 + 1))) &&& (r47 ^^^ (-1))))) 1 (v3 + (-1)))))))) else (gb v3 300 (gb (σ40 16 (ix v3)) 300 (gb v3 300 (bd (f_X5_readSet N n (sg σ40 31 (ix v3) ((σ3 30 (ix (v3 + 1))) ||| (σ40 30 (ix (σ40 16 (ix v3)))))) v3) (fun r59 σ60 => bd (f_X5_writtenSet N n σ60 v3) (fun r62 σ63 => if v2 = 0 then (gb v3 300 (if (r59 ||| (((σ3 30 (ix (v3 + 1))) ||| (σ40 30 (ix (σ40 16 (ix v3))))) &&& (r62 ^^^ (-1)))) = (σ63 30 (ix v3)) then (gb v3 300 (rec (sg σ63 30 (ix v3) (r59 ||| (((σ3 30 (ix (v3 + 1))) ||| (σ40 30 (ix (σ40 16 (ix v3))))) &&& (r62 ^^^ (-1))))) 0 (v3 + (-1)))) else (gb v3 300 (rec (sg σ63 30 (ix v3) (r59 ||| (((σ3 30 (ix (v3 + 1))) ||| (σ40 30 (ix (σ40 16 (ix v3))))) &&& (r62 ^^^ (-1))))) 1 (v3 + (-1)))))) else (gb v3 300 (rec (sg σ63 30 (ix v3) (r59 ||| (((σ3 30 (ix (v3 + 1))) ||| (σ40 30 (ix (σ40 16 (ix v3))))) &&& (r62 ^^^ (-1))))) 1 (v3 + (-1)))))))))))))))
def lf_X3_growBackwards_9 (N n : Nat)  (K120 : (Sg → Int32 → Int32 → Option (Int32 × Sg))) : Nat → (Sg → Int32 → Int32 → Option (Int32 × Sg))
  | 0 => fun _ _ _ => none
  | k + 1 => lb_X3_growBackwards_9 N n  K120 (lf_X3_growBackwards_9 N n  K120 k)
def f_X3_growBackwards (N n : Nat) (σ : Sg)  : Option (Int32 × Sg) := lf_X3_growBackwards_9 N n  (fun σ71 w72 w73 => g01 w72 (some (w72, σ71))) N σ 0 ((σ 13 6) - 1)
set_option maxHeartbeats 4000000 in
set_option maxRecDepth 100000 in
theorem lp_X3_growBackwards_9 {p : Program} {l : Launch} {e : Env} {s : State} {m : MethodId} {args : Array Value} {below : List Frame} {meth : Method} {c : Code} {Q : State → Prop} {A : Nat → Prop} {g : GG} {q N n : Nat} {out : Int32 × Sg}  {K120 : (Sg → Int32 → Int32 → Option (Int32 × Sg))}
    (hC : CXz p l e (qR 2 44) s m args below meth c cX3_growBackwards 6 RX3 g q n A Q (some out)) :
    ∀ (k : Nat) (σ : Sg) (v2 : Int32) (v3 : Int32) (H : Heap) (locs : List Loc) (ls : Array Slot), lf_X3_growBackwards_9 N n  K120 k σ v2 v3 = some out → wI g q n σ A s.heap H locs → lv_has ls 6 [(0, .ref (ga g 29)), (1, .ref (ga g 13)), (2, .int v2), (3, .int v3)] → (∀ (σ : Sg) (v2 : Int32) (v3 : Int32) (H : Heap) (locs : List Loc) (ls : Array Slot), K120 σ v2 v3 = some out → wI g q n σ A s.heap H locs → lv_has ls 6 [(2, .int v2)] → W p l e (qR 2 44) s m args below meth c H locs 0 0 Q (F0 m 120 ls [])) → W p l e (qR 2 44) s m args below meth c H locs 0 0 Q (F0 m 9 ls []) := by
  obtain ⟨hX, hK, hN, hZ, hA, hR⟩ := id hC
  have hx : p.tables.exec = Jvm.exec := hX.1
  have hb : c.code = cX3_growBackwards := hX.2.1
  have hml : c.maxLocals = 6 := hX.2.2.1
  have hown : s.vm.findClass RX3 = some m.cls := hX.2.2.2.1
  have ht : ∀ w ∈ BIG, w.before args s = true := hX.2.2.2.2
  intro k
  induction k with
  | zero =>
    intro σ v2 v3 H locs ls hm
    have hm : none = some out := hm
    exact nomatch hm
  | succ k ih =>
    intro σ v2 v3 H locs ls hm hI hl hx120
    have hm : lb_X3_growBackwards_9 N n  K120 (lf_X3_growBackwards_9 N n  K120 k) σ v2 v3 = some out := hm
    unfold lb_X3_growBackwards_9 at hm
    refine lv_iload_n hx hb dX3_growBackwards_9 rfl (lv_at hl 3 rfl) ?_
    refine lv_if_lt (tgt := 120) hx hb dX3_growBackwards_10 (by decide) (fun c1 => ?_) (fun c1 => ?_)
    · have hm := (if_pos c1).symm.trans hm
      exact hx120 σ v2 v3 _ _ _ hm hI (lv_sub hl [2] rfl)
    · have hm := (if_neg c1).symm.trans hm
      refine lv_aload_n hx hb dX3_growBackwards_13 rfl (lv_at hl 1 rfl) ?_
      refine lv_iload_n hx hb dX3_growBackwards_14 rfl (lv_at hl 3 rfl) ?_
      obtain ⟨r2, σ3, h4, hm⟩ := bd_some hm
      refine k_i hI hA (va_runV (As := [.int v3]) (rest := []) hX (c_X5_goesToNext N n h4 _) (cwV 1 ht (in_V mw_177 mw_178 mw_179 mw_138 mw_172) rfl rfl rfl pd_X5_goesToNext ⟨Nat.le_of_ble_eq_true rfl, Nat.le_of_ble_eq_true rfl⟩) ⟨q_blind, va_recv hK hI.1 (ci := 4) (q0 := 13) rfl rfl, q_to hI hK hN hZ hA⟩ rfl rfl hl.1 rfl (lv_room (Nat.le_of_ble_eq_true rfl)) dX3_growBackwards_15 (by decide)) (fun H locs hI => ?_)
      refine lv_if_eq (tgt := 32) hx hb dX3_growBackwards_18 (by decide) (fun c5 => ?_) (fun c5 => ?_)
      · have hm := (if_pos c5).symm.trans hm
        refine lv_iconst (v := 0) hx hb dX3_growBackwards_32 (by decide) ?_
        refine lv_istore (lv' := [(4, .int 0), (0, .ref (ga g 29)), (1, .ref (ga g 13)), (2, .int v2), (3, .int v3)]) hx hb dX3_growBackwards_33 hl (by decide) rfl (fun ls hl => ?_)
        refine lv_aload_n hx hb dX3_growBackwards_35 rfl (lv_at hl 2 rfl) ?_
        refine lv_iload_n hx hb dX3_growBackwards_36 rfl (lv_at hl 4 rfl) ?_
        obtain ⟨r6, σ7, h8, hm⟩ := bd_some hm
        refine k_i hI hA (va_runV (As := [.int v3]) (rest := []) hX (c_X5_jumps N n h8 _) (cwV 1 ht (in_V mw_180 mw_181 mw_182 mw_138 mw_174) rfl rfl rfl pd_X5_jumps ⟨Nat.le_of_ble_eq_true rfl, Nat.le_of_ble_eq_true rfl⟩) ⟨q_blind, va_recv hK hI.1 (ci := 4) (q0 := 13) rfl rfl, q_to hI hK hN hZ hA⟩ rfl rfl hl.1 rfl (lv_room (Nat.le_of_ble_eq_true rfl)) dX3_growBackwards_37 (by decide)) (fun H locs hI => ?_)
        refine lv_if_eq (tgt := 59) hx hb dX3_growBackwards_40 (by decide) (fun c9 => ?_) (fun c9 => ?_)
        · have hm := (if_pos c9).symm.trans hm
          refine lv_aload_n hx hb dX3_growBackwards_59 rfl (lv_at hl 1 rfl) ?_
          refine gf_29_1 hx hb ht hK hI mw_171 (fun _ h9 => h9) hown dX3_growBackwards_60 ?_
          refine lv_iload_n hx hb dX3_growBackwards_63 rfl (lv_at hl 4 rfl) ?_
          refine lv_iload hx hb dX3_growBackwards_64 (lv_at hl 0 rfl) ?_
          obtain ⟨g10, hm⟩ := gb_some hm
          refine sv_31 hx hb hK hI g10 dX3_growBackwards_66 (fun H locs hI => ?_)
          refine lv_aload_n hx hb dX3_growBackwards_67 rfl (lv_at hl 2 rfl) ?_
          refine lv_iload_n hx hb dX3_growBackwards_68 rfl (lv_at hl 4 rfl) ?_
          obtain ⟨r11, σ12, h13, hm⟩ := bd_some hm
          refine k_i hI hA (va_runV (As := [.int v3]) (rest := []) hX (c_X5_readSet N n h13 _) (cwV 1 ht (in_V mw_183 mw_136 mw_137 mw_138 mw_119) rfl rfl rfl pd_X5_readSet ⟨Nat.le_of_ble_eq_true rfl, Nat.le_of_ble_eq_true rfl⟩) ⟨q_blind, va_recv hK hI.1 (ci := 4) (q0 := 13) rfl rfl, q_to hI hK hN hZ hA⟩ rfl rfl hl.1 rfl (lv_room (Nat.le_of_ble_eq_true rfl)) dX3_growBackwards_69 (by decide)) (fun H locs hI => ?_)
          refine lv_iload hx hb dX3_growBackwards_72 (lv_at hl 0 rfl) ?_
          refine lv_aload_n hx hb dX3_growBackwards_74 rfl (lv_at hl 2 rfl) ?_
          refine lv_iload_n hx hb dX3_growBackwards_75 rfl (lv_at hl 4 rfl) ?_
          obtain ⟨r14, σ15, h16, hm⟩ := bd_some hm
          refine k_i hI hA (va_runV (As := [.int v3]) (rest := [.int 0, .int r11]) hX (c_X5_writtenSet N n h16 _) (cwV 1 ht (in_V mw_184 mw_157 mw_158 mw_138 mw_132) rfl rfl rfl pd_X5_writtenSet ⟨Nat.le_of_ble_eq_true rfl, Nat.le_of_ble_eq_true rfl⟩) ⟨q_blind, va_recv hK hI.1 (ci := 4) (q0 := 13) rfl rfl, q_to hI hK hN hZ hA⟩ rfl rfl hl.1 rfl (lv_room (Nat.le_of_ble_eq_true rfl)) dX3_growBackwards_76 (by decide)) (fun H locs hI => ?_)
          refine lv_iconst (v := (-1)) hx hb dX3_growBackwards_79 (by decide) ?_
          refine lv_ixor hx hb dX3_growBackwards_80 ?_
          refine lv_iand hx hb dX3_growBackwards_81 ?_
          refine lv_ior hx hb dX3_growBackwards_82 ?_
          refine lv_istore (lv' := [(5, .int (r11 ||| (0 &&& (r14 ^^^ (-1))))), (4, .int 0), (0, .ref (ga g 29)), (1, .ref (ga g 13)), (2, .int v2), (3, .int v3)]) hx hb dX3_growBackwards_83 hl (by decide) rfl (fun ls hl => ?_)
          refine lv_iload_n hx hb dX3_growBackwards_85 rfl (lv_at hl 4 rfl) ?_
          refine lv_if_ne (tgt := 100) hx hb dX3_growBackwards_86 (by decide) (fun c17 => ?_) (fun c17 => ?_)
          · have hm := (if_neg c17).symm.trans hm
            refine lv_iconst (v := 1) hx hb dX3_growBackwards_100 (by decide) ?_
            refine lv_goto (tgt := 105) hx hb dX3_growBackwards_101 (by decide) ?_
            refine lv_istore_n (lv' := [(2, .int 1), (5, .int (r11 ||| (0 &&& (r14 ^^^ (-1))))), (4, .int 0), (0, .ref (ga g 29)), (1, .ref (ga g 13)), (3, .int v3)]) hx hb dX3_growBackwards_105 rfl hl (by decide) rfl (fun ls hl => ?_)
            refine lv_aload_n hx hb dX3_growBackwards_106 rfl (lv_at hl 3 rfl) ?_
            refine gf_29_0 hx hb ht hK hI mw_170 (fun _ h9 => h9) hown dX3_growBackwards_107 ?_
            refine lv_iload_n hx hb dX3_growBackwards_110 rfl (lv_at hl 5 rfl) ?_
            refine lv_iload hx hb dX3_growBackwards_111 (lv_at hl 1 rfl) ?_
            obtain ⟨g18, hm⟩ := gb_some hm
            refine sv_30 hx hb hK hI g18 dX3_growBackwards_113 (fun H locs hI => ?_)
            refine lv_iinc (v := v3 + (-1)) (lv' := [(3, .int (v3 + (-1))), (2, .int 1), (5, .int (r11 ||| (0 &&& (r14 ^^^ (-1))))), (4, .int 0), (0, .ref (ga g 29)), (1, .ref (ga g 13))]) hx hb dX3_growBackwards_114 hl (k := 5) rfl (congrArg (fun z => v3 + z) (show Int32.ofInt (-1) = (-1) by decide)) (by decide) rfl (fun ls hl => ?_)
            refine lv_goto (tgt := 9) hx hb dX3_growBackwards_117 (by decide) ?_
            exact ih (sg σ15 30 (ix v3) (r11 ||| (0 &&& (r14 ^^^ (-1))))) 1 (v3 + (-1)) _ _ _ hm hI (lv_sub hl [4, 5, 1, 0] rfl) hx120
          · have hm := (if_pos c17).symm.trans hm
            refine lv_iload hx hb dX3_growBackwards_89 (lv_at hl 0 rfl) ?_
            refine lv_aload_n hx hb dX3_growBackwards_91 rfl (lv_at hl 2 rfl) ?_
            refine gf_29_0 hx hb ht hK hI mw_170 (fun _ h9 => h9) hown dX3_growBackwards_92 ?_
            refine lv_iload_n hx hb dX3_growBackwards_95 rfl (lv_at hl 5 rfl) ?_
            obtain ⟨g19, hm⟩ := gb_some hm
            refine ld_30 hx hb hK hI g19 (v := σ15 30 (ix v3)) rfl dX3_growBackwards_96 ?_
            refine lv_icmp_eq (tgt := 104) hx hb dX3_growBackwards_97 (by decide) (fun c20 => ?_) (fun c20 => ?_)
            · have hm := (if_pos c20).symm.trans hm
              refine lv_iconst (v := 0) hx hb dX3_growBackwards_104 (by decide) ?_
              refine lv_istore_n (lv' := [(2, .int 0), (5, .int (r11 ||| (0 &&& (r14 ^^^ (-1))))), (4, .int 0), (0, .ref (ga g 29)), (1, .ref (ga g 13)), (3, .int v3)]) hx hb dX3_growBackwards_105 rfl hl (by decide) rfl (fun ls hl => ?_)
              refine lv_aload_n hx hb dX3_growBackwards_106 rfl (lv_at hl 3 rfl) ?_
              refine gf_29_0 hx hb ht hK hI mw_170 (fun _ h9 => h9) hown dX3_growBackwards_107 ?_
              refine lv_iload_n hx hb dX3_growBackwards_110 rfl (lv_at hl 5 rfl) ?_
              refine lv_iload hx hb dX3_growBackwards_111 (lv_at hl 1 rfl) ?_
              obtain ⟨g21, hm⟩ := gb_some hm
              refine sv_30 hx hb hK hI g21 dX3_growBackwards_113 (fun H locs hI => ?_)
              refine lv_iinc (v := v3 + (-1)) (lv' := [(3, .int (v3 + (-1))), (2, .int 0), (5, .int (r11 ||| (0 &&& (r14 ^^^ (-1))))), (4, .int 0), (0, .ref (ga g 29)), (1, .ref (ga g 13))]) hx hb dX3_growBackwards_114 hl (k := 5) rfl (congrArg (fun z => v3 + z) (show Int32.ofInt (-1) = (-1) by decide)) (by decide) rfl (fun ls hl => ?_)
              refine lv_goto (tgt := 9) hx hb dX3_growBackwards_117 (by decide) ?_
              exact ih (sg σ15 30 (ix v3) (r11 ||| (0 &&& (r14 ^^^ (-1))))) 0 (v3 + (-1)) _ _ _ hm hI (lv_sub hl [4, 5, 1, 0] rfl) hx120
            · have hm := (if_neg c20).symm.trans hm
              refine lv_iconst (v := 1) hx hb dX3_growBackwards_100 (by decide) ?_
              refine lv_goto (tgt := 105) hx hb dX3_growBackwards_101 (by decide) ?_
              refine lv_istore_n (lv' := [(2, .int 1), (5, .int (r11 ||| (0 &&& (r14 ^^^ (-1))))), (4, .int 0), (0, .ref (ga g 29)), (1, .ref (ga g 13)), (3, .int v3)]) hx hb dX3_growBackwards_105 rfl hl (by decide) rfl (fun ls hl => ?_)
              refine lv_aload_n hx hb dX3_growBackwards_106 rfl (lv_at hl 3 rfl) ?_
              refine gf_29_0 hx hb ht hK hI mw_170 (fun _ h9 => h9) hown dX3_growBackwards_107 ?_
              refine lv_iload_n hx hb dX3_growBackwards_110 rfl (lv_at hl 5 rfl) ?_
              refine lv_iload hx hb dX3_growBackwards_111 (lv_at hl 1 rfl) ?_
              obtain ⟨g22, hm⟩ := gb_some hm
              refine sv_30 hx hb hK hI g22 dX3_growBackwards_113 (fun H locs hI => ?_)
              refine lv_iinc (v := v3 + (-1)) (lv' := [(3, .int (v3 + (-1))), (2, .int 1), (5, .int (r11 ||| (0 &&& (r14 ^^^ (-1))))), (4, .int 0), (0, .ref (ga g 29)), (1, .ref (ga g 13))]) hx hb dX3_growBackwards_114 hl (k := 5) rfl (congrArg (fun z => v3 + z) (show Int32.ofInt (-1) = (-1) by decide)) (by decide) rfl (fun ls hl => ?_)
              refine lv_goto (tgt := 9) hx hb dX3_growBackwards_117 (by decide) ?_
              exact ih (sg σ15 30 (ix v3) (r11 ||| (0 &&& (r14 ^^^ (-1))))) 1 (v3 + (-1)) _ _ _ hm hI (lv_sub hl [4, 5, 1, 0] rfl) hx120
        · have hm := (if_neg c9).symm.trans hm
          refine lv_iload hx hb dX3_growBackwards_43 (lv_at hl 0 rfl) ?_
          refine lv_aload_n hx hb dX3_growBackwards_45 rfl (lv_at hl 1 rfl) ?_
          refine gf_29_0 hx hb ht hK hI mw_170 (fun _ h9 => h9) hown dX3_growBackwards_46 ?_
          refine lv_aload_n hx hb dX3_growBackwards_49 rfl (lv_at hl 2 rfl) ?_
          refine gf_13_2 hx hb ht hK hI mw_176 (fun _ h9 => h9) hown dX3_growBackwards_50 ?_
          refine lv_iload_n hx hb dX3_growBackwards_53 rfl (lv_at hl 4 rfl) ?_
          obtain ⟨g23, hm⟩ := gb_some hm
          refine ld_16 hx hb hK hI g23 (v := σ7 16 (ix v3)) rfl dX3_growBackwards_54 ?_
          obtain ⟨g24, hm⟩ := gb_some hm
          refine ld_30 hx hb hK hI g24 (v := σ7 30 (ix (σ7 16 (ix v3)))) rfl dX3_growBackwards_55 ?_
          refine lv_ior hx hb dX3_growBackwards_56 ?_
          refine lv_istore (lv' := [(4, .int (0 ||| (σ7 30 (ix (σ7 16 (ix v3)))))), (0, .ref (ga g 29)), (1, .ref (ga g 13)), (2, .int v2), (3, .int v3)]) hx hb dX3_growBackwards_57 hl (by decide) rfl (fun ls hl => ?_)
          refine lv_aload_n hx hb dX3_growBackwards_59 rfl (lv_at hl 1 rfl) ?_
          refine gf_29_1 hx hb ht hK hI mw_171 (fun _ h9 => h9) hown dX3_growBackwards_60 ?_
          refine lv_iload_n hx hb dX3_growBackwards_63 rfl (lv_at hl 4 rfl) ?_
          refine lv_iload hx hb dX3_growBackwards_64 (lv_at hl 0 rfl) ?_
          obtain ⟨g25, hm⟩ := gb_some hm
          refine sv_31 hx hb hK hI g25 dX3_growBackwards_66 (fun H locs hI => ?_)
          refine lv_aload_n hx hb dX3_growBackwards_67 rfl (lv_at hl 2 rfl) ?_
          refine lv_iload_n hx hb dX3_growBackwards_68 rfl (lv_at hl 4 rfl) ?_
          obtain ⟨r26, σ27, h28, hm⟩ := bd_some hm
          refine k_i hI hA (va_runV (As := [.int v3]) (rest := []) hX (c_X5_readSet N n h28 _) (cwV 1 ht (in_V mw_183 mw_136 mw_137 mw_138 mw_119) rfl rfl rfl pd_X5_readSet ⟨Nat.le_of_ble_eq_true rfl, Nat.le_of_ble_eq_true rfl⟩) ⟨q_blind, va_recv hK hI.1 (ci := 4) (q0 := 13) rfl rfl, q_to hI hK hN hZ hA⟩ rfl rfl hl.1 rfl (lv_room (Nat.le_of_ble_eq_true rfl)) dX3_growBackwards_69 (by decide)) (fun H locs hI => ?_)
          refine lv_iload hx hb dX3_growBackwards_72 (lv_at hl 0 rfl) ?_
          refine lv_aload_n hx hb dX3_growBackwards_74 rfl (lv_at hl 2 rfl) ?_
          refine lv_iload_n hx hb dX3_growBackwards_75 rfl (lv_at hl 4 rfl) ?_
          obtain ⟨r29, σ30, h31, hm⟩ := bd_some hm
          refine k_i hI hA (va_runV (As := [.int v3]) (rest := [.int (0 ||| (σ7 30 (ix (σ7 16 (ix v3))))), .int r26]) hX (c_X5_writtenSet N n h31 _) (cwV 1 ht (in_V mw_184 mw_157 mw_158 mw_138 mw_132) rfl rfl rfl pd_X5_writtenSet ⟨Nat.le_of_ble_eq_true rfl, Nat.le_of_ble_eq_true rfl⟩) ⟨q_blind, va_recv hK hI.1 (ci := 4) (q0 := 13) rfl rfl, q_to hI hK hN hZ hA⟩ rfl rfl hl.1 rfl (lv_room (Nat.le_of_ble_eq_true rfl)) dX3_growBackwards_76 (by decide)) (fun H locs hI => ?_)
          refine lv_iconst (v := (-1)) hx hb dX3_growBackwards_79 (by decide) ?_
          refine lv_ixor hx hb dX3_growBackwards_80 ?_
          refine lv_iand hx hb dX3_growBackwards_81 ?_
          refine lv_ior hx hb dX3_growBackwards_82 ?_
          refine lv_istore (lv' := [(5, .int (r26 ||| ((0 ||| (σ7 30 (ix (σ7 16 (ix v3))))) &&& (r29 ^^^ (-1))))), (4, .int (0 ||| (σ7 30 (ix (σ7 16 (ix v3)))))), (0, .ref (ga g 29)), (1, .ref (ga g 13)), (2, .int v2), (3, .int v3)]) hx hb dX3_growBackwards_83 hl (by decide) rfl (fun ls hl => ?_)
          refine lv_iload_n hx hb dX3_growBackwards_85 rfl (lv_at hl 4 rfl) ?_
          refine lv_if_ne (tgt := 100) hx hb dX3_growBackwards_86 (by decide) (fun c32 => ?_) (fun c32 => ?_)
          · have hm := (if_neg c32).symm.trans hm
            refine lv_iconst (v := 1) hx hb dX3_growBackwards_100 (by decide) ?_
            refine lv_goto (tgt := 105) hx hb dX3_growBackwards_101 (by decide) ?_
            refine lv_istore_n (lv' := [(2, .int 1), (5, .int (r26 ||| ((0 ||| (σ7 30 (ix (σ7 16 (ix v3))))) &&& (r29 ^^^ (-1))))), (4, .int (0 ||| (σ7 30 (ix (σ7 16 (ix v3)))))), (0, .ref (ga g 29)), (1, .ref (ga g 13)), (3, .int v3)]) hx hb dX3_growBackwards_105 rfl hl (by decide) rfl (fun ls hl => ?_)
            refine lv_aload_n hx hb dX3_growBackwards_106 rfl (lv_at hl 3 rfl) ?_
            refine gf_29_0 hx hb ht hK hI mw_170 (fun _ h9 => h9) hown dX3_growBackwards_107 ?_
            refine lv_iload_n hx hb dX3_growBackwards_110 rfl (lv_at hl 5 rfl) ?_
            refine lv_iload hx hb dX3_growBackwards_111 (lv_at hl 1 rfl) ?_
            obtain ⟨g33, hm⟩ := gb_some hm
            refine sv_30 hx hb hK hI g33 dX3_growBackwards_113 (fun H locs hI => ?_)
            refine lv_iinc (v := v3 + (-1)) (lv' := [(3, .int (v3 + (-1))), (2, .int 1), (5, .int (r26 ||| ((0 ||| (σ7 30 (ix (σ7 16 (ix v3))))) &&& (r29 ^^^ (-1))))), (4, .int (0 ||| (σ7 30 (ix (σ7 16 (ix v3)))))), (0, .ref (ga g 29)), (1, .ref (ga g 13))]) hx hb dX3_growBackwards_114 hl (k := 5) rfl (congrArg (fun z => v3 + z) (show Int32.ofInt (-1) = (-1) by decide)) (by decide) rfl (fun ls hl => ?_)
            refine lv_goto (tgt := 9) hx hb dX3_growBackwards_117 (by decide) ?_
            exact ih (sg σ30 30 (ix v3) (r26 ||| ((0 ||| (σ7 30 (ix (σ7 16 (ix v3))))) &&& (r29 ^^^ (-1))))) 1 (v3 + (-1)) _ _ _ hm hI (lv_sub hl [4, 5, 1, 0] rfl) hx120
          · have hm := (if_pos c32).symm.trans hm
            refine lv_iload hx hb dX3_growBackwards_89 (lv_at hl 0 rfl) ?_
            refine lv_aload_n hx hb dX3_growBackwards_91 rfl (lv_at hl 2 rfl) ?_
            refine gf_29_0 hx hb ht hK hI mw_170 (fun _ h9 => h9) hown dX3_growBackwards_92 ?_
            refine lv_iload_n hx hb dX3_growBackwards_95 rfl (lv_at hl 5 rfl) ?_
            obtain ⟨g34, hm⟩ := gb_some hm
            refine ld_30 hx hb hK hI g34 (v := σ30 30 (ix v3)) rfl dX3_growBackwards_96 ?_
            refine lv_icmp_eq (tgt := 104) hx hb dX3_growBackwards_97 (by decide) (fun c35 => ?_) (fun c35 => ?_)
            · have hm := (if_pos c35).symm.trans hm
              refine lv_iconst (v := 0) hx hb dX3_growBackwards_104 (by decide) ?_
              refine lv_istore_n (lv' := [(2, .int 0), (5, .int (r26 ||| ((0 ||| (σ7 30 (ix (σ7 16 (ix v3))))) &&& (r29 ^^^ (-1))))), (4, .int (0 ||| (σ7 30 (ix (σ7 16 (ix v3)))))), (0, .ref (ga g 29)), (1, .ref (ga g 13)), (3, .int v3)]) hx hb dX3_growBackwards_105 rfl hl (by decide) rfl (fun ls hl => ?_)
              refine lv_aload_n hx hb dX3_growBackwards_106 rfl (lv_at hl 3 rfl) ?_
              refine gf_29_0 hx hb ht hK hI mw_170 (fun _ h9 => h9) hown dX3_growBackwards_107 ?_
              refine lv_iload_n hx hb dX3_growBackwards_110 rfl (lv_at hl 5 rfl) ?_
              refine lv_iload hx hb dX3_growBackwards_111 (lv_at hl 1 rfl) ?_
              obtain ⟨g36, hm⟩ := gb_some hm
              refine sv_30 hx hb hK hI g36 dX3_growBackwards_113 (fun H locs hI => ?_)
              refine lv_iinc (v := v3 + (-1)) (lv' := [(3, .int (v3 + (-1))), (2, .int 0), (5, .int (r26 ||| ((0 ||| (σ7 30 (ix (σ7 16 (ix v3))))) &&& (r29 ^^^ (-1))))), (4, .int (0 ||| (σ7 30 (ix (σ7 16 (ix v3)))))), (0, .ref (ga g 29)), (1, .ref (ga g 13))]) hx hb dX3_growBackwards_114 hl (k := 5) rfl (congrArg (fun z => v3 + z) (show Int32.ofInt (-1) = (-1) by decide)) (by decide) rfl (fun ls hl => ?_)
              refine lv_goto (tgt := 9) hx hb dX3_growBackwards_117 (by decide) ?_
              exact ih (sg σ30 30 (ix v3) (r26 ||| ((0 ||| (σ7 30 (ix (σ7 16 (ix v3))))) &&& (r29 ^^^ (-1))))) 0 (v3 + (-1)) _ _ _ hm hI (lv_sub hl [4, 5, 1, 0] rfl) hx120
            · have hm := (if_neg c35).symm.trans hm
              refine lv_iconst (v := 1) hx hb dX3_growBackwards_100 (by decide) ?_
              refine lv_goto (tgt := 105) hx hb dX3_growBackwards_101 (by decide) ?_
              refine lv_istore_n (lv' := [(2, .int 1), (5, .int (r26 ||| ((0 ||| (σ7 30 (ix (σ7 16 (ix v3))))) &&& (r29 ^^^ (-1))))), (4, .int (0 ||| (σ7 30 (ix (σ7 16 (ix v3)))))), (0, .ref (ga g 29)), (1, .ref (ga g 13)), (3, .int v3)]) hx hb dX3_growBackwards_105 rfl hl (by decide) rfl (fun ls hl => ?_)
              refine lv_aload_n hx hb dX3_growBackwards_106 rfl (lv_at hl 3 rfl) ?_
              refine gf_29_0 hx hb ht hK hI mw_170 (fun _ h9 => h9) hown dX3_growBackwards_107 ?_
              refine lv_iload_n hx hb dX3_growBackwards_110 rfl (lv_at hl 5 rfl) ?_
              refine lv_iload hx hb dX3_growBackwards_111 (lv_at hl 1 rfl) ?_
              obtain ⟨g37, hm⟩ := gb_some hm
              refine sv_30 hx hb hK hI g37 dX3_growBackwards_113 (fun H locs hI => ?_)
              refine lv_iinc (v := v3 + (-1)) (lv' := [(3, .int (v3 + (-1))), (2, .int 1), (5, .int (r26 ||| ((0 ||| (σ7 30 (ix (σ7 16 (ix v3))))) &&& (r29 ^^^ (-1))))), (4, .int (0 ||| (σ7 30 (ix (σ7 16 (ix v3)))))), (0, .ref (ga g 29)), (1, .ref (ga g 13))]) hx hb dX3_growBackwards_114 hl (k := 5) rfl (congrArg (fun z => v3 + z) (show Int32.ofInt (-1) = (-1) by decide)) (by decide) rfl (fun ls hl => ?_)
              refine lv_goto (tgt := 9) hx hb dX3_growBackwards_117 (by decide) ?_
              exact ih (sg σ30 30 (ix v3) (r26 ||| ((0 ||| (σ7 30 (ix (σ7 16 (ix v3))))) &&& (r29 ^^^ (-1))))) 1 (v3 + (-1)) _ _ _ hm hI (lv_sub hl [4, 5, 1, 0] rfl) hx120
      · have hm := (if_neg c5).symm.trans hm
        refine lv_aload_n hx hb dX3_growBackwards_21 rfl (lv_at hl 0 rfl) ?_
        refine gf_29_0 hx hb ht hK hI mw_170 (fun _ h9 => h9) hown dX3_growBackwards_22 ?_
        refine lv_iload_n hx hb dX3_growBackwards_25 rfl (lv_at hl 3 rfl) ?_
        refine lv_iconst (v := 1) hx hb dX3_growBackwards_26 (by decide) ?_
        refine lv_iadd hx hb dX3_growBackwards_27 ?_
        obtain ⟨g38, hm⟩ := gb_some hm
        refine ld_30 hx hb hK hI g38 (v := σ3 30 (ix (v3 + 1))) rfl dX3_growBackwards_28 ?_
        refine lv_goto (tgt := 33) hx hb dX3_growBackwards_29 (by decide) ?_
        refine lv_istore (lv' := [(4, .int (σ3 30 (ix (v3 + 1)))), (0, .ref (ga g 29)), (1, .ref (ga g 13)), (2, .int v2), (3, .int v3)]) hx hb dX3_growBackwards_33 hl (by decide) rfl (fun ls hl => ?_)
        refine lv_aload_n hx hb dX3_growBackwards_35 rfl (lv_at hl 2 rfl) ?_
        refine lv_iload_n hx hb dX3_growBackwards_36 rfl (lv_at hl 4 rfl) ?_
        obtain ⟨r39, σ40, h41, hm⟩ := bd_some hm
        refine k_i hI hA (va_runV (As := [.int v3]) (rest := []) hX (c_X5_jumps N n h41 _) (cwV 1 ht (in_V mw_180 mw_181 mw_182 mw_138 mw_174) rfl rfl rfl pd_X5_jumps ⟨Nat.le_of_ble_eq_true rfl, Nat.le_of_ble_eq_true rfl⟩) ⟨q_blind, va_recv hK hI.1 (ci := 4) (q0 := 13) rfl rfl, q_to hI hK hN hZ hA⟩ rfl rfl hl.1 rfl (lv_room (Nat.le_of_ble_eq_true rfl)) dX3_growBackwards_37 (by decide)) (fun H locs hI => ?_)
        refine lv_if_eq (tgt := 59) hx hb dX3_growBackwards_40 (by decide) (fun c42 => ?_) (fun c42 => ?_)
        · have hm := (if_pos c42).symm.trans hm
          refine lv_aload_n hx hb dX3_growBackwards_59 rfl (lv_at hl 1 rfl) ?_
          refine gf_29_1 hx hb ht hK hI mw_171 (fun _ h9 => h9) hown dX3_growBackwards_60 ?_
          refine lv_iload_n hx hb dX3_growBackwards_63 rfl (lv_at hl 4 rfl) ?_
          refine lv_iload hx hb dX3_growBackwards_64 (lv_at hl 0 rfl) ?_
          obtain ⟨g43, hm⟩ := gb_some hm
          refine sv_31 hx hb hK hI g43 dX3_growBackwards_66 (fun H locs hI => ?_)
          refine lv_aload_n hx hb dX3_growBackwards_67 rfl (lv_at hl 2 rfl) ?_
          refine lv_iload_n hx hb dX3_growBackwards_68 rfl (lv_at hl 4 rfl) ?_
          obtain ⟨r44, σ45, h46, hm⟩ := bd_some hm
          refine k_i hI hA (va_runV (As := [.int v3]) (rest := []) hX (c_X5_readSet N n h46 _) (cwV 1 ht (in_V mw_183 mw_136 mw_137 mw_138 mw_119) rfl rfl rfl pd_X5_readSet ⟨Nat.le_of_ble_eq_true rfl, Nat.le_of_ble_eq_true rfl⟩) ⟨q_blind, va_recv hK hI.1 (ci := 4) (q0 := 13) rfl rfl, q_to hI hK hN hZ hA⟩ rfl rfl hl.1 rfl (lv_room (Nat.le_of_ble_eq_true rfl)) dX3_growBackwards_69 (by decide)) (fun H locs hI => ?_)
          refine lv_iload hx hb dX3_growBackwards_72 (lv_at hl 0 rfl) ?_
          refine lv_aload_n hx hb dX3_growBackwards_74 rfl (lv_at hl 2 rfl) ?_
          refine lv_iload_n hx hb dX3_growBackwards_75 rfl (lv_at hl 4 rfl) ?_
          obtain ⟨r47, σ48, h49, hm⟩ := bd_some hm
          refine k_i hI hA (va_runV (As := [.int v3]) (rest := [.int (σ3 30 (ix (v3 + 1))), .int r44]) hX (c_X5_writtenSet N n h49 _) (cwV 1 ht (in_V mw_184 mw_157 mw_158 mw_138 mw_132) rfl rfl rfl pd_X5_writtenSet ⟨Nat.le_of_ble_eq_true rfl, Nat.le_of_ble_eq_true rfl⟩) ⟨q_blind, va_recv hK hI.1 (ci := 4) (q0 := 13) rfl rfl, q_to hI hK hN hZ hA⟩ rfl rfl hl.1 rfl (lv_room (Nat.le_of_ble_eq_true rfl)) dX3_growBackwards_76 (by decide)) (fun H locs hI => ?_)
          refine lv_iconst (v := (-1)) hx hb dX3_growBackwards_79 (by decide) ?_
          refine lv_ixor hx hb dX3_growBackwards_80 ?_
          refine lv_iand hx hb dX3_growBackwards_81 ?_
          refine lv_ior hx hb dX3_growBackwards_82 ?_
          refine lv_istore (lv' := [(5, .int (r44 ||| ((σ3 30 (ix (v3 + 1))) &&& (r47 ^^^ (-1))))), (4, .int (σ3 30 (ix (v3 + 1)))), (0, .ref (ga g 29)), (1, .ref (ga g 13)), (2, .int v2), (3, .int v3)]) hx hb dX3_growBackwards_83 hl (by decide) rfl (fun ls hl => ?_)
          refine lv_iload_n hx hb dX3_growBackwards_85 rfl (lv_at hl 4 rfl) ?_
          refine lv_if_ne (tgt := 100) hx hb dX3_growBackwards_86 (by decide) (fun c50 => ?_) (fun c50 => ?_)
          · have hm := (if_neg c50).symm.trans hm
            refine lv_iconst (v := 1) hx hb dX3_growBackwards_100 (by decide) ?_
            refine lv_goto (tgt := 105) hx hb dX3_growBackwards_101 (by decide) ?_
            refine lv_istore_n (lv' := [(2, .int 1), (5, .int (r44 ||| ((σ3 30 (ix (v3 + 1))) &&& (r47 ^^^ (-1))))), (4, .int (σ3 30 (ix (v3 + 1)))), (0, .ref (ga g 29)), (1, .ref (ga g 13)), (3, .int v3)]) hx hb dX3_growBackwards_105 rfl hl (by decide) rfl (fun ls hl => ?_)
            refine lv_aload_n hx hb dX3_growBackwards_106 rfl (lv_at hl 3 rfl) ?_
            refine gf_29_0 hx hb ht hK hI mw_170 (fun _ h9 => h9) hown dX3_growBackwards_107 ?_
            refine lv_iload_n hx hb dX3_growBackwards_110 rfl (lv_at hl 5 rfl) ?_
            refine lv_iload hx hb dX3_growBackwards_111 (lv_at hl 1 rfl) ?_
            obtain ⟨g51, hm⟩ := gb_some hm
            refine sv_30 hx hb hK hI g51 dX3_growBackwards_113 (fun H locs hI => ?_)
            refine lv_iinc (v := v3 + (-1)) (lv' := [(3, .int (v3 + (-1))), (2, .int 1), (5, .int (r44 ||| ((σ3 30 (ix (v3 + 1))) &&& (r47 ^^^ (-1))))), (4, .int (σ3 30 (ix (v3 + 1)))), (0, .ref (ga g 29)), (1, .ref (ga g 13))]) hx hb dX3_growBackwards_114 hl (k := 5) rfl (congrArg (fun z => v3 + z) (show Int32.ofInt (-1) = (-1) by decide)) (by decide) rfl (fun ls hl => ?_)
            refine lv_goto (tgt := 9) hx hb dX3_growBackwards_117 (by decide) ?_
            exact ih (sg σ48 30 (ix v3) (r44 ||| ((σ3 30 (ix (v3 + 1))) &&& (r47 ^^^ (-1))))) 1 (v3 + (-1)) _ _ _ hm hI (lv_sub hl [4, 5, 1, 0] rfl) hx120
          · have hm := (if_pos c50).symm.trans hm
            refine lv_iload hx hb dX3_growBackwards_89 (lv_at hl 0 rfl) ?_
            refine lv_aload_n hx hb dX3_growBackwards_91 rfl (lv_at hl 2 rfl) ?_
            refine gf_29_0 hx hb ht hK hI mw_170 (fun _ h9 => h9) hown dX3_growBackwards_92 ?_
            refine lv_iload_n hx hb dX3_growBackwards_95 rfl (lv_at hl 5 rfl) ?_
            obtain ⟨g52, hm⟩ := gb_some hm
            refine ld_30 hx hb hK hI g52 (v := σ48 30 (ix v3)) rfl dX3_growBackwards_96 ?_
            refine lv_icmp_eq (tgt := 104) hx hb dX3_growBackwards_97 (by decide) (fun c53 => ?_) (fun c53 => ?_)
            · have hm := (if_pos c53).symm.trans hm
              refine lv_iconst (v := 0) hx hb dX3_growBackwards_104 (by decide) ?_
              refine lv_istore_n (lv' := [(2, .int 0), (5, .int (r44 ||| ((σ3 30 (ix (v3 + 1))) &&& (r47 ^^^ (-1))))), (4, .int (σ3 30 (ix (v3 + 1)))), (0, .ref (ga g 29)), (1, .ref (ga g 13)), (3, .int v3)]) hx hb dX3_growBackwards_105 rfl hl (by decide) rfl (fun ls hl => ?_)
              refine lv_aload_n hx hb dX3_growBackwards_106 rfl (lv_at hl 3 rfl) ?_
              refine gf_29_0 hx hb ht hK hI mw_170 (fun _ h9 => h9) hown dX3_growBackwards_107 ?_
              refine lv_iload_n hx hb dX3_growBackwards_110 rfl (lv_at hl 5 rfl) ?_
              refine lv_iload hx hb dX3_growBackwards_111 (lv_at hl 1 rfl) ?_
              obtain ⟨g54, hm⟩ := gb_some hm
              refine sv_30 hx hb hK hI g54 dX3_growBackwards_113 (fun H locs hI => ?_)
              refine lv_iinc (v := v3 + (-1)) (lv' := [(3, .int (v3 + (-1))), (2, .int 0), (5, .int (r44 ||| ((σ3 30 (ix (v3 + 1))) &&& (r47 ^^^ (-1))))), (4, .int (σ3 30 (ix (v3 + 1)))), (0, .ref (ga g 29)), (1, .ref (ga g 13))]) hx hb dX3_growBackwards_114 hl (k := 5) rfl (congrArg (fun z => v3 + z) (show Int32.ofInt (-1) = (-1) by decide)) (by decide) rfl (fun ls hl => ?_)
              refine lv_goto (tgt := 9) hx hb dX3_growBackwards_117 (by decide) ?_
              exact ih (sg σ48 30 (ix v3) (r44 ||| ((σ3 30 (ix (v3 + 1))) &&& (r47 ^^^ (-1))))) 0 (v3 + (-1)) _ _ _ hm hI (lv_sub hl [4, 5, 1, 0] rfl) hx120
            · have hm := (if_neg c53).symm.trans hm
              refine lv_iconst (v := 1) hx hb dX3_growBackwards_100 (by decide) ?_
              refine lv_goto (tgt := 105) hx hb dX3_growBackwards_101 (by decide) ?_
              refine lv_istore_n (lv' := [(2, .int 1), (5, .int (r44 ||| ((σ3 30 (ix (v3 + 1))) &&& (r47 ^^^ (-1))))), (4, .int (σ3 30 (ix (v3 + 1)))), (0, .ref (ga g 29)), (1, .ref (ga g 13)), (3, .int v3)]) hx hb dX3_growBackwards_105 rfl hl (by decide) rfl (fun ls hl => ?_)
              refine lv_aload_n hx hb dX3_growBackwards_106 rfl (lv_at hl 3 rfl) ?_
              refine gf_29_0 hx hb ht hK hI mw_170 (fun _ h9 => h9) hown dX3_growBackwards_107 ?_
              refine lv_iload_n hx hb dX3_growBackwards_110 rfl (lv_at hl 5 rfl) ?_
              refine lv_iload hx hb dX3_growBackwards_111 (lv_at hl 1 rfl) ?_
              obtain ⟨g55, hm⟩ := gb_some hm
              refine sv_30 hx hb hK hI g55 dX3_growBackwards_113 (fun H locs hI => ?_)
              refine lv_iinc (v := v3 + (-1)) (lv' := [(3, .int (v3 + (-1))), (2, .int 1), (5, .int (r44 ||| ((σ3 30 (ix (v3 + 1))) &&& (r47 ^^^ (-1))))), (4, .int (σ3 30 (ix (v3 + 1)))), (0, .ref (ga g 29)), (1, .ref (ga g 13))]) hx hb dX3_growBackwards_114 hl (k := 5) rfl (congrArg (fun z => v3 + z) (show Int32.ofInt (-1) = (-1) by decide)) (by decide) rfl (fun ls hl => ?_)
              refine lv_goto (tgt := 9) hx hb dX3_growBackwards_117 (by decide) ?_
              exact ih (sg σ48 30 (ix v3) (r44 ||| ((σ3 30 (ix (v3 + 1))) &&& (r47 ^^^ (-1))))) 1 (v3 + (-1)) _ _ _ hm hI (lv_sub hl [4, 5, 1, 0] rfl) hx120
        · have hm := (if_neg c42).symm.trans hm
          refine lv_iload hx hb dX3_growBackwards_43 (lv_at hl 0 rfl) ?_
          refine lv_aload_n hx hb dX3_growBackwards_45 rfl (lv_at hl 1 rfl) ?_
          refine gf_29_0 hx hb ht hK hI mw_170 (fun _ h9 => h9) hown dX3_growBackwards_46 ?_
          refine lv_aload_n hx hb dX3_growBackwards_49 rfl (lv_at hl 2 rfl) ?_
          refine gf_13_2 hx hb ht hK hI mw_176 (fun _ h9 => h9) hown dX3_growBackwards_50 ?_
          refine lv_iload_n hx hb dX3_growBackwards_53 rfl (lv_at hl 4 rfl) ?_
          obtain ⟨g56, hm⟩ := gb_some hm
          refine ld_16 hx hb hK hI g56 (v := σ40 16 (ix v3)) rfl dX3_growBackwards_54 ?_
          obtain ⟨g57, hm⟩ := gb_some hm
          refine ld_30 hx hb hK hI g57 (v := σ40 30 (ix (σ40 16 (ix v3)))) rfl dX3_growBackwards_55 ?_
          refine lv_ior hx hb dX3_growBackwards_56 ?_
          refine lv_istore (lv' := [(4, .int ((σ3 30 (ix (v3 + 1))) ||| (σ40 30 (ix (σ40 16 (ix v3)))))), (0, .ref (ga g 29)), (1, .ref (ga g 13)), (2, .int v2), (3, .int v3)]) hx hb dX3_growBackwards_57 hl (by decide) rfl (fun ls hl => ?_)
          refine lv_aload_n hx hb dX3_growBackwards_59 rfl (lv_at hl 1 rfl) ?_
          refine gf_29_1 hx hb ht hK hI mw_171 (fun _ h9 => h9) hown dX3_growBackwards_60 ?_
          refine lv_iload_n hx hb dX3_growBackwards_63 rfl (lv_at hl 4 rfl) ?_
          refine lv_iload hx hb dX3_growBackwards_64 (lv_at hl 0 rfl) ?_
          obtain ⟨g58, hm⟩ := gb_some hm
          refine sv_31 hx hb hK hI g58 dX3_growBackwards_66 (fun H locs hI => ?_)
          refine lv_aload_n hx hb dX3_growBackwards_67 rfl (lv_at hl 2 rfl) ?_
          refine lv_iload_n hx hb dX3_growBackwards_68 rfl (lv_at hl 4 rfl) ?_
          obtain ⟨r59, σ60, h61, hm⟩ := bd_some hm
          refine k_i hI hA (va_runV (As := [.int v3]) (rest := []) hX (c_X5_readSet N n h61 _) (cwV 1 ht (in_V mw_183 mw_136 mw_137 mw_138 mw_119) rfl rfl rfl pd_X5_readSet ⟨Nat.le_of_ble_eq_true rfl, Nat.le_of_ble_eq_true rfl⟩) ⟨q_blind, va_recv hK hI.1 (ci := 4) (q0 := 13) rfl rfl, q_to hI hK hN hZ hA⟩ rfl rfl hl.1 rfl (lv_room (Nat.le_of_ble_eq_true rfl)) dX3_growBackwards_69 (by decide)) (fun H locs hI => ?_)
          refine lv_iload hx hb dX3_growBackwards_72 (lv_at hl 0 rfl) ?_
          refine lv_aload_n hx hb dX3_growBackwards_74 rfl (lv_at hl 2 rfl) ?_
          refine lv_iload_n hx hb dX3_growBackwards_75 rfl (lv_at hl 4 rfl) ?_
          obtain ⟨r62, σ63, h64, hm⟩ := bd_some hm
          refine k_i hI hA (va_runV (As := [.int v3]) (rest := [.int ((σ3 30 (ix (v3 + 1))) ||| (σ40 30 (ix (σ40 16 (ix v3))))), .int r59]) hX (c_X5_writtenSet N n h64 _) (cwV 1 ht (in_V mw_184 mw_157 mw_158 mw_138 mw_132) rfl rfl rfl pd_X5_writtenSet ⟨Nat.le_of_ble_eq_true rfl, Nat.le_of_ble_eq_true rfl⟩) ⟨q_blind, va_recv hK hI.1 (ci := 4) (q0 := 13) rfl rfl, q_to hI hK hN hZ hA⟩ rfl rfl hl.1 rfl (lv_room (Nat.le_of_ble_eq_true rfl)) dX3_growBackwards_76 (by decide)) (fun H locs hI => ?_)
          refine lv_iconst (v := (-1)) hx hb dX3_growBackwards_79 (by decide) ?_
          refine lv_ixor hx hb dX3_growBackwards_80 ?_
          refine lv_iand hx hb dX3_growBackwards_81 ?_
          refine lv_ior hx hb dX3_growBackwards_82 ?_
          refine lv_istore (lv' := [(5, .int (r59 ||| (((σ3 30 (ix (v3 + 1))) ||| (σ40 30 (ix (σ40 16 (ix v3))))) &&& (r62 ^^^ (-1))))), (4, .int ((σ3 30 (ix (v3 + 1))) ||| (σ40 30 (ix (σ40 16 (ix v3)))))), (0, .ref (ga g 29)), (1, .ref (ga g 13)), (2, .int v2), (3, .int v3)]) hx hb dX3_growBackwards_83 hl (by decide) rfl (fun ls hl => ?_)
          refine lv_iload_n hx hb dX3_growBackwards_85 rfl (lv_at hl 4 rfl) ?_
          refine lv_if_ne (tgt := 100) hx hb dX3_growBackwards_86 (by decide) (fun c65 => ?_) (fun c65 => ?_)
          · have hm := (if_neg c65).symm.trans hm
            refine lv_iconst (v := 1) hx hb dX3_growBackwards_100 (by decide) ?_
            refine lv_goto (tgt := 105) hx hb dX3_growBackwards_101 (by decide) ?_
            refine lv_istore_n (lv' := [(2, .int 1), (5, .int (r59 ||| (((σ3 30 (ix (v3 + 1))) ||| (σ40 30 (ix (σ40 16 (ix v3))))) &&& (r62 ^^^ (-1))))), (4, .int ((σ3 30 (ix (v3 + 1))) ||| (σ40 30 (ix (σ40 16 (ix v3)))))), (0, .ref (ga g 29)), (1, .ref (ga g 13)), (3, .int v3)]) hx hb dX3_growBackwards_105 rfl hl (by decide) rfl (fun ls hl => ?_)
            refine lv_aload_n hx hb dX3_growBackwards_106 rfl (lv_at hl 3 rfl) ?_
            refine gf_29_0 hx hb ht hK hI mw_170 (fun _ h9 => h9) hown dX3_growBackwards_107 ?_
            refine lv_iload_n hx hb dX3_growBackwards_110 rfl (lv_at hl 5 rfl) ?_
            refine lv_iload hx hb dX3_growBackwards_111 (lv_at hl 1 rfl) ?_
            obtain ⟨g66, hm⟩ := gb_some hm
            refine sv_30 hx hb hK hI g66 dX3_growBackwards_113 (fun H locs hI => ?_)
            refine lv_iinc (v := v3 + (-1)) (lv' := [(3, .int (v3 + (-1))), (2, .int 1), (5, .int (r59 ||| (((σ3 30 (ix (v3 + 1))) ||| (σ40 30 (ix (σ40 16 (ix v3))))) &&& (r62 ^^^ (-1))))), (4, .int ((σ3 30 (ix (v3 + 1))) ||| (σ40 30 (ix (σ40 16 (ix v3)))))), (0, .ref (ga g 29)), (1, .ref (ga g 13))]) hx hb dX3_growBackwards_114 hl (k := 5) rfl (congrArg (fun z => v3 + z) (show Int32.ofInt (-1) = (-1) by decide)) (by decide) rfl (fun ls hl => ?_)
            refine lv_goto (tgt := 9) hx hb dX3_growBackwards_117 (by decide) ?_
            exact ih (sg σ63 30 (ix v3) (r59 ||| (((σ3 30 (ix (v3 + 1))) ||| (σ40 30 (ix (σ40 16 (ix v3))))) &&& (r62 ^^^ (-1))))) 1 (v3 + (-1)) _ _ _ hm hI (lv_sub hl [4, 5, 1, 0] rfl) hx120
          · have hm := (if_pos c65).symm.trans hm
            refine lv_iload hx hb dX3_growBackwards_89 (lv_at hl 0 rfl) ?_
            refine lv_aload_n hx hb dX3_growBackwards_91 rfl (lv_at hl 2 rfl) ?_
            refine gf_29_0 hx hb ht hK hI mw_170 (fun _ h9 => h9) hown dX3_growBackwards_92 ?_
            refine lv_iload_n hx hb dX3_growBackwards_95 rfl (lv_at hl 5 rfl) ?_
            obtain ⟨g67, hm⟩ := gb_some hm
            refine ld_30 hx hb hK hI g67 (v := σ63 30 (ix v3)) rfl dX3_growBackwards_96 ?_
            refine lv_icmp_eq (tgt := 104) hx hb dX3_growBackwards_97 (by decide) (fun c68 => ?_) (fun c68 => ?_)
            · have hm := (if_pos c68).symm.trans hm
              refine lv_iconst (v := 0) hx hb dX3_growBackwards_104 (by decide) ?_
              refine lv_istore_n (lv' := [(2, .int 0), (5, .int (r59 ||| (((σ3 30 (ix (v3 + 1))) ||| (σ40 30 (ix (σ40 16 (ix v3))))) &&& (r62 ^^^ (-1))))), (4, .int ((σ3 30 (ix (v3 + 1))) ||| (σ40 30 (ix (σ40 16 (ix v3)))))), (0, .ref (ga g 29)), (1, .ref (ga g 13)), (3, .int v3)]) hx hb dX3_growBackwards_105 rfl hl (by decide) rfl (fun ls hl => ?_)
              refine lv_aload_n hx hb dX3_growBackwards_106 rfl (lv_at hl 3 rfl) ?_
              refine gf_29_0 hx hb ht hK hI mw_170 (fun _ h9 => h9) hown dX3_growBackwards_107 ?_
              refine lv_iload_n hx hb dX3_growBackwards_110 rfl (lv_at hl 5 rfl) ?_
              refine lv_iload hx hb dX3_growBackwards_111 (lv_at hl 1 rfl) ?_
              obtain ⟨g69, hm⟩ := gb_some hm
              refine sv_30 hx hb hK hI g69 dX3_growBackwards_113 (fun H locs hI => ?_)
              refine lv_iinc (v := v3 + (-1)) (lv' := [(3, .int (v3 + (-1))), (2, .int 0), (5, .int (r59 ||| (((σ3 30 (ix (v3 + 1))) ||| (σ40 30 (ix (σ40 16 (ix v3))))) &&& (r62 ^^^ (-1))))), (4, .int ((σ3 30 (ix (v3 + 1))) ||| (σ40 30 (ix (σ40 16 (ix v3)))))), (0, .ref (ga g 29)), (1, .ref (ga g 13))]) hx hb dX3_growBackwards_114 hl (k := 5) rfl (congrArg (fun z => v3 + z) (show Int32.ofInt (-1) = (-1) by decide)) (by decide) rfl (fun ls hl => ?_)
              refine lv_goto (tgt := 9) hx hb dX3_growBackwards_117 (by decide) ?_
              exact ih (sg σ63 30 (ix v3) (r59 ||| (((σ3 30 (ix (v3 + 1))) ||| (σ40 30 (ix (σ40 16 (ix v3))))) &&& (r62 ^^^ (-1))))) 0 (v3 + (-1)) _ _ _ hm hI (lv_sub hl [4, 5, 1, 0] rfl) hx120
            · have hm := (if_neg c68).symm.trans hm
              refine lv_iconst (v := 1) hx hb dX3_growBackwards_100 (by decide) ?_
              refine lv_goto (tgt := 105) hx hb dX3_growBackwards_101 (by decide) ?_
              refine lv_istore_n (lv' := [(2, .int 1), (5, .int (r59 ||| (((σ3 30 (ix (v3 + 1))) ||| (σ40 30 (ix (σ40 16 (ix v3))))) &&& (r62 ^^^ (-1))))), (4, .int ((σ3 30 (ix (v3 + 1))) ||| (σ40 30 (ix (σ40 16 (ix v3)))))), (0, .ref (ga g 29)), (1, .ref (ga g 13)), (3, .int v3)]) hx hb dX3_growBackwards_105 rfl hl (by decide) rfl (fun ls hl => ?_)
              refine lv_aload_n hx hb dX3_growBackwards_106 rfl (lv_at hl 3 rfl) ?_
              refine gf_29_0 hx hb ht hK hI mw_170 (fun _ h9 => h9) hown dX3_growBackwards_107 ?_
              refine lv_iload_n hx hb dX3_growBackwards_110 rfl (lv_at hl 5 rfl) ?_
              refine lv_iload hx hb dX3_growBackwards_111 (lv_at hl 1 rfl) ?_
              obtain ⟨g70, hm⟩ := gb_some hm
              refine sv_30 hx hb hK hI g70 dX3_growBackwards_113 (fun H locs hI => ?_)
              refine lv_iinc (v := v3 + (-1)) (lv' := [(3, .int (v3 + (-1))), (2, .int 1), (5, .int (r59 ||| (((σ3 30 (ix (v3 + 1))) ||| (σ40 30 (ix (σ40 16 (ix v3))))) &&& (r62 ^^^ (-1))))), (4, .int ((σ3 30 (ix (v3 + 1))) ||| (σ40 30 (ix (σ40 16 (ix v3)))))), (0, .ref (ga g 29)), (1, .ref (ga g 13))]) hx hb dX3_growBackwards_114 hl (k := 5) rfl (congrArg (fun z => v3 + z) (show Int32.ofInt (-1) = (-1) by decide)) (by decide) rfl (fun ls hl => ?_)
              refine lv_goto (tgt := 9) hx hb dX3_growBackwards_117 (by decide) ?_
              exact ih (sg σ63 30 (ix v3) (r59 ||| (((σ3 30 (ix (v3 + 1))) ||| (σ40 30 (ix (σ40 16 (ix v3))))) &&& (r62 ^^^ (-1))))) 1 (v3 + (-1)) _ _ _ hm hI (lv_sub hl [4, 5, 1, 0] rfl) hx120
set_option maxHeartbeats 4000000 in
set_option maxRecDepth 100000 in
theorem c_X3_growBackwards {l : Launch} {g : GG} {q : Nat} (N n : Nat) {σ : Sg}  {r : Int32} {σ' : Sg} (hm : f_X3_growBackwards N n σ  = some (r, σ')) : CTi l yX3_growBackwards cX3_growBackwards 6 (some .boolean) 2 44 g q n [.ref (ga g 29), .ref (ga g 13)] σ r σ' := by
  refine e_z (r := r) (by decide) (Nat.le_of_ble_eq_true rfl) ?_
  intro p e s m args below meth c A Q ls hC hl hI
  obtain ⟨hX, hK, hN, hZ, hA, hR⟩ := id hC
  have hx : p.tables.exec = Jvm.exec := hX.1
  have hb : c.code = cX3_growBackwards := hX.2.1
  have hml : c.maxLocals = 6 := hX.2.2.1
  have hown : s.vm.findClass RX3 = some m.cls := hX.2.2.2.1
  have ht : ∀ w ∈ BIG, w.before args s = true := hX.2.2.2.2
  have hl : lv_has ls 6 [(0, .ref (ga g 29)), (1, .ref (ga g 13))] := hl
  unfold f_X3_growBackwards at hm
  refine lv_iconst (v := 0) hx hb dX3_growBackwards_0 (by decide) ?_
  refine lv_istore_n (lv' := [(2, .int 0), (0, .ref (ga g 29)), (1, .ref (ga g 13))]) hx hb dX3_growBackwards_1 rfl hl (by decide) rfl (fun ls hl => ?_)
  refine lv_aload_n hx hb dX3_growBackwards_2 rfl (lv_at hl 2 rfl) ?_
  refine gf_13_6 hx hb ht hK hI (v := σ 13 6) rfl mw_175 (fun _ h9 => h9) hown dX3_growBackwards_3 ?_
  refine lv_iconst (v := 1) hx hb dX3_growBackwards_6 (by decide) ?_
  refine lv_isub hx hb dX3_growBackwards_7 ?_
  refine lv_istore_n (lv' := [(3, .int ((σ 13 6) - 1)), (2, .int 0), (0, .ref (ga g 29)), (1, .ref (ga g 13))]) hx hb dX3_growBackwards_8 rfl hl (by decide) rfl (fun ls hl => ?_)
  refine lp_X3_growBackwards_9 hC N _ _ _ _ _ _ hm hI (lv_sub hl [2, 3, 1, 0] rfl) ?_
  intro σ71 w72 w73 H locs ls hm hI hl
  refine lv_iload_n hx hb dX3_growBackwards_120 rfl (lv_at hl 0 rfl) ?_
  obtain ⟨g74, hm⟩ := g01_some hm
  exact hR _ _ _ _ _ _ hm hI g74 dX3_growBackwards_121
