def lb_J7_fill_53178_46_5 (N n : Nat) (u1 : Int32) (K20 : (Sg → Int32 → Option (Int32 × Sg))) (rec : (Sg → Int32 → Option (Int32 × Sg))) (σ : Sg) (v2 : Int32) : Option (Int32 × Sg) := if 64 ≤ v2 then (K20 σ v2) else (gb v2 64 (rec (sg σ 46 (ix v2) u1) (v2 + 1)))
def lf_J7_fill_53178_46_5 (N n : Nat) (u1 : Int32) (K20 : (Sg → Int32 → Option (Int32 × Sg))) : Nat → (Sg → Int32 → Option (Int32 × Sg))
  | 0 => fun _ _ => none
  | k + 1 => lb_J7_fill_53178_46_5 N n u1 K20 (lf_J7_fill_53178_46_5 N n u1 K20 k)
def f_J7_fill_53178_46 (N n : Nat) (σ : Sg) (p1 : Int32) : Option (Int32 × Sg) := lf_J7_fill_53178_46_5 N n p1 (fun σ3 w4 => some (0, σ3)) N σ 0
set_option maxHeartbeats 4000000 in
set_option maxRecDepth 100000 in
theorem lp_J7_fill_53178_46_5 {p : Program} {l : Launch} {e : Env} {s : State} {m : MethodId} {args : Array Value} {below : List Frame} {meth : Method} {c : Code} {Q : State → Prop} {A : Nat → Prop} {g : GG} {q N n : Nat} {out : Int32 × Sg} {u1 : Int32} {K20 : (Sg → Int32 → Option (Int32 × Sg))}
    (hC : CXv p l e (qR 0 0) s m args below meth c cJ7_fill_53178 4 RJ7 g q n A Q (some out)) :
    ∀ (k : Nat) (σ : Sg) (v2 : Int32) (H : Heap) (locs : List Loc) (ls : Array Slot), lf_J7_fill_53178_46_5 N n u1 K20 k σ v2 = some out → wI g q n σ A s.heap H locs → lv_has ls 4 [(0, .ref (ga g 46)), (1, .int u1), (2, .int v2), (3, .int 64)] → (∀ (σ : Sg) (v2 : Int32) (H : Heap) (locs : List Loc) (ls : Array Slot), K20 σ v2 = some out → wI g q n σ A s.heap H locs → lv_has ls 4 [] → W p l e (qR 0 0) s m args below meth c H locs 0 0 Q (F0 m 20 ls [])) → W p l e (qR 0 0) s m args below meth c H locs 0 0 Q (F0 m 5 ls []) := by
  obtain ⟨hX, hK, hN, hZ, hA, hR⟩ := id hC
  have hx : p.tables.exec = Jvm.exec := hX.1
  have hb : c.code = cJ7_fill_53178 := hX.2.1
  have hml : c.maxLocals = 4 := hX.2.2.1
  have hown : s.vm.findClass RJ7 = some m.cls := hX.2.2.2.1
  have ht : ∀ w ∈ BIG, w.before args s = true := hX.2.2.2.2
  intro k
  induction k with
  | zero =>
    intro σ v2 H locs ls hm
    have hm : none = some out := hm
    exact nomatch hm
  | succ k ih =>
    intro σ v2 H locs ls hm hI hl hx20
    have hm : lb_J7_fill_53178_46_5 N n u1 K20 (lf_J7_fill_53178_46_5 N n u1 K20 k) σ v2 = some out := hm
    unfold lb_J7_fill_53178_46_5 at hm
    refine lv_iload_n hx hb dJ7_fill_53178_5 rfl (lv_at hl 2 rfl) ?_
    refine lv_iload_n hx hb dJ7_fill_53178_6 rfl (lv_at hl 3 rfl) ?_
    refine lv_icmp_ge (tgt := 20) hx hb dJ7_fill_53178_7 (by decide) (fun c1 => ?_) (fun c1 => ?_)
    · have hm := (if_pos c1).symm.trans hm
      exact hx20 σ v2 _ _ _ hm hI (lv_sub hl [] rfl)
    · have hm := (if_neg c1).symm.trans hm
      refine lv_aload_n hx hb dJ7_fill_53178_10 rfl (lv_at hl 0 rfl) ?_
      refine lv_iload_n hx hb dJ7_fill_53178_11 rfl (lv_at hl 2 rfl) ?_
      refine lv_iload_n hx hb dJ7_fill_53178_12 rfl (lv_at hl 1 rfl) ?_
      obtain ⟨g2, hm⟩ := gb_some hm
      refine sv_46 hx hb hK hI g2 dJ7_fill_53178_13 (fun H locs hI => ?_)
      refine lv_iinc (v := v2 + 1) (lv' := [(2, .int (v2 + 1)), (0, .ref (ga g 46)), (1, .int u1), (3, .int 64)]) hx hb dJ7_fill_53178_14 hl (k := 2) rfl (congrArg (fun z => v2 + z) (show Int32.ofInt 1 = 1 by decide)) (by decide) rfl (fun ls hl => ?_)
      refine lv_goto (tgt := 5) hx hb dJ7_fill_53178_17 (by decide) ?_
      exact ih (sg σ 46 (ix v2) u1) (v2 + 1) _ _ _ hm hI (lv_sub hl [1, 2, 0, 3] rfl) hx20
set_option maxHeartbeats 4000000 in
set_option maxRecDepth 100000 in
theorem c_J7_fill_53178_46 {l : Launch} {g : GG} {q : Nat} (N n : Nat) {σ : Sg} {p1 : Int32} {r : Int32} {σ' : Sg} (hm : f_J7_fill_53178_46 N n σ p1 = some (r, σ')) : CTv l yJ7_fill_53178 cJ7_fill_53178 4 none 0 0 g q n [.ref (ga g 46), .int p1] σ σ' := by
  refine e_v (r := r) (by decide) (Nat.le_of_ble_eq_true rfl) ?_
  intro p e s m args below meth c A Q ls hC hl hI
  obtain ⟨hX, hK, hN, hZ, hA, hR⟩ := id hC
  have hx : p.tables.exec = Jvm.exec := hX.1
  have hb : c.code = cJ7_fill_53178 := hX.2.1
  have hml : c.maxLocals = 4 := hX.2.2.1
  have hown : s.vm.findClass RJ7 = some m.cls := hX.2.2.2.1
  have ht : ∀ w ∈ BIG, w.before args s = true := hX.2.2.2.2
  have hl : lv_has ls 4 [(0, .ref (ga g 46)), (1, .int p1)] := hl
  unfold f_J7_fill_53178_46 at hm
  refine lv_iconst (v := 0) hx hb dJ7_fill_53178_0 (by decide) ?_
  refine lv_istore_n (lv' := [(2, .int 0), (0, .ref (ga g 46)), (1, .int p1)]) hx hb dJ7_fill_53178_1 rfl hl (by decide) rfl (fun ls hl => ?_)
  refine lv_aload_n hx hb dJ7_fill_53178_2 rfl (lv_at hl 1 rfl) ?_
  refine va_alen (v := 64) hx hb hK hI.1 46 0 rfl rfl (show Int32.ofNat 64 = 64 by decide) dJ7_fill_53178_3 ?_
  refine lv_istore_n (lv' := [(3, .int 64), (2, .int 0), (0, .ref (ga g 46)), (1, .int p1)]) hx hb dJ7_fill_53178_4 rfl hl (by decide) rfl (fun ls hl => ?_)
  refine lp_J7_fill_53178_46_5 hC N _ _ _ _ _ hm hI (lv_sub hl [2, 3, 1, 0] rfl) ?_
  intro σ3 w4 H locs ls hm hI hl
  exact hR _ _ _ _ _ hm hI dJ7_fill_53178_20
def lb_J7_fill_53178_53_5 (N n : Nat) (u1 : Int32) (K20 : (Sg → Int32 → Option (Int32 × Sg))) (rec : (Sg → Int32 → Option (Int32 × Sg))) (σ : Sg) (v2 : Int32) : Option (Int32 × Sg) := if 64 ≤ v2 then (K20 σ v2) else (gb v2 64 (rec (sg σ 53 (ix v2) u1) (v2 + 1)))
def lf_J7_fill_53178_53_5 (N n : Nat) (u1 : Int32) (K20 : (Sg → Int32 → Option (Int32 × Sg))) : Nat → (Sg → Int32 → Option (Int32 × Sg))
  | 0 => fun _ _ => none
  | k + 1 => lb_J7_fill_53178_53_5 N n u1 K20 (lf_J7_fill_53178_53_5 N n u1 K20 k)
def f_J7_fill_53178_53 (N n : Nat) (σ : Sg) (p1 : Int32) : Option (Int32 × Sg) := lf_J7_fill_53178_53_5 N n p1 (fun σ3 w4 => some (0, σ3)) N σ 0
set_option maxHeartbeats 4000000 in
set_option maxRecDepth 100000 in
theorem lp_J7_fill_53178_53_5 {p : Program} {l : Launch} {e : Env} {s : State} {m : MethodId} {args : Array Value} {below : List Frame} {meth : Method} {c : Code} {Q : State → Prop} {A : Nat → Prop} {g : GG} {q N n : Nat} {out : Int32 × Sg} {u1 : Int32} {K20 : (Sg → Int32 → Option (Int32 × Sg))}
    (hC : CXv p l e (qR 0 0) s m args below meth c cJ7_fill_53178 4 RJ7 g q n A Q (some out)) :
    ∀ (k : Nat) (σ : Sg) (v2 : Int32) (H : Heap) (locs : List Loc) (ls : Array Slot), lf_J7_fill_53178_53_5 N n u1 K20 k σ v2 = some out → wI g q n σ A s.heap H locs → lv_has ls 4 [(0, .ref (ga g 53)), (1, .int u1), (2, .int v2), (3, .int 64)] → (∀ (σ : Sg) (v2 : Int32) (H : Heap) (locs : List Loc) (ls : Array Slot), K20 σ v2 = some out → wI g q n σ A s.heap H locs → lv_has ls 4 [] → W p l e (qR 0 0) s m args below meth c H locs 0 0 Q (F0 m 20 ls [])) → W p l e (qR 0 0) s m args below meth c H locs 0 0 Q (F0 m 5 ls []) := by
  obtain ⟨hX, hK, hN, hZ, hA, hR⟩ := id hC
  have hx : p.tables.exec = Jvm.exec := hX.1
  have hb : c.code = cJ7_fill_53178 := hX.2.1
  have hml : c.maxLocals = 4 := hX.2.2.1
  have hown : s.vm.findClass RJ7 = some m.cls := hX.2.2.2.1
  have ht : ∀ w ∈ BIG, w.before args s = true := hX.2.2.2.2
  intro k
  induction k with
  | zero =>
    intro σ v2 H locs ls hm
    have hm : none = some out := hm
    exact nomatch hm
  | succ k ih =>
    intro σ v2 H locs ls hm hI hl hx20
    have hm : lb_J7_fill_53178_53_5 N n u1 K20 (lf_J7_fill_53178_53_5 N n u1 K20 k) σ v2 = some out := hm
    unfold lb_J7_fill_53178_53_5 at hm
    refine lv_iload_n hx hb dJ7_fill_53178_5 rfl (lv_at hl 2 rfl) ?_
    refine lv_iload_n hx hb dJ7_fill_53178_6 rfl (lv_at hl 3 rfl) ?_
    refine lv_icmp_ge (tgt := 20) hx hb dJ7_fill_53178_7 (by decide) (fun c1 => ?_) (fun c1 => ?_)
    · have hm := (if_pos c1).symm.trans hm
      exact hx20 σ v2 _ _ _ hm hI (lv_sub hl [] rfl)
    · have hm := (if_neg c1).symm.trans hm
      refine lv_aload_n hx hb dJ7_fill_53178_10 rfl (lv_at hl 0 rfl) ?_
      refine lv_iload_n hx hb dJ7_fill_53178_11 rfl (lv_at hl 2 rfl) ?_
      refine lv_iload_n hx hb dJ7_fill_53178_12 rfl (lv_at hl 1 rfl) ?_
      obtain ⟨g2, hm⟩ := gb_some hm
      refine sv_53 hx hb hK hI g2 dJ7_fill_53178_13 (fun H locs hI => ?_)
      refine lv_iinc (v := v2 + 1) (lv' := [(2, .int (v2 + 1)), (0, .ref (ga g 53)), (1, .int u1), (3, .int 64)]) hx hb dJ7_fill_53178_14 hl (k := 2) rfl (congrArg (fun z => v2 + z) (show Int32.ofInt 1 = 1 by decide)) (by decide) rfl (fun ls hl => ?_)
      refine lv_goto (tgt := 5) hx hb dJ7_fill_53178_17 (by decide) ?_
      exact ih (sg σ 53 (ix v2) u1) (v2 + 1) _ _ _ hm hI (lv_sub hl [1, 2, 0, 3] rfl) hx20
set_option maxHeartbeats 4000000 in
set_option maxRecDepth 100000 in
theorem c_J7_fill_53178_53 {l : Launch} {g : GG} {q : Nat} (N n : Nat) {σ : Sg} {p1 : Int32} {r : Int32} {σ' : Sg} (hm : f_J7_fill_53178_53 N n σ p1 = some (r, σ')) : CTv l yJ7_fill_53178 cJ7_fill_53178 4 none 0 0 g q n [.ref (ga g 53), .int p1] σ σ' := by
  refine e_v (r := r) (by decide) (Nat.le_of_ble_eq_true rfl) ?_
  intro p e s m args below meth c A Q ls hC hl hI
  obtain ⟨hX, hK, hN, hZ, hA, hR⟩ := id hC
  have hx : p.tables.exec = Jvm.exec := hX.1
  have hb : c.code = cJ7_fill_53178 := hX.2.1
  have hml : c.maxLocals = 4 := hX.2.2.1
  have hown : s.vm.findClass RJ7 = some m.cls := hX.2.2.2.1
  have ht : ∀ w ∈ BIG, w.before args s = true := hX.2.2.2.2
  have hl : lv_has ls 4 [(0, .ref (ga g 53)), (1, .int p1)] := hl
  unfold f_J7_fill_53178_53 at hm
  refine lv_iconst (v := 0) hx hb dJ7_fill_53178_0 (by decide) ?_
  refine lv_istore_n (lv' := [(2, .int 0), (0, .ref (ga g 53)), (1, .int p1)]) hx hb dJ7_fill_53178_1 rfl hl (by decide) rfl (fun ls hl => ?_)
  refine lv_aload_n hx hb dJ7_fill_53178_2 rfl (lv_at hl 1 rfl) ?_
  refine va_alen (v := 64) hx hb hK hI.1 53 0 rfl rfl (show Int32.ofNat 64 = 64 by decide) dJ7_fill_53178_3 ?_
  refine lv_istore_n (lv' := [(3, .int 64), (2, .int 0), (0, .ref (ga g 53)), (1, .int p1)]) hx hb dJ7_fill_53178_4 rfl hl (by decide) rfl (fun ls hl => ?_)
  refine lp_J7_fill_53178_53_5 hC N _ _ _ _ _ hm hI (lv_sub hl [2, 3, 1, 0] rfl) ?_
  intro σ3 w4 H locs ls hm hI hl
  exact hR _ _ _ _ _ hm hI dJ7_fill_53178_20
def lb_J7_fill_53178_58_5 (N n : Nat) (u1 : Int32) (K20 : (Sg → Int32 → Option (Int32 × Sg))) (rec : (Sg → Int32 → Option (Int32 × Sg))) (σ : Sg) (v2 : Int32) : Option (Int32 × Sg) := if 6 ≤ v2 then (K20 σ v2) else (gb v2 6 (rec (sg σ 58 (ix v2) u1) (v2 + 1)))
def lf_J7_fill_53178_58_5 (N n : Nat) (u1 : Int32) (K20 : (Sg → Int32 → Option (Int32 × Sg))) : Nat → (Sg → Int32 → Option (Int32 × Sg))
  | 0 => fun _ _ => none
  | k + 1 => lb_J7_fill_53178_58_5 N n u1 K20 (lf_J7_fill_53178_58_5 N n u1 K20 k)
def f_J7_fill_53178_58 (N n : Nat) (σ : Sg) (p1 : Int32) : Option (Int32 × Sg) := lf_J7_fill_53178_58_5 N n p1 (fun σ3 w4 => some (0, σ3)) N σ 0
set_option maxHeartbeats 4000000 in
set_option maxRecDepth 100000 in
theorem lp_J7_fill_53178_58_5 {p : Program} {l : Launch} {e : Env} {s : State} {m : MethodId} {args : Array Value} {below : List Frame} {meth : Method} {c : Code} {Q : State → Prop} {A : Nat → Prop} {g : GG} {q N n : Nat} {out : Int32 × Sg} {u1 : Int32} {K20 : (Sg → Int32 → Option (Int32 × Sg))}
    (hC : CXv p l e (qR 0 0) s m args below meth c cJ7_fill_53178 4 RJ7 g q n A Q (some out)) :
    ∀ (k : Nat) (σ : Sg) (v2 : Int32) (H : Heap) (locs : List Loc) (ls : Array Slot), lf_J7_fill_53178_58_5 N n u1 K20 k σ v2 = some out → wI g q n σ A s.heap H locs → lv_has ls 4 [(0, .ref (ga g 58)), (1, .int u1), (2, .int v2), (3, .int 6)] → (∀ (σ : Sg) (v2 : Int32) (H : Heap) (locs : List Loc) (ls : Array Slot), K20 σ v2 = some out → wI g q n σ A s.heap H locs → lv_has ls 4 [] → W p l e (qR 0 0) s m args below meth c H locs 0 0 Q (F0 m 20 ls [])) → W p l e (qR 0 0) s m args below meth c H locs 0 0 Q (F0 m 5 ls []) := by
  obtain ⟨hX, hK, hN, hZ, hA, hR⟩ := id hC
  have hx : p.tables.exec = Jvm.exec := hX.1
  have hb : c.code = cJ7_fill_53178 := hX.2.1
  have hml : c.maxLocals = 4 := hX.2.2.1
  have hown : s.vm.findClass RJ7 = some m.cls := hX.2.2.2.1
  have ht : ∀ w ∈ BIG, w.before args s = true := hX.2.2.2.2
  intro k
  induction k with
  | zero =>
    intro σ v2 H locs ls hm
    have hm : none = some out := hm
    exact nomatch hm
  | succ k ih =>
    intro σ v2 H locs ls hm hI hl hx20
    have hm : lb_J7_fill_53178_58_5 N n u1 K20 (lf_J7_fill_53178_58_5 N n u1 K20 k) σ v2 = some out := hm
    unfold lb_J7_fill_53178_58_5 at hm
    refine lv_iload_n hx hb dJ7_fill_53178_5 rfl (lv_at hl 2 rfl) ?_
    refine lv_iload_n hx hb dJ7_fill_53178_6 rfl (lv_at hl 3 rfl) ?_
    refine lv_icmp_ge (tgt := 20) hx hb dJ7_fill_53178_7 (by decide) (fun c1 => ?_) (fun c1 => ?_)
    · have hm := (if_pos c1).symm.trans hm
      exact hx20 σ v2 _ _ _ hm hI (lv_sub hl [] rfl)
    · have hm := (if_neg c1).symm.trans hm
      refine lv_aload_n hx hb dJ7_fill_53178_10 rfl (lv_at hl 0 rfl) ?_
      refine lv_iload_n hx hb dJ7_fill_53178_11 rfl (lv_at hl 2 rfl) ?_
      refine lv_iload_n hx hb dJ7_fill_53178_12 rfl (lv_at hl 1 rfl) ?_
      obtain ⟨g2, hm⟩ := gb_some hm
      refine sv_58 hx hb hK hI g2 dJ7_fill_53178_13 (fun H locs hI => ?_)
      refine lv_iinc (v := v2 + 1) (lv' := [(2, .int (v2 + 1)), (0, .ref (ga g 58)), (1, .int u1), (3, .int 6)]) hx hb dJ7_fill_53178_14 hl (k := 2) rfl (congrArg (fun z => v2 + z) (show Int32.ofInt 1 = 1 by decide)) (by decide) rfl (fun ls hl => ?_)
      refine lv_goto (tgt := 5) hx hb dJ7_fill_53178_17 (by decide) ?_
      exact ih (sg σ 58 (ix v2) u1) (v2 + 1) _ _ _ hm hI (lv_sub hl [1, 2, 0, 3] rfl) hx20
set_option maxHeartbeats 4000000 in
set_option maxRecDepth 100000 in
theorem c_J7_fill_53178_58 {l : Launch} {g : GG} {q : Nat} (N n : Nat) {σ : Sg} {p1 : Int32} {r : Int32} {σ' : Sg} (hm : f_J7_fill_53178_58 N n σ p1 = some (r, σ')) : CTv l yJ7_fill_53178 cJ7_fill_53178 4 none 0 0 g q n [.ref (ga g 58), .int p1] σ σ' := by
  refine e_v (r := r) (by decide) (Nat.le_of_ble_eq_true rfl) ?_
  intro p e s m args below meth c A Q ls hC hl hI
  obtain ⟨hX, hK, hN, hZ, hA, hR⟩ := id hC
  have hx : p.tables.exec = Jvm.exec := hX.1
  have hb : c.code = cJ7_fill_53178 := hX.2.1
  have hml : c.maxLocals = 4 := hX.2.2.1
  have hown : s.vm.findClass RJ7 = some m.cls := hX.2.2.2.1
  have ht : ∀ w ∈ BIG, w.before args s = true := hX.2.2.2.2
  have hl : lv_has ls 4 [(0, .ref (ga g 58)), (1, .int p1)] := hl
  unfold f_J7_fill_53178_58 at hm
  refine lv_iconst (v := 0) hx hb dJ7_fill_53178_0 (by decide) ?_
  refine lv_istore_n (lv' := [(2, .int 0), (0, .ref (ga g 58)), (1, .int p1)]) hx hb dJ7_fill_53178_1 rfl hl (by decide) rfl (fun ls hl => ?_)
  refine lv_aload_n hx hb dJ7_fill_53178_2 rfl (lv_at hl 1 rfl) ?_
  refine va_alen (v := 6) hx hb hK hI.1 58 0 rfl rfl (show Int32.ofNat 6 = 6 by decide) dJ7_fill_53178_3 ?_
  refine lv_istore_n (lv' := [(3, .int 6), (2, .int 0), (0, .ref (ga g 58)), (1, .int p1)]) hx hb dJ7_fill_53178_4 rfl hl (by decide) rfl (fun ls hl => ?_)
  refine lp_J7_fill_53178_58_5 hC N _ _ _ _ _ hm hI (lv_sub hl [2, 3, 1, 0] rfl) ?_
  intro σ3 w4 H locs ls hm hI hl
  exact hR _ _ _ _ _ hm hI dJ7_fill_53178_20
def lb_J7_fill_53178_28_5 (N n : Nat) (u1 : Int32) (K20 : (Sg → Int32 → Option (Int32 × Sg))) (rec : (Sg → Int32 → Option (Int32 × Sg))) (σ : Sg) (v2 : Int32) : Option (Int32 × Sg) := if 22 ≤ v2 then (K20 σ v2) else (gb v2 22 (rec (sg σ 28 (ix v2) u1) (v2 + 1)))
def lf_J7_fill_53178_28_5 (N n : Nat) (u1 : Int32) (K20 : (Sg → Int32 → Option (Int32 × Sg))) : Nat → (Sg → Int32 → Option (Int32 × Sg))
  | 0 => fun _ _ => none
  | k + 1 => lb_J7_fill_53178_28_5 N n u1 K20 (lf_J7_fill_53178_28_5 N n u1 K20 k)
def f_J7_fill_53178_28 (N n : Nat) (σ : Sg) (p1 : Int32) : Option (Int32 × Sg) := lf_J7_fill_53178_28_5 N n p1 (fun σ3 w4 => some (0, σ3)) N σ 0
set_option maxHeartbeats 4000000 in
set_option maxRecDepth 100000 in
theorem lp_J7_fill_53178_28_5 {p : Program} {l : Launch} {e : Env} {s : State} {m : MethodId} {args : Array Value} {below : List Frame} {meth : Method} {c : Code} {Q : State → Prop} {A : Nat → Prop} {g : GG} {q N n : Nat} {out : Int32 × Sg} {u1 : Int32} {K20 : (Sg → Int32 → Option (Int32 × Sg))}
    (hC : CXv p l e (qR 0 0) s m args below meth c cJ7_fill_53178 4 RJ7 g q n A Q (some out)) :
    ∀ (k : Nat) (σ : Sg) (v2 : Int32) (H : Heap) (locs : List Loc) (ls : Array Slot), lf_J7_fill_53178_28_5 N n u1 K20 k σ v2 = some out → wI g q n σ A s.heap H locs → lv_has ls 4 [(0, .ref (ga g 28)), (1, .int u1), (2, .int v2), (3, .int 22)] → (∀ (σ : Sg) (v2 : Int32) (H : Heap) (locs : List Loc) (ls : Array Slot), K20 σ v2 = some out → wI g q n σ A s.heap H locs → lv_has ls 4 [] → W p l e (qR 0 0) s m args below meth c H locs 0 0 Q (F0 m 20 ls [])) → W p l e (qR 0 0) s m args below meth c H locs 0 0 Q (F0 m 5 ls []) := by
  obtain ⟨hX, hK, hN, hZ, hA, hR⟩ := id hC
  have hx : p.tables.exec = Jvm.exec := hX.1
  have hb : c.code = cJ7_fill_53178 := hX.2.1
  have hml : c.maxLocals = 4 := hX.2.2.1
  have hown : s.vm.findClass RJ7 = some m.cls := hX.2.2.2.1
  have ht : ∀ w ∈ BIG, w.before args s = true := hX.2.2.2.2
  intro k
  induction k with
  | zero =>
    intro σ v2 H locs ls hm
    have hm : none = some out := hm
    exact nomatch hm
  | succ k ih =>
    intro σ v2 H locs ls hm hI hl hx20
    have hm : lb_J7_fill_53178_28_5 N n u1 K20 (lf_J7_fill_53178_28_5 N n u1 K20 k) σ v2 = some out := hm
    unfold lb_J7_fill_53178_28_5 at hm
    refine lv_iload_n hx hb dJ7_fill_53178_5 rfl (lv_at hl 2 rfl) ?_
    refine lv_iload_n hx hb dJ7_fill_53178_6 rfl (lv_at hl 3 rfl) ?_
    refine lv_icmp_ge (tgt := 20) hx hb dJ7_fill_53178_7 (by decide) (fun c1 => ?_) (fun c1 => ?_)
    · have hm := (if_pos c1).symm.trans hm
      exact hx20 σ v2 _ _ _ hm hI (lv_sub hl [] rfl)
    · have hm := (if_neg c1).symm.trans hm
      refine lv_aload_n hx hb dJ7_fill_53178_10 rfl (lv_at hl 0 rfl) ?_
      refine lv_iload_n hx hb dJ7_fill_53178_11 rfl (lv_at hl 2 rfl) ?_
      refine lv_iload_n hx hb dJ7_fill_53178_12 rfl (lv_at hl 1 rfl) ?_
      obtain ⟨g2, hm⟩ := gb_some hm
      refine sv_28 hx hb hK hI g2 dJ7_fill_53178_13 (fun H locs hI => ?_)
      refine lv_iinc (v := v2 + 1) (lv' := [(2, .int (v2 + 1)), (0, .ref (ga g 28)), (1, .int u1), (3, .int 22)]) hx hb dJ7_fill_53178_14 hl (k := 2) rfl (congrArg (fun z => v2 + z) (show Int32.ofInt 1 = 1 by decide)) (by decide) rfl (fun ls hl => ?_)
      refine lv_goto (tgt := 5) hx hb dJ7_fill_53178_17 (by decide) ?_
      exact ih (sg σ 28 (ix v2) u1) (v2 + 1) _ _ _ hm hI (lv_sub hl [1, 2, 0, 3] rfl) hx20
set_option maxHeartbeats 4000000 in
set_option maxRecDepth 100000 in
theorem c_J7_fill_53178_28 {l : Launch} {g : GG} {q : Nat} (N n : Nat) {σ : Sg} {p1 : Int32} {r : Int32} {σ' : Sg} (hm : f_J7_fill_53178_28 N n σ p1 = some (r, σ')) : CTv l yJ7_fill_53178 cJ7_fill_53178 4 none 0 0 g q n [.ref (ga g 28), .int p1] σ σ' := by
  refine e_v (r := r) (by decide) (Nat.le_of_ble_eq_true rfl) ?_
  intro p e s m args below meth c A Q ls hC hl hI
  obtain ⟨hX, hK, hN, hZ, hA, hR⟩ := id hC
  have hx : p.tables.exec = Jvm.exec := hX.1
  have hb : c.code = cJ7_fill_53178 := hX.2.1
  have hml : c.maxLocals = 4 := hX.2.2.1
  have hown : s.vm.findClass RJ7 = some m.cls := hX.2.2.2.1
  have ht : ∀ w ∈ BIG, w.before args s = true := hX.2.2.2.2
  have hl : lv_has ls 4 [(0, .ref (ga g 28)), (1, .int p1)] := hl
  unfold f_J7_fill_53178_28 at hm
  refine lv_iconst (v := 0) hx hb dJ7_fill_53178_0 (by decide) ?_
  refine lv_istore_n (lv' := [(2, .int 0), (0, .ref (ga g 28)), (1, .int p1)]) hx hb dJ7_fill_53178_1 rfl hl (by decide) rfl (fun ls hl => ?_)
  refine lv_aload_n hx hb dJ7_fill_53178_2 rfl (lv_at hl 1 rfl) ?_
  refine va_alen (v := 22) hx hb hK hI.1 28 0 rfl rfl (show Int32.ofNat 22 = 22 by decide) dJ7_fill_53178_3 ?_
  refine lv_istore_n (lv' := [(3, .int 22), (2, .int 0), (0, .ref (ga g 28)), (1, .int p1)]) hx hb dJ7_fill_53178_4 rfl hl (by decide) rfl (fun ls hl => ?_)
  refine lp_J7_fill_53178_28_5 hC N _ _ _ _ _ hm hI (lv_sub hl [2, 3, 1, 0] rfl) ?_
  intro σ3 w4 H locs ls hm hI hl
  exact hR _ _ _ _ _ hm hI dJ7_fill_53178_20
def lb_J7_fill_53178_38_5 (N n : Nat) (u1 : Int32) (K20 : (Sg → Int32 → Option (Int32 × Sg))) (rec : (Sg → Int32 → Option (Int32 × Sg))) (σ : Sg) (v2 : Int32) : Option (Int32 × Sg) := if 16 ≤ v2 then (K20 σ v2) else (gb v2 16 (rec (sg σ 38 (ix v2) u1) (v2 + 1)))
def lf_J7_fill_53178_38_5 (N n : Nat) (u1 : Int32) (K20 : (Sg → Int32 → Option (Int32 × Sg))) : Nat → (Sg → Int32 → Option (Int32 × Sg))
  | 0 => fun _ _ => none
  | k + 1 => lb_J7_fill_53178_38_5 N n u1 K20 (lf_J7_fill_53178_38_5 N n u1 K20 k)
def f_J7_fill_53178_38 (N n : Nat) (σ : Sg) (p1 : Int32) : Option (Int32 × Sg) := lf_J7_fill_53178_38_5 N n p1 (fun σ3 w4 => some (0, σ3)) N σ 0
set_option maxHeartbeats 4000000 in
set_option maxRecDepth 100000 in
theorem lp_J7_fill_53178_38_5 {p : Program} {l : Launch} {e : Env} {s : State} {m : MethodId} {args : Array Value} {below : List Frame} {meth : Method} {c : Code} {Q : State → Prop} {A : Nat → Prop} {g : GG} {q N n : Nat} {out : Int32 × Sg} {u1 : Int32} {K20 : (Sg → Int32 → Option (Int32 × Sg))}
    (hC : CXv p l e (qR 0 0) s m args below meth c cJ7_fill_53178 4 RJ7 g q n A Q (some out)) :
    ∀ (k : Nat) (σ : Sg) (v2 : Int32) (H : Heap) (locs : List Loc) (ls : Array Slot), lf_J7_fill_53178_38_5 N n u1 K20 k σ v2 = some out → wI g q n σ A s.heap H locs → lv_has ls 4 [(0, .ref (ga g 38)), (1, .int u1), (2, .int v2), (3, .int 16)] → (∀ (σ : Sg) (v2 : Int32) (H : Heap) (locs : List Loc) (ls : Array Slot), K20 σ v2 = some out → wI g q n σ A s.heap H locs → lv_has ls 4 [] → W p l e (qR 0 0) s m args below meth c H locs 0 0 Q (F0 m 20 ls [])) → W p l e (qR 0 0) s m args below meth c H locs 0 0 Q (F0 m 5 ls []) := by
  obtain ⟨hX, hK, hN, hZ, hA, hR⟩ := id hC
  have hx : p.tables.exec = Jvm.exec := hX.1
  have hb : c.code = cJ7_fill_53178 := hX.2.1
  have hml : c.maxLocals = 4 := hX.2.2.1
  have hown : s.vm.findClass RJ7 = some m.cls := hX.2.2.2.1
  have ht : ∀ w ∈ BIG, w.before args s = true := hX.2.2.2.2
  intro k
  induction k with
  | zero =>
    intro σ v2 H locs ls hm
    have hm : none = some out := hm
    exact nomatch hm
  | succ k ih =>
    intro σ v2 H locs ls hm hI hl hx20
    have hm : lb_J7_fill_53178_38_5 N n u1 K20 (lf_J7_fill_53178_38_5 N n u1 K20 k) σ v2 = some out := hm
    unfold lb_J7_fill_53178_38_5 at hm
    refine lv_iload_n hx hb dJ7_fill_53178_5 rfl (lv_at hl 2 rfl) ?_
    refine lv_iload_n hx hb dJ7_fill_53178_6 rfl (lv_at hl 3 rfl) ?_
    refine lv_icmp_ge (tgt := 20) hx hb dJ7_fill_53178_7 (by decide) (fun c1 => ?_) (fun c1 => ?_)
    · have hm := (if_pos c1).symm.trans hm
      exact hx20 σ v2 _ _ _ hm hI (lv_sub hl [] rfl)
    · have hm := (if_neg c1).symm.trans hm
      refine lv_aload_n hx hb dJ7_fill_53178_10 rfl (lv_at hl 0 rfl) ?_
      refine lv_iload_n hx hb dJ7_fill_53178_11 rfl (lv_at hl 2 rfl) ?_
      refine lv_iload_n hx hb dJ7_fill_53178_12 rfl (lv_at hl 1 rfl) ?_
      obtain ⟨g2, hm⟩ := gb_some hm
      refine sv_38 hx hb hK hI g2 dJ7_fill_53178_13 (fun H locs hI => ?_)
      refine lv_iinc (v := v2 + 1) (lv' := [(2, .int (v2 + 1)), (0, .ref (ga g 38)), (1, .int u1), (3, .int 16)]) hx hb dJ7_fill_53178_14 hl (k := 2) rfl (congrArg (fun z => v2 + z) (show Int32.ofInt 1 = 1 by decide)) (by decide) rfl (fun ls hl => ?_)
      refine lv_goto (tgt := 5) hx hb dJ7_fill_53178_17 (by decide) ?_
      exact ih (sg σ 38 (ix v2) u1) (v2 + 1) _ _ _ hm hI (lv_sub hl [1, 2, 0, 3] rfl) hx20
set_option maxHeartbeats 4000000 in
set_option maxRecDepth 100000 in
theorem c_J7_fill_53178_38 {l : Launch} {g : GG} {q : Nat} (N n : Nat) {σ : Sg} {p1 : Int32} {r : Int32} {σ' : Sg} (hm : f_J7_fill_53178_38 N n σ p1 = some (r, σ')) : CTv l yJ7_fill_53178 cJ7_fill_53178 4 none 0 0 g q n [.ref (ga g 38), .int p1] σ σ' := by
  refine e_v (r := r) (by decide) (Nat.le_of_ble_eq_true rfl) ?_
  intro p e s m args below meth c A Q ls hC hl hI
  obtain ⟨hX, hK, hN, hZ, hA, hR⟩ := id hC
  have hx : p.tables.exec = Jvm.exec := hX.1
  have hb : c.code = cJ7_fill_53178 := hX.2.1
  have hml : c.maxLocals = 4 := hX.2.2.1
  have hown : s.vm.findClass RJ7 = some m.cls := hX.2.2.2.1
  have ht : ∀ w ∈ BIG, w.before args s = true := hX.2.2.2.2
  have hl : lv_has ls 4 [(0, .ref (ga g 38)), (1, .int p1)] := hl
  unfold f_J7_fill_53178_38 at hm
  refine lv_iconst (v := 0) hx hb dJ7_fill_53178_0 (by decide) ?_
  refine lv_istore_n (lv' := [(2, .int 0), (0, .ref (ga g 38)), (1, .int p1)]) hx hb dJ7_fill_53178_1 rfl hl (by decide) rfl (fun ls hl => ?_)
  refine lv_aload_n hx hb dJ7_fill_53178_2 rfl (lv_at hl 1 rfl) ?_
  refine va_alen (v := 16) hx hb hK hI.1 38 0 rfl rfl (show Int32.ofNat 16 = 16 by decide) dJ7_fill_53178_3 ?_
  refine lv_istore_n (lv' := [(3, .int 16), (2, .int 0), (0, .ref (ga g 38)), (1, .int p1)]) hx hb dJ7_fill_53178_4 rfl hl (by decide) rfl (fun ls hl => ?_)
  refine lp_J7_fill_53178_38_5 hC N _ _ _ _ _ hm hI (lv_sub hl [2, 3, 1, 0] rfl) ?_
  intro σ3 w4 H locs ls hm hI hl
  exact hR _ _ _ _ _ hm hI dJ7_fill_53178_20
def lb_J7_fill_53178_30_5 (N n : Nat) (u1 : Int32) (K20 : (Sg → Int32 → Option (Int32 × Sg))) (rec : (Sg → Int32 → Option (Int32 × Sg))) (σ : Sg) (v2 : Int32) : Option (Int32 × Sg) := if 300 ≤ v2 then (K20 σ v2) else (gb v2 300 (rec (sg σ 30 (ix v2) u1) (v2 + 1)))
def lf_J7_fill_53178_30_5 (N n : Nat) (u1 : Int32) (K20 : (Sg → Int32 → Option (Int32 × Sg))) : Nat → (Sg → Int32 → Option (Int32 × Sg))
  | 0 => fun _ _ => none
  | k + 1 => lb_J7_fill_53178_30_5 N n u1 K20 (lf_J7_fill_53178_30_5 N n u1 K20 k)
def f_J7_fill_53178_30 (N n : Nat) (σ : Sg) (p1 : Int32) : Option (Int32 × Sg) := lf_J7_fill_53178_30_5 N n p1 (fun σ3 w4 => some (0, σ3)) N σ 0
set_option maxHeartbeats 4000000 in
set_option maxRecDepth 100000 in
theorem lp_J7_fill_53178_30_5 {p : Program} {l : Launch} {e : Env} {s : State} {m : MethodId} {args : Array Value} {below : List Frame} {meth : Method} {c : Code} {Q : State → Prop} {A : Nat → Prop} {g : GG} {q N n : Nat} {out : Int32 × Sg} {u1 : Int32} {K20 : (Sg → Int32 → Option (Int32 × Sg))}
    (hC : CXv p l e (qR 0 0) s m args below meth c cJ7_fill_53178 4 RJ7 g q n A Q (some out)) :
    ∀ (k : Nat) (σ : Sg) (v2 : Int32) (H : Heap) (locs : List Loc) (ls : Array Slot), lf_J7_fill_53178_30_5 N n u1 K20 k σ v2 = some out → wI g q n σ A s.heap H locs → lv_has ls 4 [(0, .ref (ga g 30)), (1, .int u1), (2, .int v2), (3, .int 300)] → (∀ (σ : Sg) (v2 : Int32) (H : Heap) (locs : List Loc) (ls : Array Slot), K20 σ v2 = some out → wI g q n σ A s.heap H locs → lv_has ls 4 [] → W p l e (qR 0 0) s m args below meth c H locs 0 0 Q (F0 m 20 ls [])) → W p l e (qR 0 0) s m args below meth c H locs 0 0 Q (F0 m 5 ls []) := by
  obtain ⟨hX, hK, hN, hZ, hA, hR⟩ := id hC
  have hx : p.tables.exec = Jvm.exec := hX.1
  have hb : c.code = cJ7_fill_53178 := hX.2.1
  have hml : c.maxLocals = 4 := hX.2.2.1
  have hown : s.vm.findClass RJ7 = some m.cls := hX.2.2.2.1
  have ht : ∀ w ∈ BIG, w.before args s = true := hX.2.2.2.2
  intro k
  induction k with
  | zero =>
    intro σ v2 H locs ls hm
    have hm : none = some out := hm
    exact nomatch hm
  | succ k ih =>
    intro σ v2 H locs ls hm hI hl hx20
    have hm : lb_J7_fill_53178_30_5 N n u1 K20 (lf_J7_fill_53178_30_5 N n u1 K20 k) σ v2 = some out := hm
    unfold lb_J7_fill_53178_30_5 at hm
    refine lv_iload_n hx hb dJ7_fill_53178_5 rfl (lv_at hl 2 rfl) ?_
    refine lv_iload_n hx hb dJ7_fill_53178_6 rfl (lv_at hl 3 rfl) ?_
    refine lv_icmp_ge (tgt := 20) hx hb dJ7_fill_53178_7 (by decide) (fun c1 => ?_) (fun c1 => ?_)
    · have hm := (if_pos c1).symm.trans hm
      exact hx20 σ v2 _ _ _ hm hI (lv_sub hl [] rfl)
    · have hm := (if_neg c1).symm.trans hm
      refine lv_aload_n hx hb dJ7_fill_53178_10 rfl (lv_at hl 0 rfl) ?_
      refine lv_iload_n hx hb dJ7_fill_53178_11 rfl (lv_at hl 2 rfl) ?_
      refine lv_iload_n hx hb dJ7_fill_53178_12 rfl (lv_at hl 1 rfl) ?_
      obtain ⟨g2, hm⟩ := gb_some hm
      refine sv_30 hx hb hK hI g2 dJ7_fill_53178_13 (fun H locs hI => ?_)
      refine lv_iinc (v := v2 + 1) (lv' := [(2, .int (v2 + 1)), (0, .ref (ga g 30)), (1, .int u1), (3, .int 300)]) hx hb dJ7_fill_53178_14 hl (k := 2) rfl (congrArg (fun z => v2 + z) (show Int32.ofInt 1 = 1 by decide)) (by decide) rfl (fun ls hl => ?_)
      refine lv_goto (tgt := 5) hx hb dJ7_fill_53178_17 (by decide) ?_
      exact ih (sg σ 30 (ix v2) u1) (v2 + 1) _ _ _ hm hI (lv_sub hl [1, 2, 0, 3] rfl) hx20
set_option maxHeartbeats 4000000 in
set_option maxRecDepth 100000 in
theorem c_J7_fill_53178_30 {l : Launch} {g : GG} {q : Nat} (N n : Nat) {σ : Sg} {p1 : Int32} {r : Int32} {σ' : Sg} (hm : f_J7_fill_53178_30 N n σ p1 = some (r, σ')) : CTv l yJ7_fill_53178 cJ7_fill_53178 4 none 0 0 g q n [.ref (ga g 30), .int p1] σ σ' := by
  refine e_v (r := r) (by decide) (Nat.le_of_ble_eq_true rfl) ?_
  intro p e s m args below meth c A Q ls hC hl hI
  obtain ⟨hX, hK, hN, hZ, hA, hR⟩ := id hC
  have hx : p.tables.exec = Jvm.exec := hX.1
  have hb : c.code = cJ7_fill_53178 := hX.2.1
  have hml : c.maxLocals = 4 := hX.2.2.1
  have hown : s.vm.findClass RJ7 = some m.cls := hX.2.2.2.1
  have ht : ∀ w ∈ BIG, w.before args s = true := hX.2.2.2.2
  have hl : lv_has ls 4 [(0, .ref (ga g 30)), (1, .int p1)] := hl
  unfold f_J7_fill_53178_30 at hm
  refine lv_iconst (v := 0) hx hb dJ7_fill_53178_0 (by decide) ?_
  refine lv_istore_n (lv' := [(2, .int 0), (0, .ref (ga g 30)), (1, .int p1)]) hx hb dJ7_fill_53178_1 rfl hl (by decide) rfl (fun ls hl => ?_)
  refine lv_aload_n hx hb dJ7_fill_53178_2 rfl (lv_at hl 1 rfl) ?_
  refine va_alen (v := 300) hx hb hK hI.1 30 0 rfl rfl (show Int32.ofNat 300 = 300 by decide) dJ7_fill_53178_3 ?_
  refine lv_istore_n (lv' := [(3, .int 300), (2, .int 0), (0, .ref (ga g 30)), (1, .int p1)]) hx hb dJ7_fill_53178_4 rfl hl (by decide) rfl (fun ls hl => ?_)
  refine lp_J7_fill_53178_30_5 hC N _ _ _ _ _ hm hI (lv_sub hl [2, 3, 1, 0] rfl) ?_
  intro σ3 w4 H locs ls hm hI hl
  exact hR _ _ _ _ _ hm hI dJ7_fill_53178_20
def lb_X0_leastWaiting_5 (N n : Nat) (u1 : Int32) (u2 : Int32) (K44 : (Sg → Int32 → Option (Int32 × Sg))) (rec : (Sg → Int32 → Option (Int32 × Sg))) (σ : Sg) (v3 : Int32) : Option (Int32 × Sg) := if u2 ≤ v3 then (K44 σ v3) else (gb (u1 + v3) 300 (if (σ 8 (ix (u1 + v3))) = (-1) then (rec σ (v3 + 1)) else (gb (u1 + v3) 300 (if (σ 10 (ix (u1 + v3))) = 0 then (some (v3, σ)) else (rec σ (v3 + 1))))))
def lf_X0_leastWaiting_5 (N n : Nat) (u1 : Int32) (u2 : Int32) (K44 : (Sg → Int32 → Option (Int32 × Sg))) : Nat → (Sg → Int32 → Option (Int32 × Sg))
  | 0 => fun _ _ => none
  | k + 1 => lb_X0_leastWaiting_5 N n u1 u2 K44 (lf_X0_leastWaiting_5 N n u1 u2 K44 k)
def f_X0_leastWaiting (N n : Nat) (σ : Sg) (p0 : Int32) (p1 : Int32) : Option (Int32 × Sg) := lf_X0_leastWaiting_5 N n p0 p1 (fun σ6 w7 => some ((-1), σ6)) N σ (σ 9 2)
set_option maxHeartbeats 4000000 in
set_option maxRecDepth 100000 in
theorem lp_X0_leastWaiting_5 {p : Program} {l : Launch} {e : Env} {s : State} {m : MethodId} {args : Array Value} {below : List Frame} {meth : Method} {c : Code} {Q : State → Prop} {A : Nat → Prop} {g : GG} {q N n : Nat} {out : Int32 × Sg} {u1 : Int32} {u2 : Int32} {K44 : (Sg → Int32 → Option (Int32 × Sg))}
    (hC : CXi p l e (qR 0 0) s m args below meth c cX0_leastWaiting 4 RX0 g q n A Q (some out)) :
    ∀ (k : Nat) (σ : Sg) (v3 : Int32) (H : Heap) (locs : List Loc) (ls : Array Slot), lf_X0_leastWaiting_5 N n u1 u2 K44 k σ v3 = some out → wI g q n σ A s.heap H locs → lv_has ls 4 [(0, .ref (ga g 9)), (1, .int u1), (2, .int u2), (3, .int v3)] → (∀ (σ : Sg) (v3 : Int32) (H : Heap) (locs : List Loc) (ls : Array Slot), K44 σ v3 = some out → wI g q n σ A s.heap H locs → lv_has ls 4 [] → W p l e (qR 0 0) s m args below meth c H locs 0 0 Q (F0 m 44 ls [])) → W p l e (qR 0 0) s m args below meth c H locs 0 0 Q (F0 m 5 ls []) := by
  obtain ⟨hX, hK, hN, hZ, hA, hR⟩ := id hC
  have hx : p.tables.exec = Jvm.exec := hX.1
  have hb : c.code = cX0_leastWaiting := hX.2.1
  have hml : c.maxLocals = 4 := hX.2.2.1
  have hown : s.vm.findClass RX0 = some m.cls := hX.2.2.2.1
  have ht : ∀ w ∈ BIG, w.before args s = true := hX.2.2.2.2
  intro k
  induction k with
  | zero =>
    intro σ v3 H locs ls hm
    have hm : none = some out := hm
    exact nomatch hm
  | succ k ih =>
    intro σ v3 H locs ls hm hI hl hx44
    have hm : lb_X0_leastWaiting_5 N n u1 u2 K44 (lf_X0_leastWaiting_5 N n u1 u2 K44 k) σ v3 = some out := hm
    unfold lb_X0_leastWaiting_5 at hm
    refine lv_iload_n hx hb dX0_leastWaiting_5 rfl (lv_at hl 3 rfl) ?_
    refine lv_iload_n hx hb dX0_leastWaiting_6 rfl (lv_at hl 2 rfl) ?_
    refine lv_icmp_ge (tgt := 44) hx hb dX0_leastWaiting_7 (by decide) (fun c1 => ?_) (fun c1 => ?_)
    · have hm := (if_pos c1).symm.trans hm
      exact hx44 σ v3 _ _ _ hm hI (lv_sub hl [] rfl)
    · have hm := (if_neg c1).symm.trans hm
      refine lv_aload_n hx hb dX0_leastWaiting_10 rfl (lv_at hl 0 rfl) ?_
      refine gf_9_0 hx hb ht hK hI mw_6 (fun _ h9 => h9) hown dX0_leastWaiting_11 ?_
      refine gf_1_6 hx hb ht hK hI mw_12 (fun _ h9 => h9) hown dX0_leastWaiting_14 ?_
      refine lv_iload_n hx hb dX0_leastWaiting_17 rfl (lv_at hl 1 rfl) ?_
      refine lv_iload_n hx hb dX0_leastWaiting_18 rfl (lv_at hl 3 rfl) ?_
      refine lv_iadd hx hb dX0_leastWaiting_19 ?_
      obtain ⟨g2, hm⟩ := gb_some hm
      refine ld_8 hx hb hK hI g2 (v := σ 8 (ix (u1 + v3))) rfl dX0_leastWaiting_20 ?_
      refine lv_iconst (v := (-1)) hx hb dX0_leastWaiting_21 (by decide) ?_
      refine lv_icmp_eq (tgt := 38) hx hb dX0_leastWaiting_22 (by decide) (fun c3 => ?_) (fun c3 => ?_)
      · have hm := (if_pos c3).symm.trans hm
        refine lv_iinc (v := v3 + 1) (lv' := [(3, .int (v3 + 1)), (0, .ref (ga g 9)), (1, .int u1), (2, .int u2)]) hx hb dX0_leastWaiting_38 hl (k := 3) rfl (congrArg (fun z => v3 + z) (show Int32.ofInt 1 = 1 by decide)) (by decide) rfl (fun ls hl => ?_)
        refine lv_goto (tgt := 5) hx hb dX0_leastWaiting_41 (by decide) ?_
        exact ih σ (v3 + 1) _ _ _ hm hI (lv_sub hl [1, 2, 3, 0] rfl) hx44
      · have hm := (if_neg c3).symm.trans hm
        refine lv_aload_n hx hb dX0_leastWaiting_25 rfl (lv_at hl 0 rfl) ?_
        refine gf_9_1 hx hb ht hK hI mw_5 (fun _ h9 => h9) hown dX0_leastWaiting_26 ?_
        refine lv_iload_n hx hb dX0_leastWaiting_29 rfl (lv_at hl 1 rfl) ?_
        refine lv_iload_n hx hb dX0_leastWaiting_30 rfl (lv_at hl 3 rfl) ?_
        refine lv_iadd hx hb dX0_leastWaiting_31 ?_
        obtain ⟨g4, hm⟩ := gb_some hm
        refine ld_10 hx hb hK hI g4 (v := σ 10 (ix (u1 + v3))) rfl dX0_leastWaiting_32 ?_
        refine lv_if_ne (tgt := 38) hx hb dX0_leastWaiting_33 (by decide) (fun c5 => ?_) (fun c5 => ?_)
        · have hm := (if_neg c5).symm.trans hm
          refine lv_iinc (v := v3 + 1) (lv' := [(3, .int (v3 + 1)), (0, .ref (ga g 9)), (1, .int u1), (2, .int u2)]) hx hb dX0_leastWaiting_38 hl (k := 3) rfl (congrArg (fun z => v3 + z) (show Int32.ofInt 1 = 1 by decide)) (by decide) rfl (fun ls hl => ?_)
          refine lv_goto (tgt := 5) hx hb dX0_leastWaiting_41 (by decide) ?_
          exact ih σ (v3 + 1) _ _ _ hm hI (lv_sub hl [1, 2, 3, 0] rfl) hx44
        · have hm := (if_pos c5).symm.trans hm
          refine lv_iload_n hx hb dX0_leastWaiting_36 rfl (lv_at hl 3 rfl) ?_
          exact hR _ _ _ _ _ _ hm hI dX0_leastWaiting_37
set_option maxHeartbeats 4000000 in
set_option maxRecDepth 100000 in
theorem c_X0_leastWaiting {l : Launch} {g : GG} {q : Nat} (N n : Nat) {σ : Sg} {p0 : Int32} {p1 : Int32} {r : Int32} {σ' : Sg} (hm : f_X0_leastWaiting N n σ p0 p1 = some (r, σ')) : CTi l yX0_leastWaiting cX0_leastWaiting 4 (some .int) 0 0 g q n [.ref (ga g 9), .int p0, .int p1] σ r σ' := by
  refine e_i (r := r) (by decide) (Nat.le_of_ble_eq_true rfl) ?_
  intro p e s m args below meth c A Q ls hC hl hI
  obtain ⟨hX, hK, hN, hZ, hA, hR⟩ := id hC
  have hx : p.tables.exec = Jvm.exec := hX.1
  have hb : c.code = cX0_leastWaiting := hX.2.1
  have hml : c.maxLocals = 4 := hX.2.2.1
  have hown : s.vm.findClass RX0 = some m.cls := hX.2.2.2.1
  have ht : ∀ w ∈ BIG, w.before args s = true := hX.2.2.2.2
  have hl : lv_has ls 4 [(0, .ref (ga g 9)), (1, .int p0), (2, .int p1)] := hl
  unfold f_X0_leastWaiting at hm
  refine lv_aload_n hx hb dX0_leastWaiting_0 rfl (lv_at hl 0 rfl) ?_
  refine gf_9_2 hx hb ht hK hI (v := σ 9 2) rfl mw_11 (fun _ h9 => h9) hown dX0_leastWaiting_1 ?_
  refine lv_istore_n (lv' := [(3, .int (σ 9 2)), (0, .ref (ga g 9)), (1, .int p0), (2, .int p1)]) hx hb dX0_leastWaiting_4 rfl hl (by decide) rfl (fun ls hl => ?_)
  refine lp_X0_leastWaiting_5 hC N _ _ _ _ _ hm hI (lv_sub hl [1, 2, 3, 0] rfl) ?_
  intro σ6 w7 H locs ls hm hI hl
  refine lv_iconst (v := (-1)) hx hb dX0_leastWaiting_44 (by decide) ?_
  exact hR _ _ _ _ _ _ hm hI dX0_leastWaiting_45
def f_X6_hasFunc (N n : Nat) (σ : Sg) (p0 : Int32) : Option (Int32 × Sg) := if p0 < 0 then (some (0, σ)) else (if (σ 1 7) ≤ p0 then (some (0, σ)) else (some (1, σ)))
set_option maxHeartbeats 4000000 in
set_option maxRecDepth 100000 in
theorem c_X6_hasFunc {l : Launch} {g : GG} {q : Nat} (N n : Nat) {σ : Sg} {p0 : Int32} {r : Int32} {σ' : Sg} (hm : f_X6_hasFunc N n σ p0 = some (r, σ')) : CTi l yX6_hasFunc cX6_hasFunc 2 (some .boolean) 0 0 g q n [.ref (ga g 1), .int p0] σ r σ' := by
  refine e_z (r := r) (by decide) (Nat.le_of_ble_eq_true rfl) ?_
  intro p e s m args below meth c A Q ls hC hl hI
  obtain ⟨hX, hK, hN, hZ, hA, hR⟩ := id hC
  have hx : p.tables.exec = Jvm.exec := hX.1
  have hb : c.code = cX6_hasFunc := hX.2.1
  have hml : c.maxLocals = 2 := hX.2.2.1
  have hown : s.vm.findClass RX6 = some m.cls := hX.2.2.2.1
  have ht : ∀ w ∈ BIG, w.before args s = true := hX.2.2.2.2
  have hl : lv_has ls 2 [(0, .ref (ga g 1)), (1, .int p0)] := hl
  unfold f_X6_hasFunc at hm
  refine lv_iload_n hx hb dX6_hasFunc_0 rfl (lv_at hl 1 rfl) ?_
  refine lv_if_lt (tgt := 16) hx hb dX6_hasFunc_1 (by decide) (fun c1 => ?_) (fun c1 => ?_)
  · have hm := (if_pos c1).symm.trans hm
    refine lv_iconst (v := 0) hx hb dX6_hasFunc_16 (by decide) ?_
    exact hR _ _ _ _ _ _ hm hI (by decide) dX6_hasFunc_17
  · have hm := (if_neg c1).symm.trans hm
    refine lv_iload_n hx hb dX6_hasFunc_4 rfl (lv_at hl 1 rfl) ?_
    refine lv_aload_n hx hb dX6_hasFunc_5 rfl (lv_at hl 0 rfl) ?_
    refine gf_1_7 hx hb ht hK hI (v := σ 1 7) rfl mw_24 (fun _ h9 => h9) hown dX6_hasFunc_6 ?_
    refine lv_icmp_ge (tgt := 16) hx hb dX6_hasFunc_9 (by decide) (fun c2 => ?_) (fun c2 => ?_)
    · have hm := (if_pos c2).symm.trans hm
      refine lv_iconst (v := 0) hx hb dX6_hasFunc_16 (by decide) ?_
      exact hR _ _ _ _ _ _ hm hI (by decide) dX6_hasFunc_17
    · have hm := (if_neg c2).symm.trans hm
      refine lv_iconst (v := 1) hx hb dX6_hasFunc_12 (by decide) ?_
      refine lv_goto (tgt := 17) hx hb dX6_hasFunc_13 (by decide) ?_
      exact hR _ _ _ _ _ _ hm hI (by decide) dX6_hasFunc_17
def f_X0_isFormed (N n : Nat) (σ : Sg) (p0 : Int32) (p1 : Int32) (p2 : Int32) : Option (Int32 × Sg) := if p1 = 1 ∨ p1 = 2 then (if p2 < 0 then (some (0, σ)) else (gb p0 12 (if (σ 3 (ix p0)) ≤ p2 then (some (0, σ)) else (some (1, σ))))) else (if p1 = 12 ∨ p1 = 13 then (if p2 < 0 then (some (0, σ)) else (gb p0 12 (if (σ 5 (ix p0)) ≤ p2 then (some (0, σ)) else (some (1, σ))))) else (if p1 = 14 then (bd (f_X6_hasFunc N n σ p2) (fun r10 σ11 => g01 r10 (some (r10, σ11)))) else (if p1 < 0 then (some (0, σ)) else (if 17 < p1 then (some (0, σ)) else (some (1, σ))))))
set_option maxHeartbeats 4000000 in
set_option maxRecDepth 100000 in
theorem c_X0_isFormed {l : Launch} {g : GG} {q : Nat} (N n : Nat) {σ : Sg} {p0 : Int32} {p1 : Int32} {p2 : Int32} {r : Int32} {σ' : Sg} (hm : f_X0_isFormed N n σ p0 p1 p2 = some (r, σ')) : CTi l yX0_isFormed cX0_isFormed 4 (some .boolean) 1 21 g q n [.ref (ga g 9), .int p0, .int p1, .int p2] σ r σ' := by
  refine e_z (r := r) (by decide) (Nat.le_of_ble_eq_true rfl) ?_
  intro p e s m args below meth c A Q ls hC hl hI
  obtain ⟨hX, hK, hN, hZ, hA, hR⟩ := id hC
  have hx : p.tables.exec = Jvm.exec := hX.1
  have hb : c.code = cX0_isFormed := hX.2.1
  have hml : c.maxLocals = 4 := hX.2.2.1
  have hown : s.vm.findClass RX0 = some m.cls := hX.2.2.2.1
  have ht : ∀ w ∈ BIG, w.before args s = true := hX.2.2.2.2
  have hl : lv_has ls 4 [(0, .ref (ga g 9)), (1, .int p0), (2, .int p1), (3, .int p2)] := hl
  unfold f_X0_isFormed at hm
  refine lv_iload_n hx hb dX0_isFormed_0 rfl (lv_at hl 2 rfl) ?_
  by_cases c1 : p1 = 1 ∨ p1 = 2
  · have hm := (if_pos c1).symm.trans hm
    refine lv_tableIn (off := 71) (tgt := 72) hx hb dX0_isFormed_1 (by rcases c1 with c1 | c1 <;> (rw [c1]; decide)) (by rcases c1 with c1 | c1 <;> (rw [c1]; decide)) (by rcases c1 with c1 | c1 <;> (rw [c1]; rfl)) (by decide) ?_
    refine lv_iload_n hx hb dX0_isFormed_72 rfl (lv_at hl 3 rfl) ?_
    refine lv_if_lt (tgt := 93) hx hb dX0_isFormed_73 (by decide) (fun c2 => ?_) (fun c2 => ?_)
    · have hm := (if_pos c2).symm.trans hm
      refine lv_iconst (v := 0) hx hb dX0_isFormed_93 (by decide) ?_
      exact hR _ _ _ _ _ _ hm hI (by decide) dX0_isFormed_94
    · have hm := (if_neg c2).symm.trans hm
      refine lv_iload_n hx hb dX0_isFormed_76 rfl (lv_at hl 3 rfl) ?_
      refine lv_aload_n hx hb dX0_isFormed_77 rfl (lv_at hl 0 rfl) ?_
      refine gf_9_0 hx hb ht hK hI mw_6 (fun _ h9 => h9) hown dX0_isFormed_78 ?_
      refine gf_1_1 hx hb ht hK hI mw_26 (fun _ h9 => h9) hown dX0_isFormed_81 ?_
      refine lv_iload_n hx hb dX0_isFormed_84 rfl (lv_at hl 1 rfl) ?_
      obtain ⟨g3, hm⟩ := gb_some hm
      refine ld_3 hx hb hK hI g3 (v := σ 3 (ix p0)) rfl dX0_isFormed_85 ?_
      refine lv_icmp_ge (tgt := 93) hx hb dX0_isFormed_86 (by decide) (fun c4 => ?_) (fun c4 => ?_)
      · have hm := (if_pos c4).symm.trans hm
        refine lv_iconst (v := 0) hx hb dX0_isFormed_93 (by decide) ?_
        exact hR _ _ _ _ _ _ hm hI (by decide) dX0_isFormed_94
      · have hm := (if_neg c4).symm.trans hm
        refine lv_iconst (v := 1) hx hb dX0_isFormed_89 (by decide) ?_
        refine lv_goto (tgt := 94) hx hb dX0_isFormed_90 (by decide) ?_
        exact hR _ _ _ _ _ _ hm hI (by decide) dX0_isFormed_94
  have hm := (if_neg c1).symm.trans hm
  by_cases c5 : p1 = 12 ∨ p1 = 13
  · have hm := (if_pos c5).symm.trans hm
    refine lv_tableIn (off := 94) (tgt := 95) hx hb dX0_isFormed_1 (by rcases c5 with c5 | c5 <;> (rw [c5]; decide)) (by rcases c5 with c5 | c5 <;> (rw [c5]; decide)) (by rcases c5 with c5 | c5 <;> (rw [c5]; rfl)) (by decide) ?_
    refine lv_iload_n hx hb dX0_isFormed_95 rfl (lv_at hl 3 rfl) ?_
    refine lv_if_lt (tgt := 116) hx hb dX0_isFormed_96 (by decide) (fun c6 => ?_) (fun c6 => ?_)
    · have hm := (if_pos c6).symm.trans hm
      refine lv_iconst (v := 0) hx hb dX0_isFormed_116 (by decide) ?_
      exact hR _ _ _ _ _ _ hm hI (by decide) dX0_isFormed_117
    · have hm := (if_neg c6).symm.trans hm
      refine lv_iload_n hx hb dX0_isFormed_99 rfl (lv_at hl 3 rfl) ?_
      refine lv_aload_n hx hb dX0_isFormed_100 rfl (lv_at hl 0 rfl) ?_
      refine gf_9_0 hx hb ht hK hI mw_6 (fun _ h9 => h9) hown dX0_isFormed_101 ?_
      refine gf_1_3 hx hb ht hK hI mw_27 (fun _ h9 => h9) hown dX0_isFormed_104 ?_
      refine lv_iload_n hx hb dX0_isFormed_107 rfl (lv_at hl 1 rfl) ?_
      obtain ⟨g7, hm⟩ := gb_some hm
      refine ld_5 hx hb hK hI g7 (v := σ 5 (ix p0)) rfl dX0_isFormed_108 ?_
      refine lv_icmp_ge (tgt := 116) hx hb dX0_isFormed_109 (by decide) (fun c8 => ?_) (fun c8 => ?_)
      · have hm := (if_pos c8).symm.trans hm
        refine lv_iconst (v := 0) hx hb dX0_isFormed_116 (by decide) ?_
        exact hR _ _ _ _ _ _ hm hI (by decide) dX0_isFormed_117
      · have hm := (if_neg c8).symm.trans hm
        refine lv_iconst (v := 1) hx hb dX0_isFormed_112 (by decide) ?_
        refine lv_goto (tgt := 117) hx hb dX0_isFormed_113 (by decide) ?_
        exact hR _ _ _ _ _ _ hm hI (by decide) dX0_isFormed_117
  have hm := (if_neg c5).symm.trans hm
  by_cases c9 : p1 = 14
  · have hm := (if_pos c9).symm.trans hm
    refine lv_tableIn (off := 117) (tgt := 118) hx hb dX0_isFormed_1 (by (rw [c9]; decide)) (by (rw [c9]; decide)) (by (rw [c9]; rfl)) (by decide) ?_
    refine lv_aload_n hx hb dX0_isFormed_118 rfl (lv_at hl 0 rfl) ?_
    refine gf_9_0 hx hb ht hK hI mw_6 (fun _ h9 => h9) hown dX0_isFormed_119 ?_
    refine lv_iload_n hx hb dX0_isFormed_122 rfl (lv_at hl 3 rfl) ?_
    obtain ⟨r10, σ11, h12, hm⟩ := bd_some hm
    refine k_i hI hA (va_runV (As := [.int p2]) (rest := []) hX (c_X6_hasFunc N n h12 _) (cwV 1 ht (in_V mw_28 mw_29 mw_30 mw_31 mw_23) rfl rfl rfl pd_X6_hasFunc ⟨Nat.le_of_ble_eq_true rfl, Nat.le_of_ble_eq_true rfl⟩) ⟨q_blind, va_recv hK hI.1 (ci := 5) (q0 := 1) rfl rfl, q_to hI hK hN hZ hA⟩ rfl rfl hl.1 rfl (lv_room (Nat.le_of_ble_eq_true rfl)) dX0_isFormed_123 (by decide)) (fun H locs hI => ?_)
    obtain ⟨g13, hm⟩ := g01_some hm
    exact hR _ _ _ _ _ _ hm hI g13 dX0_isFormed_126
  have hm := (if_neg c9).symm.trans hm
  refine sw_d (tgt := 127) hx hb [1, 2, 12, 13, 14] dX0_isFormed_1 (by decide) (by decide) (ne_c (lv_neT (fun q9 => c1 (Or.inl q9)) (by decide)) (ne_c (lv_neT (fun q9 => c1 (Or.inr (q9))) (by decide)) (ne_c (lv_neT (fun q9 => c5 (Or.inl q9)) (by decide)) (ne_c (lv_neT (fun q9 => c5 (Or.inr (q9))) (by decide)) (ne_c (lv_neT c9 (by decide)) ne_n))))) (by decide) ?_
  refine lv_iload_n hx hb dX0_isFormed_127 rfl (lv_at hl 2 rfl) ?_
  refine lv_if_lt (tgt := 141) hx hb dX0_isFormed_128 (by decide) (fun c14 => ?_) (fun c14 => ?_)
  · have hm := (if_pos c14).symm.trans hm
    refine lv_iconst (v := 0) hx hb dX0_isFormed_141 (by decide) ?_
    exact hR _ _ _ _ _ _ hm hI (by decide) dX0_isFormed_142
  · have hm := (if_neg c14).symm.trans hm
    refine lv_iload_n hx hb dX0_isFormed_131 rfl (lv_at hl 2 rfl) ?_
    refine lv_bipush (v := 17) hx hb dX0_isFormed_132 (by decide) ?_
    refine lv_icmp_gt (tgt := 141) hx hb dX0_isFormed_134 (by decide) (fun c15 => ?_) (fun c15 => ?_)
    · have hm := (if_pos c15).symm.trans hm
      refine lv_iconst (v := 0) hx hb dX0_isFormed_141 (by decide) ?_
      exact hR _ _ _ _ _ _ hm hI (by decide) dX0_isFormed_142
    · have hm := (if_neg c15).symm.trans hm
      refine lv_iconst (v := 1) hx hb dX0_isFormed_137 (by decide) ?_
      refine lv_goto (tgt := 142) hx hb dX0_isFormed_138 (by decide) ?_
      exact hR _ _ _ _ _ _ hm hI (by decide) dX0_isFormed_142
def f_X6_takes (N n : Nat) (σ : Sg) (p0 : Int32) (p1 : Int32) : Option (Int32 × Sg) := if p0 = 14 then (gb p1 12 (some (σ 2 (ix p1), σ))) else (gb p0 18 (some (tk (ix p0), σ)))
set_option maxHeartbeats 4000000 in
set_option maxRecDepth 100000 in
theorem c_X6_takes {l : Launch} {g : GG} {q : Nat} (N n : Nat) {σ : Sg} {p0 : Int32} {p1 : Int32} {r : Int32} {σ' : Sg} (hm : f_X6_takes N n σ p0 p1 = some (r, σ')) : CTi l yX6_takes cX6_takes 3 (some .int) 0 0 g q n [.ref (ga g 1), .int p0, .int p1] σ r σ' := by
  refine e_i (r := r) (by decide) (Nat.le_of_ble_eq_true rfl) ?_
  intro p e s m args below meth c A Q ls hC hl hI
  obtain ⟨hX, hK, hN, hZ, hA, hR⟩ := id hC
  have hx : p.tables.exec = Jvm.exec := hX.1
  have hb : c.code = cX6_takes := hX.2.1
  have hml : c.maxLocals = 3 := hX.2.2.1
  have hown : s.vm.findClass RX6 = some m.cls := hX.2.2.2.1
  have ht : ∀ w ∈ BIG, w.before args s = true := hX.2.2.2.2
  have hl : lv_has ls 3 [(0, .ref (ga g 1)), (1, .int p0), (2, .int p1)] := hl
  unfold f_X6_takes at hm
  refine lv_iload_n hx hb dX6_takes_0 rfl (lv_at hl 1 rfl) ?_
  refine lv_bipush (v := 14) hx hb dX6_takes_1 (by decide) ?_
  refine lv_icmp_ne (tgt := 15) hx hb dX6_takes_3 (by decide) (fun c1 => ?_) (fun c1 => ?_)
  · have hm := (if_neg c1).symm.trans hm
    refine va_getsN hx hb hZ.2.2.2.2.2.2.1 hI.2.2 hown (va_Nw.use rfl hZ.2.2.2.2.1) (fun _ h9 => h9) dX6_takes_15 ?_
    refine lv_iload_n hx hb dX6_takes_18 rfl (lv_at hl 1 rfl) ?_
    obtain ⟨g2, hm⟩ := gb_some hm
    refine va_ti hx hb hZ.2.2.2.2.2.2.2.1 hI.2.2 g2 (v := .int (tk (ix p0))) rfl dX6_takes_19 ?_
    exact hR _ _ _ _ _ _ hm hI dX6_takes_20
  · have hm := (if_pos c1).symm.trans hm
    refine lv_aload_n hx hb dX6_takes_6 rfl (lv_at hl 0 rfl) ?_
    refine gf_1_0 hx hb ht hK hI mw_33 (fun _ h9 => h9) hown dX6_takes_7 ?_
    refine lv_iload_n hx hb dX6_takes_10 rfl (lv_at hl 2 rfl) ?_
    obtain ⟨g3, hm⟩ := gb_some hm
    refine ld_2 hx hb hK hI g3 (v := σ 2 (ix p1)) rfl dX6_takes_11 ?_
    refine lv_goto (tgt := 20) hx hb dX6_takes_12 (by decide) ?_
    exact hR _ _ _ _ _ _ hm hI dX6_takes_20
def f_X0_reach (N n : Nat) (σ : Sg) (p0 : Int32) (p1 : Int32) (p2 : Int32) : Option (Int32 × Sg) := gb p0 12 (gb ((σ 4 (ix p0)) + p1) 300 (if (σ 8 (ix ((σ 4 (ix p0)) + p1))) = (-1) then (gb ((σ 4 (ix p0)) + p1) 300 (gb ((σ 4 (ix p0)) + p1) 300 (if p2 = p2 then (some (1, sg (sg σ 8 (ix ((σ 4 (ix p0)) + p1)) p2) 9 2 (if p1 < (σ 9 2) then p1 else (σ 9 2)))) else (some (0, sg (sg σ 8 (ix ((σ 4 (ix p0)) + p1)) p2) 9 2 (if p1 < (σ 9 2) then p1 else (σ 9 2))))))) else (gb ((σ 4 (ix p0)) + p1) 300 (if (σ 8 (ix ((σ 4 (ix p0)) + p1))) = p2 then (some (1, σ)) else (some (0, σ))))))
set_option maxHeartbeats 4000000 in
set_option maxRecDepth 100000 in
theorem c_X0_reach {l : Launch} {g : GG} {q : Nat} (N n : Nat) {σ : Sg} {p0 : Int32} {p1 : Int32} {p2 : Int32} {r : Int32} {σ' : Sg} (hm : f_X0_reach N n σ p0 p1 p2 = some (r, σ')) : CTi l yX0_reach cX0_reach 5 (some .boolean) 1 14 g q n [.ref (ga g 9), .int p0, .int p1, .int p2] σ r σ' := by
  refine e_z (r := r) (by decide) (Nat.le_of_ble_eq_true rfl) ?_
  intro p e s m args below meth c A Q ls hC hl hI
  obtain ⟨hX, hK, hN, hZ, hA, hR⟩ := id hC
  have hx : p.tables.exec = Jvm.exec := hX.1
  have hb : c.code = cX0_reach := hX.2.1
  have hml : c.maxLocals = 5 := hX.2.2.1
  have hown : s.vm.findClass RX0 = some m.cls := hX.2.2.2.1
  have ht : ∀ w ∈ BIG, w.before args s = true := hX.2.2.2.2
  have hl : lv_has ls 5 [(0, .ref (ga g 9)), (1, .int p0), (2, .int p1), (3, .int p2)] := hl
  unfold f_X0_reach at hm
  refine lv_aload_n hx hb dX0_reach_0 rfl (lv_at hl 0 rfl) ?_
  refine gf_9_0 hx hb ht hK hI mw_6 (fun _ h9 => h9) hown dX0_reach_1 ?_
  refine gf_1_2 hx hb ht hK hI mw_35 (fun _ h9 => h9) hown dX0_reach_4 ?_
  refine lv_iload_n hx hb dX0_reach_7 rfl (lv_at hl 1 rfl) ?_
  obtain ⟨g1, hm⟩ := gb_some hm
  refine ld_4 hx hb hK hI g1 (v := σ 4 (ix p0)) rfl dX0_reach_8 ?_
  refine lv_iload_n hx hb dX0_reach_9 rfl (lv_at hl 2 rfl) ?_
  refine lv_iadd hx hb dX0_reach_10 ?_
  refine lv_istore (lv' := [(4, .int ((σ 4 (ix p0)) + p1)), (0, .ref (ga g 9)), (1, .int p0), (2, .int p1), (3, .int p2)]) hx hb dX0_reach_11 hl (by decide) rfl (fun ls hl => ?_)
  refine lv_aload_n hx hb dX0_reach_13 rfl (lv_at hl 1 rfl) ?_
  refine gf_9_0 hx hb ht hK hI mw_6 (fun _ h9 => h9) hown dX0_reach_14 ?_
  refine gf_1_6 hx hb ht hK hI mw_12 (fun _ h9 => h9) hown dX0_reach_17 ?_
  refine lv_iload hx hb dX0_reach_20 (lv_at hl 0 rfl) ?_
  obtain ⟨g2, hm⟩ := gb_some hm
  refine ld_8 hx hb hK hI g2 (v := σ 8 (ix ((σ 4 (ix p0)) + p1))) rfl dX0_reach_22 ?_
  refine lv_iconst (v := (-1)) hx hb dX0_reach_23 (by decide) ?_
  refine lv_icmp_ne (tgt := 50) hx hb dX0_reach_24 (by decide) (fun c3 => ?_) (fun c3 => ?_)
  · have hm := (if_neg c3).symm.trans hm
    refine lv_aload_n hx hb dX0_reach_50 rfl (lv_at hl 1 rfl) ?_
    refine gf_9_0 hx hb ht hK hI mw_6 (fun _ h9 => h9) hown dX0_reach_51 ?_
    refine gf_1_6 hx hb ht hK hI mw_12 (fun _ h9 => h9) hown dX0_reach_54 ?_
    refine lv_iload hx hb dX0_reach_57 (lv_at hl 0 rfl) ?_
    obtain ⟨g4, hm⟩ := gb_some hm
    refine ld_8 hx hb hK hI g4 (v := σ 8 (ix ((σ 4 (ix p0)) + p1))) rfl dX0_reach_59 ?_
    refine lv_iload_n hx hb dX0_reach_60 rfl (lv_at hl 4 rfl) ?_
    refine lv_icmp_ne (tgt := 68) hx hb dX0_reach_61 (by decide) (fun c5 => ?_) (fun c5 => ?_)
    · have hm := (if_neg c5).symm.trans hm
      refine lv_iconst (v := 0) hx hb dX0_reach_68 (by decide) ?_
      exact hR _ _ _ _ _ _ hm hI (by decide) dX0_reach_69
    · have hm := (if_pos c5).symm.trans hm
      refine lv_iconst (v := 1) hx hb dX0_reach_64 (by decide) ?_
      refine lv_goto (tgt := 69) hx hb dX0_reach_65 (by decide) ?_
      exact hR _ _ _ _ _ _ hm hI (by decide) dX0_reach_69
  · have hm := (if_pos c3).symm.trans hm
    refine lv_aload_n hx hb dX0_reach_27 rfl (lv_at hl 1 rfl) ?_
    refine gf_9_0 hx hb ht hK hI mw_6 (fun _ h9 => h9) hown dX0_reach_28 ?_
    refine gf_1_6 hx hb ht hK hI mw_12 (fun _ h9 => h9) hown dX0_reach_31 ?_
    refine lv_iload hx hb dX0_reach_34 (lv_at hl 0 rfl) ?_
    refine lv_iload_n hx hb dX0_reach_36 rfl (lv_at hl 4 rfl) ?_
    obtain ⟨g6, hm⟩ := gb_some hm
    refine sv_8 hx hb hK hI g6 dX0_reach_37 (fun H locs hI => ?_)
    refine lv_aload_n hx hb dX0_reach_38 rfl (lv_at hl 1 rfl) ?_
    refine lv_aload_n hx hb dX0_reach_39 rfl (lv_at hl 1 rfl) ?_
    refine gf_9_2 hx hb ht hK hI (v := σ 9 2) rfl mw_11 (fun _ h9 => h9) hown dX0_reach_40 ?_
    refine lv_iload_n hx hb dX0_reach_43 rfl (lv_at hl 3 rfl) ?_
    refine va_mmin hx hb (hml.trans hl.1.symm) hown (ht _ mw_36) (ht _ mw_37) (ht _ mw_38) (show (Cond.code Lib.Math.min.name Lib.Math.min.code 2 (some .int)).before args s = true from ht _ mw_1089) (Nat.le_of_ble_eq_true rfl) (Nat.le_of_ble_eq_true rfl) (by decide) (by decide) dX0_reach_44 ?_
    refine pf_9_2 hx hb ht hK hI mw_11 (fun _ h9 => h9) hown dX0_reach_47 (fun H locs hI => ?_)
    refine lv_aload_n hx hb dX0_reach_50 rfl (lv_at hl 1 rfl) ?_
    refine gf_9_0 hx hb ht hK hI mw_6 (fun _ h9 => h9) hown dX0_reach_51 ?_
    refine gf_1_6 hx hb ht hK hI mw_12 (fun _ h9 => h9) hown dX0_reach_54 ?_
    refine lv_iload hx hb dX0_reach_57 (lv_at hl 0 rfl) ?_
    obtain ⟨g7, hm⟩ := gb_some hm
    refine ld_8 hx hb hK hI g7 (v := p2) (show upd (σ 8) (ix ((σ 4 (ix p0)) + p1)) p2 (ix ((σ 4 (ix p0)) + p1)) = p2 from up_same _ _ _) dX0_reach_59 ?_
    refine lv_iload_n hx hb dX0_reach_60 rfl (lv_at hl 4 rfl) ?_
    refine lv_icmp_ne (tgt := 68) hx hb dX0_reach_61 (by decide) (fun c8 => ?_) (fun c8 => ?_)
    · have hm := (if_neg c8).symm.trans hm
      refine lv_iconst (v := 0) hx hb dX0_reach_68 (by decide) ?_
      exact hR _ _ _ _ _ _ hm hI (by decide) dX0_reach_69
    · have hm := (if_pos c8).symm.trans hm
      refine lv_iconst (v := 1) hx hb dX0_reach_64 (by decide) ?_
      refine lv_goto (tgt := 69) hx hb dX0_reach_65 (by decide) ?_
      exact hR _ _ _ _ _ _ hm hI (by decide) dX0_reach_69
def f_X0_faultOfWord (N n : Nat) (σ : Sg) (p0 : Int32) (p1 : Int32) : Option (Int32 × Sg) := gb p0 12 (gb ((σ 4 (ix p0)) + p1) 300 (gb ((σ 4 (ix p0)) + p1) 300 (bd (f_X0_isFormed N n σ p0 (σ 6 (ix ((σ 4 (ix p0)) + p1))) (σ 7 (ix ((σ 4 (ix p0)) + p1)))) (fun r4 σ5 => if r4 = 0 then (some (1, σ5)) else (bd (f_X6_takes N n σ5 (σ 6 (ix ((σ 4 (ix p0)) + p1))) (σ 7 (ix ((σ 4 (ix p0)) + p1)))) (fun r8 σ9 => gb ((σ 4 (ix p0)) + p1) 300 (if r8 ≤ (σ9 8 (ix ((σ 4 (ix p0)) + p1))) then (gb ((σ 4 (ix p0)) + p1) 300 (gb (σ 6 (ix ((σ 4 (ix p0)) + p1))) 18 (if (((σ9 8 (ix ((σ 4 (ix p0)) + p1))) - r8) + (pt (ix (σ 6 (ix ((σ 4 (ix p0)) + p1)))))) ≤ 12 then (if (σ 6 (ix ((σ 4 (ix p0)) + p1))) = 12 then (bd (f_X0_reach N n σ9 p0 (σ 7 (ix ((σ 4 (ix p0)) + p1))) (((σ9 8 (ix ((σ 4 (ix p0)) + p1))) - r8) + (pt (ix (σ 6 (ix ((σ 4 (ix p0)) + p1))))))) (fun r17 σ18 => if r17 = 0 then (some (5, σ18)) else (some (0, σ18)))) else (if (σ 6 (ix ((σ 4 (ix p0)) + p1))) = 15 then (if (σ 6 (ix ((σ 4 (ix p0)) + p1))) = 13 then (bd (f_X0_reach N n σ9 p0 (σ 7 (ix ((σ 4 (ix p0)) + p1))) (((σ9 8 (ix ((σ 4 (ix p0)) + p1))) - r8) + (pt (ix (σ 6 (ix ((σ 4 (ix p0)) + p1))))))) (fun r23 σ24 => if r23 = 0 then (some (5, σ24)) else (some (0, σ24)))) else (some (0, σ9))) else (gb p0 12 (if (p1 + 1) < (σ9 5 (ix p0)) then (bd (f_X0_reach N n σ9 p0 (p1 + 1) (((σ9 8 (ix ((σ 4 (ix p0)) + p1))) - r8) + (pt (ix (σ 6 (ix ((σ 4 (ix p0)) + p1))))))) (fun r29 σ30 => if r29 = 0 then (some (5, σ30)) else (if (σ 6 (ix ((σ 4 (ix p0)) + p1))) = 13 then (bd (f_X0_reach N n σ30 p0 (σ 7 (ix ((σ 4 (ix p0)) + p1))) (((σ9 8 (ix ((σ 4 (ix p0)) + p1))) - r8) + (pt (ix (σ 6 (ix ((σ 4 (ix p0)) + p1))))))) (fun r34 σ35 => if r34 = 0 then (some (5, σ35)) else (some (0, σ35)))) else (some (0, σ30))))) else (some (4, σ9)))))) else (some (3, σ9))))) else (some (2, σ9)))))))))
set_option maxHeartbeats 4000000 in
set_option maxRecDepth 100000 in
theorem c_X0_faultOfWord {l : Launch} {g : GG} {q : Nat} (N n : Nat) {σ : Sg} {p0 : Int32} {p1 : Int32} {r : Int32} {σ' : Sg} (hm : f_X0_faultOfWord N n σ p0 p1 = some (r, σ')) : CTi l yX0_faultOfWord cX0_faultOfWord 8 (some .int) 2 44 g q n [.ref (ga g 9), .int p0, .int p1] σ r σ' := by
  refine e_i (r := r) (by decide) (Nat.le_of_ble_eq_true rfl) ?_
  intro p e s m args below meth c A Q ls hC hl hI
  obtain ⟨hX, hK, hN, hZ, hA, hR⟩ := id hC
  have hx : p.tables.exec = Jvm.exec := hX.1
  have hb : c.code = cX0_faultOfWord := hX.2.1
  have hml : c.maxLocals = 8 := hX.2.2.1
  have hown : s.vm.findClass RX0 = some m.cls := hX.2.2.2.1
  have ht : ∀ w ∈ BIG, w.before args s = true := hX.2.2.2.2
  have hl : lv_has ls 8 [(0, .ref (ga g 9)), (1, .int p0), (2, .int p1)] := hl
  unfold f_X0_faultOfWord at hm
  refine lv_aload_n hx hb dX0_faultOfWord_0 rfl (lv_at hl 0 rfl) ?_
  refine gf_9_0 hx hb ht hK hI mw_6 (fun _ h9 => h9) hown dX0_faultOfWord_1 ?_
  refine gf_1_2 hx hb ht hK hI mw_35 (fun _ h9 => h9) hown dX0_faultOfWord_4 ?_
  refine lv_iload_n hx hb dX0_faultOfWord_7 rfl (lv_at hl 1 rfl) ?_
  obtain ⟨g1, hm⟩ := gb_some hm
  refine ld_4 hx hb hK hI g1 (v := σ 4 (ix p0)) rfl dX0_faultOfWord_8 ?_
  refine lv_iload_n hx hb dX0_faultOfWord_9 rfl (lv_at hl 2 rfl) ?_
  refine lv_iadd hx hb dX0_faultOfWord_10 ?_
  refine lv_istore_n (lv' := [(3, .int ((σ 4 (ix p0)) + p1)), (0, .ref (ga g 9)), (1, .int p0), (2, .int p1)]) hx hb dX0_faultOfWord_11 rfl hl (by decide) rfl (fun ls hl => ?_)
  refine lv_aload_n hx hb dX0_faultOfWord_12 rfl (lv_at hl 1 rfl) ?_
  refine gf_9_0 hx hb ht hK hI mw_6 (fun _ h9 => h9) hown dX0_faultOfWord_13 ?_
  refine gf_1_4 hx hb ht hK hI mw_39 (fun _ h9 => h9) hown dX0_faultOfWord_16 ?_
  refine lv_iload_n hx hb dX0_faultOfWord_19 rfl (lv_at hl 0 rfl) ?_
  obtain ⟨g2, hm⟩ := gb_some hm
  refine ld_6 hx hb hK hI g2 (v := σ 6 (ix ((σ 4 (ix p0)) + p1))) rfl dX0_faultOfWord_20 ?_
  refine lv_istore (lv' := [(4, .int (σ 6 (ix ((σ 4 (ix p0)) + p1)))), (3, .int ((σ 4 (ix p0)) + p1)), (0, .ref (ga g 9)), (1, .int p0), (2, .int p1)]) hx hb dX0_faultOfWord_21 hl (by decide) rfl (fun ls hl => ?_)
  refine lv_aload_n hx hb dX0_faultOfWord_23 rfl (lv_at hl 2 rfl) ?_
  refine gf_9_0 hx hb ht hK hI mw_6 (fun _ h9 => h9) hown dX0_faultOfWord_24 ?_
  refine gf_1_5 hx hb ht hK hI mw_40 (fun _ h9 => h9) hown dX0_faultOfWord_27 ?_
  refine lv_iload_n hx hb dX0_faultOfWord_30 rfl (lv_at hl 1 rfl) ?_
  obtain ⟨g3, hm⟩ := gb_some hm
  refine ld_7 hx hb hK hI g3 (v := σ 7 (ix ((σ 4 (ix p0)) + p1))) rfl dX0_faultOfWord_31 ?_
  refine lv_istore (lv' := [(5, .int (σ 7 (ix ((σ 4 (ix p0)) + p1)))), (4, .int (σ 6 (ix ((σ 4 (ix p0)) + p1)))), (3, .int ((σ 4 (ix p0)) + p1)), (0, .ref (ga g 9)), (1, .int p0), (2, .int p1)]) hx hb dX0_faultOfWord_32 hl (by decide) rfl (fun ls hl => ?_)
  refine lv_aload_n hx hb dX0_faultOfWord_34 rfl (lv_at hl 3 rfl) ?_
  refine lv_iload_n hx hb dX0_faultOfWord_35 rfl (lv_at hl 4 rfl) ?_
  refine lv_iload hx hb dX0_faultOfWord_36 (lv_at hl 1 rfl) ?_
  refine lv_iload hx hb dX0_faultOfWord_38 (lv_at hl 0 rfl) ?_
  obtain ⟨r4, σ5, h6, hm⟩ := bd_some hm
  refine k_i hI hA (va_runV (As := [.int p0, .int (σ 6 (ix ((σ 4 (ix p0)) + p1))), .int (σ 7 (ix ((σ 4 (ix p0)) + p1)))]) (rest := []) hX (c_X0_isFormed N n h6 _) (cwV 3 ht (in_V mw_41 mw_42 mw_43 mw_44 mw_25) rfl rfl rfl pd_X0_isFormed ⟨Nat.le_of_ble_eq_true rfl, Nat.le_of_ble_eq_true rfl⟩) ⟨q_blind, va_recv hK hI.1 (ci := 0) (q0 := 9) rfl rfl, q_to hI hK hN hZ hA⟩ rfl rfl hl.1 rfl (lv_room (Nat.le_of_ble_eq_true rfl)) dX0_faultOfWord_40 (by decide)) (fun H locs hI => ?_)
  refine lv_if_ne (tgt := 48) hx hb dX0_faultOfWord_43 (by decide) (fun c7 => ?_) (fun c7 => ?_)
  · have hm := (if_neg c7).symm.trans hm
    refine lv_aload_n hx hb dX0_faultOfWord_48 rfl (lv_at hl 3 rfl) ?_
    refine gf_9_0 hx hb ht hK hI mw_6 (fun _ h9 => h9) hown dX0_faultOfWord_49 ?_
    refine lv_iload hx hb dX0_faultOfWord_52 (lv_at hl 1 rfl) ?_
    refine lv_iload hx hb dX0_faultOfWord_54 (lv_at hl 0 rfl) ?_
    obtain ⟨r8, σ9, h10, hm⟩ := bd_some hm
    refine k_i hI hA (va_runV (As := [.int (σ 6 (ix ((σ 4 (ix p0)) + p1))), .int (σ 7 (ix ((σ 4 (ix p0)) + p1)))]) (rest := []) hX (c_X6_takes N n h10 _) (cwV 2 ht (in_V mw_45 mw_46 mw_47 mw_31 mw_32) rfl rfl rfl pd_X6_takes ⟨Nat.le_of_ble_eq_true rfl, Nat.le_of_ble_eq_true rfl⟩) ⟨q_blind, va_recv hK hI.1 (ci := 5) (q0 := 1) rfl rfl, q_to hI hK hN hZ hA⟩ rfl rfl hl.1 rfl (lv_room (Nat.le_of_ble_eq_true rfl)) dX0_faultOfWord_56 (by decide)) (fun H locs hI => ?_)
    refine lv_istore (lv' := [(6, .int r8), (5, .int (σ 7 (ix ((σ 4 (ix p0)) + p1)))), (4, .int (σ 6 (ix ((σ 4 (ix p0)) + p1)))), (3, .int ((σ 4 (ix p0)) + p1)), (0, .ref (ga g 9)), (1, .int p0), (2, .int p1)]) hx hb dX0_faultOfWord_59 hl (by decide) rfl (fun ls hl => ?_)
    refine lv_aload_n hx hb dX0_faultOfWord_61 rfl (lv_at hl 4 rfl) ?_
    refine gf_9_0 hx hb ht hK hI mw_6 (fun _ h9 => h9) hown dX0_faultOfWord_62 ?_
    refine gf_1_6 hx hb ht hK hI mw_12 (fun _ h9 => h9) hown dX0_faultOfWord_65 ?_
    refine lv_iload_n hx hb dX0_faultOfWord_68 rfl (lv_at hl 3 rfl) ?_
    obtain ⟨g11, hm⟩ := gb_some hm
    refine ld_8 hx hb hK hI g11 (v := σ9 8 (ix ((σ 4 (ix p0)) + p1))) rfl dX0_faultOfWord_69 ?_
    refine lv_iload hx hb dX0_faultOfWord_70 (lv_at hl 0 rfl) ?_
    refine lv_icmp_ge (tgt := 77) hx hb dX0_faultOfWord_72 (by decide) (fun c12 => ?_) (fun c12 => ?_)
    · have hm := (if_pos c12).symm.trans hm
      refine lv_aload_n hx hb dX0_faultOfWord_77 rfl (lv_at hl 4 rfl) ?_
      refine gf_9_0 hx hb ht hK hI mw_6 (fun _ h9 => h9) hown dX0_faultOfWord_78 ?_
      refine gf_1_6 hx hb ht hK hI mw_12 (fun _ h9 => h9) hown dX0_faultOfWord_81 ?_
      refine lv_iload_n hx hb dX0_faultOfWord_84 rfl (lv_at hl 3 rfl) ?_
      obtain ⟨g13, hm⟩ := gb_some hm
      refine ld_8 hx hb hK hI g13 (v := σ9 8 (ix ((σ 4 (ix p0)) + p1))) rfl dX0_faultOfWord_85 ?_
      refine lv_iload hx hb dX0_faultOfWord_86 (lv_at hl 0 rfl) ?_
      refine lv_isub hx hb dX0_faultOfWord_88 ?_
      refine va_getsN hx hb hZ.2.2.2.2.2.2.2.2.1 hI.2.2 hown (va_Nw.use rfl hZ.2.2.2.2.2.1) (fun _ h9 => h9) dX0_faultOfWord_89 ?_
      refine lv_iload hx hb dX0_faultOfWord_92 (lv_at hl 2 rfl) ?_
      obtain ⟨g14, hm⟩ := gb_some hm
      refine va_ti hx hb hZ.2.2.2.2.2.2.2.2.2.1 hI.2.2 g14 (v := .int (pt (ix (σ 6 (ix ((σ 4 (ix p0)) + p1)))))) rfl dX0_faultOfWord_94 ?_
      refine lv_iadd hx hb dX0_faultOfWord_95 ?_
      refine lv_istore (lv' := [(7, .int (((σ9 8 (ix ((σ 4 (ix p0)) + p1))) - r8) + (pt (ix (σ 6 (ix ((σ 4 (ix p0)) + p1))))))), (6, .int r8), (5, .int (σ 7 (ix ((σ 4 (ix p0)) + p1)))), (4, .int (σ 6 (ix ((σ 4 (ix p0)) + p1)))), (3, .int ((σ 4 (ix p0)) + p1)), (0, .ref (ga g 9)), (1, .int p0), (2, .int p1)]) hx hb dX0_faultOfWord_96 hl (by decide) rfl (fun ls hl => ?_)
      refine lv_iload hx hb dX0_faultOfWord_98 (lv_at hl 0 rfl) ?_
      refine lv_bipush (v := 12) hx hb dX0_faultOfWord_100 (by decide) ?_
      refine lv_icmp_le (tgt := 107) hx hb dX0_faultOfWord_102 (by decide) (fun c15 => ?_) (fun c15 => ?_)
      · have hm := (if_pos c15).symm.trans hm
        refine lv_iload hx hb dX0_faultOfWord_107 (lv_at hl 3 rfl) ?_
        refine lv_bipush (v := 12) hx hb dX0_faultOfWord_109 (by decide) ?_
        refine lv_icmp_eq (tgt := 153) hx hb dX0_faultOfWord_111 (by decide) (fun c16 => ?_) (fun c16 => ?_)
        · have hm := (if_pos c16).symm.trans hm
          refine lv_iload hx hb dX0_faultOfWord_153 (lv_at hl 3 rfl) ?_
          refine lv_bipush (v := 12) hx hb dX0_faultOfWord_155 (by decide) ?_
          refine lv_icmp_eq (tgt := 167) hx hb dX0_faultOfWord_157 (by decide) (fun _ => ?_) (fun h => absurd c16 h)
          refine lv_aload_n hx hb dX0_faultOfWord_167 rfl (lv_at hl 5 rfl) ?_
          refine lv_iload_n hx hb dX0_faultOfWord_168 rfl (lv_at hl 6 rfl) ?_
          refine lv_iload hx hb dX0_faultOfWord_169 (lv_at hl 2 rfl) ?_
          refine lv_iload hx hb dX0_faultOfWord_171 (lv_at hl 0 rfl) ?_
          obtain ⟨r17, σ18, h19, hm⟩ := bd_some hm
          refine k_i hI hA (va_runV (As := [.int p0, .int (σ 7 (ix ((σ 4 (ix p0)) + p1))), .int (((σ9 8 (ix ((σ 4 (ix p0)) + p1))) - r8) + (pt (ix (σ 6 (ix ((σ 4 (ix p0)) + p1))))))]) (rest := []) hX (c_X0_reach N n h19 _) (cwV 3 ht (in_V mw_48 mw_49 mw_50 mw_44 mw_34) rfl rfl rfl pd_X0_reach ⟨Nat.le_of_ble_eq_true rfl, Nat.le_of_ble_eq_true rfl⟩) ⟨q_blind, va_recv hK hI.1 (ci := 0) (q0 := 9) rfl rfl, q_to hI hK hN hZ hA⟩ rfl rfl hl.1 rfl (lv_room (Nat.le_of_ble_eq_true rfl)) dX0_faultOfWord_173 (by decide)) (fun H locs hI => ?_)
          refine lv_if_ne (tgt := 181) hx hb dX0_faultOfWord_176 (by decide) (fun c20 => ?_) (fun c20 => ?_)
          · have hm := (if_neg c20).symm.trans hm
            refine lv_iconst (v := 0) hx hb dX0_faultOfWord_181 (by decide) ?_
            exact hR _ _ _ _ _ _ hm hI dX0_faultOfWord_182
          · have hm := (if_pos c20).symm.trans hm
            refine lv_iconst (v := 5) hx hb dX0_faultOfWord_179 (by decide) ?_
            exact hR _ _ _ _ _ _ hm hI dX0_faultOfWord_180
        · have hm := (if_neg c16).symm.trans hm
          refine lv_iload hx hb dX0_faultOfWord_114 (lv_at hl 3 rfl) ?_
          refine lv_bipush (v := 15) hx hb dX0_faultOfWord_116 (by decide) ?_
          refine lv_icmp_eq (tgt := 153) hx hb dX0_faultOfWord_118 (by decide) (fun c21 => ?_) (fun c21 => ?_)
          · have hm := (if_pos c21).symm.trans hm
            refine lv_iload hx hb dX0_faultOfWord_153 (lv_at hl 3 rfl) ?_
            refine lv_bipush (v := 12) hx hb dX0_faultOfWord_155 (by decide) ?_
            refine lv_icmp_eq (tgt := 167) hx hb dX0_faultOfWord_157 (by decide) (fun h => absurd h c16) (fun _ => ?_)
            refine lv_iload hx hb dX0_faultOfWord_160 (lv_at hl 3 rfl) ?_
            refine lv_bipush (v := 13) hx hb dX0_faultOfWord_162 (by decide) ?_
            refine lv_icmp_ne (tgt := 181) hx hb dX0_faultOfWord_164 (by decide) (fun c22 => ?_) (fun c22 => ?_)
            · have hm := (if_neg c22).symm.trans hm
              refine lv_iconst (v := 0) hx hb dX0_faultOfWord_181 (by decide) ?_
              exact hR _ _ _ _ _ _ hm hI dX0_faultOfWord_182
            · have hm := (if_pos c22).symm.trans hm
              refine lv_aload_n hx hb dX0_faultOfWord_167 rfl (lv_at hl 5 rfl) ?_
              refine lv_iload_n hx hb dX0_faultOfWord_168 rfl (lv_at hl 6 rfl) ?_
              refine lv_iload hx hb dX0_faultOfWord_169 (lv_at hl 2 rfl) ?_
              refine lv_iload hx hb dX0_faultOfWord_171 (lv_at hl 0 rfl) ?_
              obtain ⟨r23, σ24, h25, hm⟩ := bd_some hm
              refine k_i hI hA (va_runV (As := [.int p0, .int (σ 7 (ix ((σ 4 (ix p0)) + p1))), .int (((σ9 8 (ix ((σ 4 (ix p0)) + p1))) - r8) + (pt (ix (σ 6 (ix ((σ 4 (ix p0)) + p1))))))]) (rest := []) hX (c_X0_reach N n h25 _) (cwV 3 ht (in_V mw_48 mw_49 mw_50 mw_44 mw_34) rfl rfl rfl pd_X0_reach ⟨Nat.le_of_ble_eq_true rfl, Nat.le_of_ble_eq_true rfl⟩) ⟨q_blind, va_recv hK hI.1 (ci := 0) (q0 := 9) rfl rfl, q_to hI hK hN hZ hA⟩ rfl rfl hl.1 rfl (lv_room (Nat.le_of_ble_eq_true rfl)) dX0_faultOfWord_173 (by decide)) (fun H locs hI => ?_)
              refine lv_if_ne (tgt := 181) hx hb dX0_faultOfWord_176 (by decide) (fun c26 => ?_) (fun c26 => ?_)
              · have hm := (if_neg c26).symm.trans hm
                refine lv_iconst (v := 0) hx hb dX0_faultOfWord_181 (by decide) ?_
                exact hR _ _ _ _ _ _ hm hI dX0_faultOfWord_182
              · have hm := (if_pos c26).symm.trans hm
                refine lv_iconst (v := 5) hx hb dX0_faultOfWord_179 (by decide) ?_
                exact hR _ _ _ _ _ _ hm hI dX0_faultOfWord_180
          · have hm := (if_neg c21).symm.trans hm
            refine lv_iload_n hx hb dX0_faultOfWord_121 rfl (lv_at hl 7 rfl) ?_
            refine lv_iconst (v := 1) hx hb dX0_faultOfWord_122 (by decide) ?_
            refine lv_iadd hx hb dX0_faultOfWord_123 ?_
            refine lv_aload_n hx hb dX0_faultOfWord_124 rfl (lv_at hl 5 rfl) ?_
            refine gf_9_0 hx hb ht hK hI mw_6 (fun _ h9 => h9) hown dX0_faultOfWord_125 ?_
            refine gf_1_3 hx hb ht hK hI mw_27 (fun _ h9 => h9) hown dX0_faultOfWord_128 ?_
            refine lv_iload_n hx hb dX0_faultOfWord_131 rfl (lv_at hl 6 rfl) ?_
            obtain ⟨g27, hm⟩ := gb_some hm
            refine ld_5 hx hb hK hI g27 (v := σ9 5 (ix p0)) rfl dX0_faultOfWord_132 ?_
            refine lv_icmp_lt (tgt := 138) hx hb dX0_faultOfWord_133 (by decide) (fun c28 => ?_) (fun c28 => ?_)
            · have hm := (if_pos c28).symm.trans hm
              refine lv_aload_n hx hb dX0_faultOfWord_138 rfl (lv_at hl 5 rfl) ?_
              refine lv_iload_n hx hb dX0_faultOfWord_139 rfl (lv_at hl 6 rfl) ?_
              refine lv_iload_n hx hb dX0_faultOfWord_140 rfl (lv_at hl 7 rfl) ?_
              refine lv_iconst (v := 1) hx hb dX0_faultOfWord_141 (by decide) ?_
              refine lv_iadd hx hb dX0_faultOfWord_142 ?_
              refine lv_iload hx hb dX0_faultOfWord_143 (lv_at hl 0 rfl) ?_
              obtain ⟨r29, σ30, h31, hm⟩ := bd_some hm
              refine k_i hI hA (va_runV (As := [.int p0, .int (p1 + 1), .int (((σ9 8 (ix ((σ 4 (ix p0)) + p1))) - r8) + (pt (ix (σ 6 (ix ((σ 4 (ix p0)) + p1))))))]) (rest := []) hX (c_X0_reach N n h31 _) (cwV 3 ht (in_V mw_48 mw_49 mw_50 mw_44 mw_34) rfl rfl rfl pd_X0_reach ⟨Nat.le_of_ble_eq_true rfl, Nat.le_of_ble_eq_true rfl⟩) ⟨q_blind, va_recv hK hI.1 (ci := 0) (q0 := 9) rfl rfl, q_to hI hK hN hZ hA⟩ rfl rfl hl.1 rfl (lv_room (Nat.le_of_ble_eq_true rfl)) dX0_faultOfWord_145 (by decide)) (fun H locs hI => ?_)
              refine lv_if_ne (tgt := 153) hx hb dX0_faultOfWord_148 (by decide) (fun c32 => ?_) (fun c32 => ?_)
              · have hm := (if_neg c32).symm.trans hm
                refine lv_iload hx hb dX0_faultOfWord_153 (lv_at hl 3 rfl) ?_
                refine lv_bipush (v := 12) hx hb dX0_faultOfWord_155 (by decide) ?_
                refine lv_icmp_eq (tgt := 167) hx hb dX0_faultOfWord_157 (by decide) (fun h => absurd h c16) (fun _ => ?_)
                refine lv_iload hx hb dX0_faultOfWord_160 (lv_at hl 3 rfl) ?_
                refine lv_bipush (v := 13) hx hb dX0_faultOfWord_162 (by decide) ?_
                refine lv_icmp_ne (tgt := 181) hx hb dX0_faultOfWord_164 (by decide) (fun c33 => ?_) (fun c33 => ?_)
                · have hm := (if_neg c33).symm.trans hm
                  refine lv_iconst (v := 0) hx hb dX0_faultOfWord_181 (by decide) ?_
                  exact hR _ _ _ _ _ _ hm hI dX0_faultOfWord_182
                · have hm := (if_pos c33).symm.trans hm
                  refine lv_aload_n hx hb dX0_faultOfWord_167 rfl (lv_at hl 5 rfl) ?_
                  refine lv_iload_n hx hb dX0_faultOfWord_168 rfl (lv_at hl 6 rfl) ?_
                  refine lv_iload hx hb dX0_faultOfWord_169 (lv_at hl 2 rfl) ?_
                  refine lv_iload hx hb dX0_faultOfWord_171 (lv_at hl 0 rfl) ?_
                  obtain ⟨r34, σ35, h36, hm⟩ := bd_some hm
                  refine k_i hI hA (va_runV (As := [.int p0, .int (σ 7 (ix ((σ 4 (ix p0)) + p1))), .int (((σ9 8 (ix ((σ 4 (ix p0)) + p1))) - r8) + (pt (ix (σ 6 (ix ((σ 4 (ix p0)) + p1))))))]) (rest := []) hX (c_X0_reach N n h36 _) (cwV 3 ht (in_V mw_48 mw_49 mw_50 mw_44 mw_34) rfl rfl rfl pd_X0_reach ⟨Nat.le_of_ble_eq_true rfl, Nat.le_of_ble_eq_true rfl⟩) ⟨q_blind, va_recv hK hI.1 (ci := 0) (q0 := 9) rfl rfl, q_to hI hK hN hZ hA⟩ rfl rfl hl.1 rfl (lv_room (Nat.le_of_ble_eq_true rfl)) dX0_faultOfWord_173 (by decide)) (fun H locs hI => ?_)
                  refine lv_if_ne (tgt := 181) hx hb dX0_faultOfWord_176 (by decide) (fun c37 => ?_) (fun c37 => ?_)
                  · have hm := (if_neg c37).symm.trans hm
                    refine lv_iconst (v := 0) hx hb dX0_faultOfWord_181 (by decide) ?_
                    exact hR _ _ _ _ _ _ hm hI dX0_faultOfWord_182
                  · have hm := (if_pos c37).symm.trans hm
                    refine lv_iconst (v := 5) hx hb dX0_faultOfWord_179 (by decide) ?_
                    exact hR _ _ _ _ _ _ hm hI dX0_faultOfWord_180
              · have hm := (if_pos c32).symm.trans hm
                refine lv_iconst (v := 5) hx hb dX0_faultOfWord_151 (by decide) ?_
                exact hR _ _ _ _ _ _ hm hI dX0_faultOfWord_152
            · have hm := (if_neg c28).symm.trans hm
              refine lv_iconst (v := 4) hx hb dX0_faultOfWord_136 (by decide) ?_
              exact hR _ _ _ _ _ _ hm hI dX0_faultOfWord_137
      · have hm := (if_neg c15).symm.trans hm
        refine lv_iconst (v := 3) hx hb dX0_faultOfWord_105 (by decide) ?_
        exact hR _ _ _ _ _ _ hm hI dX0_faultOfWord_106
    · have hm := (if_neg c12).symm.trans hm
      refine lv_iconst (v := 2) hx hb dX0_faultOfWord_75 (by decide) ?_
      exact hR _ _ _ _ _ _ hm hI dX0_faultOfWord_76
  · have hm := (if_pos c7).symm.trans hm
    refine lv_iconst (v := 1) hx hb dX0_faultOfWord_46 (by decide) ?_
    exact hR _ _ _ _ _ _ hm hI dX0_faultOfWord_47
def lb_X0_faultOfFunc_23 (N n : Nat) (u1 : Int32) (u2 : Int32) (u3 : Int32) (K58 : (Sg → Int32 → Option (Int32 × Sg))) (rec : (Sg → Int32 → Option (Int32 × Sg))) (σ : Sg) (v4 : Int32) : Option (Int32 × Sg) := if u3 ≤ v4 then (K58 σ v4) else (gb (u2 + v4) 300 (gb (u2 + v4) 300 (rec (sg (sg σ 8 (ix (u2 + v4)) (-1)) 10 (ix (u2 + v4)) 0) (v4 + 1))))
def lf_X0_faultOfFunc_23 (N n : Nat) (u1 : Int32) (u2 : Int32) (u3 : Int32) (K58 : (Sg → Int32 → Option (Int32 × Sg))) : Nat → (Sg → Int32 → Option (Int32 × Sg))
  | 0 => fun _ _ => none
  | k + 1 => lb_X0_faultOfFunc_23 N n u1 u2 u3 K58 (lf_X0_faultOfFunc_23 N n u1 u2 u3 K58 k)
def lb_X0_faultOfFunc_76 (N n : Nat) (u1 : Int32) (u2 : Int32) (u3 : Int32) (K151 : (Sg → Int32 → Option (Int32 × Sg))) (rec : (Sg → Int32 → Option (Int32 × Sg))) (σ : Sg) (v4 : Int32) : Option (Int32 × Sg) := if u3 ≤ v4 then (K151 σ v4) else (bd (f_X0_leastWaiting N n σ u2 u3) (fun r10 σ11 => if r10 = (-1) then (some (0, σ11)) else (gb (u2 + r10) 300 (bd (f_X0_faultOfWord N n (sg (sg σ11 10 (ix (u2 + r10)) 1) 9 2 (r10 + 1)) u1 r10) (fun r15 σ16 => if r15 = 0 then (rec σ16 (v4 + 1)) else (some ((r15 + (8 * u1)) + (128 * r10), σ16)))))))
def lf_X0_faultOfFunc_76 (N n : Nat) (u1 : Int32) (u2 : Int32) (u3 : Int32) (K151 : (Sg → Int32 → Option (Int32 × Sg))) : Nat → (Sg → Int32 → Option (Int32 × Sg))
  | 0 => fun _ _ => none
  | k + 1 => lb_X0_faultOfFunc_76 N n u1 u2 u3 K151 (lf_X0_faultOfFunc_76 N n u1 u2 u3 K151 k)
def f_X0_faultOfFunc (N n : Nat) (σ : Sg) (p0 : Int32) : Option (Int32 × Sg) := gb p0 12 (gb p0 12 (lf_X0_faultOfFunc_23 N n p0 (σ 4 (ix p0)) (σ 5 (ix p0)) (fun σ6 w7 => gb (σ 4 (ix p0)) 300 (lf_X0_faultOfFunc_76 N n p0 (σ 4 (ix p0)) (σ 5 (ix p0)) (fun σ19 w20 => some (0, σ19)) N (sg (sg σ6 8 (ix (σ 4 (ix p0))) 0) 9 2 0) 0)) N σ 0))
set_option maxHeartbeats 4000000 in
set_option maxRecDepth 100000 in
theorem lp_X0_faultOfFunc_23 {p : Program} {l : Launch} {e : Env} {s : State} {m : MethodId} {args : Array Value} {below : List Frame} {meth : Method} {c : Code} {Q : State → Prop} {A : Nat → Prop} {g : GG} {q N n : Nat} {out : Int32 × Sg} {u1 : Int32} {u2 : Int32} {u3 : Int32} {K58 : (Sg → Int32 → Option (Int32 × Sg))}
    (hC : CXi p l e (qR 3 71) s m args below meth c cX0_faultOfFunc 7 RX0 g q n A Q (some out)) :
    ∀ (k : Nat) (σ : Sg) (v4 : Int32) (H : Heap) (locs : List Loc) (ls : Array Slot), lf_X0_faultOfFunc_23 N n u1 u2 u3 K58 k σ v4 = some out → wI g q n σ A s.heap H locs → lv_has ls 7 [(0, .ref (ga g 9)), (1, .int u1), (2, .int u2), (3, .int u3), (4, .int v4)] → (∀ (σ : Sg) (v4 : Int32) (H : Heap) (locs : List Loc) (ls : Array Slot), K58 σ v4 = some out → wI g q n σ A s.heap H locs → lv_has ls 7 [(0, .ref (ga g 9)), (1, .int u1), (2, .int u2), (3, .int u3)] → W p l e (qR 3 71) s m args below meth c H locs 0 0 Q (F0 m 58 ls [])) → W p l e (qR 3 71) s m args below meth c H locs 0 0 Q (F0 m 23 ls []) := by
  obtain ⟨hX, hK, hN, hZ, hA, hR⟩ := id hC
  have hx : p.tables.exec = Jvm.exec := hX.1
  have hb : c.code = cX0_faultOfFunc := hX.2.1
  have hml : c.maxLocals = 7 := hX.2.2.1
  have hown : s.vm.findClass RX0 = some m.cls := hX.2.2.2.1
  have ht : ∀ w ∈ BIG, w.before args s = true := hX.2.2.2.2
  intro k
  induction k with
  | zero =>
    intro σ v4 H locs ls hm
    have hm : none = some out := hm
    exact nomatch hm
  | succ k ih =>
    intro σ v4 H locs ls hm hI hl hx58
    have hm : lb_X0_faultOfFunc_23 N n u1 u2 u3 K58 (lf_X0_faultOfFunc_23 N n u1 u2 u3 K58 k) σ v4 = some out := hm
    unfold lb_X0_faultOfFunc_23 at hm
    refine lv_iload hx hb dX0_faultOfFunc_23 (lv_at hl 4 rfl) ?_
    refine lv_iload_n hx hb dX0_faultOfFunc_25 rfl (lv_at hl 3 rfl) ?_
    refine lv_icmp_ge (tgt := 58) hx hb dX0_faultOfFunc_26 (by decide) (fun c3 => ?_) (fun c3 => ?_)
    · have hm := (if_pos c3).symm.trans hm
      exact hx58 σ v4 _ _ _ hm hI (lv_sub hl [0, 1, 2, 3] rfl)
    · have hm := (if_neg c3).symm.trans hm
      refine lv_aload_n hx hb dX0_faultOfFunc_29 rfl (lv_at hl 0 rfl) ?_
      refine gf_9_0 hx hb ht hK hI mw_6 (fun _ h9 => h9) hown dX0_faultOfFunc_30 ?_
      refine gf_1_6 hx hb ht hK hI mw_12 (fun _ h9 => h9) hown dX0_faultOfFunc_33 ?_
      refine lv_iload_n hx hb dX0_faultOfFunc_36 rfl (lv_at hl 2 rfl) ?_
      refine lv_iload hx hb dX0_faultOfFunc_37 (lv_at hl 4 rfl) ?_
      refine lv_iadd hx hb dX0_faultOfFunc_39 ?_
      refine lv_iconst (v := (-1)) hx hb dX0_faultOfFunc_40 (by decide) ?_
      obtain ⟨g4, hm⟩ := gb_some hm
      refine sv_8 hx hb hK hI g4 dX0_faultOfFunc_41 (fun H locs hI => ?_)
      refine lv_aload_n hx hb dX0_faultOfFunc_42 rfl (lv_at hl 0 rfl) ?_
      refine gf_9_1 hx hb ht hK hI mw_5 (fun _ h9 => h9) hown dX0_faultOfFunc_43 ?_
      refine lv_iload_n hx hb dX0_faultOfFunc_46 rfl (lv_at hl 2 rfl) ?_
      refine lv_iload hx hb dX0_faultOfFunc_47 (lv_at hl 4 rfl) ?_
      refine lv_iadd hx hb dX0_faultOfFunc_49 ?_
      refine lv_iconst (v := 0) hx hb dX0_faultOfFunc_50 (by decide) ?_
      obtain ⟨g5, hm⟩ := gb_some hm
      refine sv_10 hx hb hK hI g5 (by decide) dX0_faultOfFunc_51 (fun H locs hI => ?_)
      refine lv_iinc (v := v4 + 1) (lv' := [(4, .int (v4 + 1)), (0, .ref (ga g 9)), (1, .int u1), (2, .int u2), (3, .int u3)]) hx hb dX0_faultOfFunc_52 hl (k := 4) rfl (congrArg (fun z => v4 + z) (show Int32.ofInt 1 = 1 by decide)) (by decide) rfl (fun ls hl => ?_)
      refine lv_goto (tgt := 23) hx hb dX0_faultOfFunc_55 (by decide) ?_
      exact ih (sg (sg σ 8 (ix (u2 + v4)) (-1)) 10 (ix (u2 + v4)) 0) (v4 + 1) _ _ _ hm hI (lv_sub hl [1, 2, 3, 4, 0] rfl) hx58
set_option maxHeartbeats 4000000 in
set_option maxRecDepth 100000 in
theorem lp_X0_faultOfFunc_76 {p : Program} {l : Launch} {e : Env} {s : State} {m : MethodId} {args : Array Value} {below : List Frame} {meth : Method} {c : Code} {Q : State → Prop} {A : Nat → Prop} {g : GG} {q N n : Nat} {out : Int32 × Sg} {u1 : Int32} {u2 : Int32} {u3 : Int32} {K151 : (Sg → Int32 → Option (Int32 × Sg))}
    (hC : CXi p l e (qR 3 71) s m args below meth c cX0_faultOfFunc 7 RX0 g q n A Q (some out)) :
    ∀ (k : Nat) (σ : Sg) (v4 : Int32) (H : Heap) (locs : List Loc) (ls : Array Slot), lf_X0_faultOfFunc_76 N n u1 u2 u3 K151 k σ v4 = some out → wI g q n σ A s.heap H locs → lv_has ls 7 [(0, .ref (ga g 9)), (1, .int u1), (2, .int u2), (3, .int u3), (4, .int v4)] → (∀ (σ : Sg) (v4 : Int32) (H : Heap) (locs : List Loc) (ls : Array Slot), K151 σ v4 = some out → wI g q n σ A s.heap H locs → lv_has ls 7 [] → W p l e (qR 3 71) s m args below meth c H locs 0 0 Q (F0 m 151 ls [])) → W p l e (qR 3 71) s m args below meth c H locs 0 0 Q (F0 m 76 ls []) := by
  obtain ⟨hX, hK, hN, hZ, hA, hR⟩ := id hC
  have hx : p.tables.exec = Jvm.exec := hX.1
  have hb : c.code = cX0_faultOfFunc := hX.2.1
  have hml : c.maxLocals = 7 := hX.2.2.1
  have hown : s.vm.findClass RX0 = some m.cls := hX.2.2.2.1
  have ht : ∀ w ∈ BIG, w.before args s = true := hX.2.2.2.2
  intro k
  induction k with
  | zero =>
    intro σ v4 H locs ls hm
    have hm : none = some out := hm
    exact nomatch hm
  | succ k ih =>
    intro σ v4 H locs ls hm hI hl hx151
    have hm : lb_X0_faultOfFunc_76 N n u1 u2 u3 K151 (lf_X0_faultOfFunc_76 N n u1 u2 u3 K151 k) σ v4 = some out := hm
    unfold lb_X0_faultOfFunc_76 at hm
    refine lv_iload hx hb dX0_faultOfFunc_76 (lv_at hl 4 rfl) ?_
    refine lv_iload_n hx hb dX0_faultOfFunc_78 rfl (lv_at hl 3 rfl) ?_
    refine lv_icmp_ge (tgt := 151) hx hb dX0_faultOfFunc_79 (by decide) (fun c9 => ?_) (fun c9 => ?_)
    · have hm := (if_pos c9).symm.trans hm
      exact hx151 σ v4 _ _ _ hm hI (lv_sub hl [] rfl)
    · have hm := (if_neg c9).symm.trans hm
      refine lv_aload_n hx hb dX0_faultOfFunc_82 rfl (lv_at hl 0 rfl) ?_
      refine lv_iload_n hx hb dX0_faultOfFunc_83 rfl (lv_at hl 2 rfl) ?_
      refine lv_iload_n hx hb dX0_faultOfFunc_84 rfl (lv_at hl 3 rfl) ?_
      obtain ⟨r10, σ11, h12, hm⟩ := bd_some hm
      refine k_i hI hA (va_runV (As := [.int u2, .int u3]) (rest := []) hX (c_X0_leastWaiting N n h12 _) (cwV 2 ht (in_V mw_52 mw_53 mw_54 mw_44 mw_10) rfl rfl rfl pd_X0_leastWaiting ⟨Nat.le_of_ble_eq_true rfl, Nat.le_of_ble_eq_true rfl⟩) ⟨q_blind, va_recv hK hI.1 (ci := 0) (q0 := 9) rfl rfl, q_to hI hK hN hZ hA⟩ rfl rfl hl.1 rfl (lv_room (Nat.le_of_ble_eq_true rfl)) dX0_faultOfFunc_85 (by decide)) (fun H locs hI => ?_)
      refine lv_istore (lv' := [(5, .int r10), (0, .ref (ga g 9)), (1, .int u1), (2, .int u2), (3, .int u3), (4, .int v4)]) hx hb dX0_faultOfFunc_88 hl (by decide) rfl (fun ls hl => ?_)
      refine lv_iload hx hb dX0_faultOfFunc_90 (lv_at hl 0 rfl) ?_
      refine lv_iconst (v := (-1)) hx hb dX0_faultOfFunc_92 (by decide) ?_
      refine lv_icmp_ne (tgt := 98) hx hb dX0_faultOfFunc_93 (by decide) (fun c13 => ?_) (fun c13 => ?_)
      · have hm := (if_neg c13).symm.trans hm
        refine lv_aload_n hx hb dX0_faultOfFunc_98 rfl (lv_at hl 1 rfl) ?_
        refine gf_9_1 hx hb ht hK hI mw_5 (fun _ h9 => h9) hown dX0_faultOfFunc_99 ?_
        refine lv_iload_n hx hb dX0_faultOfFunc_102 rfl (lv_at hl 3 rfl) ?_
        refine lv_iload hx hb dX0_faultOfFunc_103 (lv_at hl 0 rfl) ?_
        refine lv_iadd hx hb dX0_faultOfFunc_105 ?_
        refine lv_iconst (v := 1) hx hb dX0_faultOfFunc_106 (by decide) ?_
        obtain ⟨g14, hm⟩ := gb_some hm
        refine sv_10 hx hb hK hI g14 (by decide) dX0_faultOfFunc_107 (fun H locs hI => ?_)
        refine lv_aload_n hx hb dX0_faultOfFunc_108 rfl (lv_at hl 1 rfl) ?_
        refine lv_iload hx hb dX0_faultOfFunc_109 (lv_at hl 0 rfl) ?_
        refine lv_iconst (v := 1) hx hb dX0_faultOfFunc_111 (by decide) ?_
        refine lv_iadd hx hb dX0_faultOfFunc_112 ?_
        refine pf_9_2 hx hb ht hK hI mw_11 (fun _ h9 => h9) hown dX0_faultOfFunc_113 (fun H locs hI => ?_)
        refine lv_aload_n hx hb dX0_faultOfFunc_116 rfl (lv_at hl 1 rfl) ?_
        refine lv_iload_n hx hb dX0_faultOfFunc_117 rfl (lv_at hl 2 rfl) ?_
        refine lv_iload hx hb dX0_faultOfFunc_118 (lv_at hl 0 rfl) ?_
        obtain ⟨r15, σ16, h17, hm⟩ := bd_some hm
        refine k_i hI hA (va_runV (As := [.int u1, .int r10]) (rest := []) hX (c_X0_faultOfWord N n h17 _) (cwV 2 ht (in_V mw_55 mw_56 mw_57 mw_44 mw_51) rfl rfl rfl pd_X0_faultOfWord ⟨Nat.le_of_ble_eq_true rfl, Nat.le_of_ble_eq_true rfl⟩) ⟨q_blind, va_recv hK hI.1 (ci := 0) (q0 := 9) rfl rfl, q_to hI hK hN hZ hA⟩ rfl rfl hl.1 rfl (lv_room (Nat.le_of_ble_eq_true rfl)) dX0_faultOfFunc_120 (by decide)) (fun H locs hI => ?_)
        refine lv_istore (lv' := [(6, .int r15), (5, .int r10), (0, .ref (ga g 9)), (1, .int u1), (2, .int u2), (3, .int u3), (4, .int v4)]) hx hb dX0_faultOfFunc_123 hl (by decide) rfl (fun ls hl => ?_)
        refine lv_iload hx hb dX0_faultOfFunc_125 (lv_at hl 0 rfl) ?_
        refine lv_if_eq (tgt := 145) hx hb dX0_faultOfFunc_127 (by decide) (fun c18 => ?_) (fun c18 => ?_)
        · have hm := (if_pos c18).symm.trans hm
          refine lv_iinc (v := v4 + 1) (lv' := [(4, .int (v4 + 1)), (6, .int r15), (5, .int r10), (0, .ref (ga g 9)), (1, .int u1), (2, .int u2), (3, .int u3)]) hx hb dX0_faultOfFunc_145 hl (k := 6) rfl (congrArg (fun z => v4 + z) (show Int32.ofInt 1 = 1 by decide)) (by decide) rfl (fun ls hl => ?_)
          refine lv_goto (tgt := 76) hx hb dX0_faultOfFunc_148 (by decide) ?_
          exact ih σ16 (v4 + 1) _ _ _ hm hI (lv_sub hl [3, 4, 5, 6, 0] rfl) hx151
        · have hm := (if_neg c18).symm.trans hm
          refine lv_iload hx hb dX0_faultOfFunc_130 (lv_at hl 0 rfl) ?_
          refine lv_bipush (v := 8) hx hb dX0_faultOfFunc_132 (by decide) ?_
          refine lv_iload_n hx hb dX0_faultOfFunc_134 rfl (lv_at hl 3 rfl) ?_
          refine lv_imul hx hb dX0_faultOfFunc_135 ?_
          refine lv_iadd hx hb dX0_faultOfFunc_136 ?_
          refine lv_sipush (v := 128) hx hb dX0_faultOfFunc_137 (by decide) ?_
          refine lv_iload hx hb dX0_faultOfFunc_140 (lv_at hl 1 rfl) ?_
          refine lv_imul hx hb dX0_faultOfFunc_142 ?_
          refine lv_iadd hx hb dX0_faultOfFunc_143 ?_
          exact hR _ _ _ _ _ _ hm hI dX0_faultOfFunc_144
      · have hm := (if_pos c13).symm.trans hm
        refine lv_iconst (v := 0) hx hb dX0_faultOfFunc_96 (by decide) ?_
        exact hR _ _ _ _ _ _ hm hI dX0_faultOfFunc_97
set_option maxHeartbeats 4000000 in
set_option maxRecDepth 100000 in
theorem c_X0_faultOfFunc {l : Launch} {g : GG} {q : Nat} (N n : Nat) {σ : Sg} {p0 : Int32} {r : Int32} {σ' : Sg} (hm : f_X0_faultOfFunc N n σ p0 = some (r, σ')) : CTi l yX0_faultOfFunc cX0_faultOfFunc 7 (some .int) 3 71 g q n [.ref (ga g 9), .int p0] σ r σ' := by
  refine e_i (r := r) (by decide) (Nat.le_of_ble_eq_true rfl) ?_
  intro p e s m args below meth c A Q ls hC hl hI
  obtain ⟨hX, hK, hN, hZ, hA, hR⟩ := id hC
  have hx : p.tables.exec = Jvm.exec := hX.1
  have hb : c.code = cX0_faultOfFunc := hX.2.1
  have hml : c.maxLocals = 7 := hX.2.2.1
  have hown : s.vm.findClass RX0 = some m.cls := hX.2.2.2.1
  have ht : ∀ w ∈ BIG, w.before args s = true := hX.2.2.2.2
  have hl : lv_has ls 7 [(0, .ref (ga g 9)), (1, .int p0)] := hl
  unfold f_X0_faultOfFunc at hm
  refine lv_aload_n hx hb dX0_faultOfFunc_0 rfl (lv_at hl 0 rfl) ?_
  refine gf_9_0 hx hb ht hK hI mw_6 (fun _ h9 => h9) hown dX0_faultOfFunc_1 ?_
  refine gf_1_2 hx hb ht hK hI mw_35 (fun _ h9 => h9) hown dX0_faultOfFunc_4 ?_
  refine lv_iload_n hx hb dX0_faultOfFunc_7 rfl (lv_at hl 1 rfl) ?_
  obtain ⟨g1, hm⟩ := gb_some hm
  refine ld_4 hx hb hK hI g1 (v := σ 4 (ix p0)) rfl dX0_faultOfFunc_8 ?_
  refine lv_istore_n (lv' := [(2, .int (σ 4 (ix p0))), (0, .ref (ga g 9)), (1, .int p0)]) hx hb dX0_faultOfFunc_9 rfl hl (by decide) rfl (fun ls hl => ?_)
  refine lv_aload_n hx hb dX0_faultOfFunc_10 rfl (lv_at hl 1 rfl) ?_
  refine gf_9_0 hx hb ht hK hI mw_6 (fun _ h9 => h9) hown dX0_faultOfFunc_11 ?_
  refine gf_1_3 hx hb ht hK hI mw_27 (fun _ h9 => h9) hown dX0_faultOfFunc_14 ?_
  refine lv_iload_n hx hb dX0_faultOfFunc_17 rfl (lv_at hl 2 rfl) ?_
  obtain ⟨g2, hm⟩ := gb_some hm
  refine ld_5 hx hb hK hI g2 (v := σ 5 (ix p0)) rfl dX0_faultOfFunc_18 ?_
  refine lv_istore_n (lv' := [(3, .int (σ 5 (ix p0))), (2, .int (σ 4 (ix p0))), (0, .ref (ga g 9)), (1, .int p0)]) hx hb dX0_faultOfFunc_19 rfl hl (by decide) rfl (fun ls hl => ?_)
  refine lv_iconst (v := 0) hx hb dX0_faultOfFunc_20 (by decide) ?_
  refine lv_istore (lv' := [(4, .int 0), (3, .int (σ 5 (ix p0))), (2, .int (σ 4 (ix p0))), (0, .ref (ga g 9)), (1, .int p0)]) hx hb dX0_faultOfFunc_21 hl (by decide) rfl (fun ls hl => ?_)
  refine lp_X0_faultOfFunc_23 hC N _ _ _ _ _ hm hI (lv_sub hl [3, 4, 2, 1, 0] rfl) ?_
  intro σ6 w7 H locs ls hm hI hl
  refine lv_aload_n hx hb dX0_faultOfFunc_58 rfl (lv_at hl 0 rfl) ?_
  refine gf_9_0 hx hb ht hK hI mw_6 (fun _ h9 => h9) hown dX0_faultOfFunc_59 ?_
  refine gf_1_6 hx hb ht hK hI mw_12 (fun _ h9 => h9) hown dX0_faultOfFunc_62 ?_
  refine lv_iload_n hx hb dX0_faultOfFunc_65 rfl (lv_at hl 2 rfl) ?_
  refine lv_iconst (v := 0) hx hb dX0_faultOfFunc_66 (by decide) ?_
  obtain ⟨g8, hm⟩ := gb_some hm
  refine sv_8 hx hb hK hI g8 dX0_faultOfFunc_67 (fun H locs hI => ?_)
  refine lv_aload_n hx hb dX0_faultOfFunc_68 rfl (lv_at hl 0 rfl) ?_
  refine lv_iconst (v := 0) hx hb dX0_faultOfFunc_69 (by decide) ?_
  refine pf_9_2 hx hb ht hK hI mw_11 (fun _ h9 => h9) hown dX0_faultOfFunc_70 (fun H locs hI => ?_)
  refine lv_iconst (v := 0) hx hb dX0_faultOfFunc_73 (by decide) ?_
  refine lv_istore (lv' := [(4, .int 0), (0, .ref (ga g 9)), (1, .int p0), (2, .int (σ 4 (ix p0))), (3, .int (σ 5 (ix p0)))]) hx hb dX0_faultOfFunc_74 hl (by decide) rfl (fun ls hl => ?_)
  refine lp_X0_faultOfFunc_76 hC N _ _ _ _ _ hm hI (lv_sub hl [1, 2, 3, 4, 0] rfl) ?_
  intro σ19 w20 H locs ls hm hI hl
  refine lv_iconst (v := 0) hx hb dX0_faultOfFunc_151 (by decide) ?_
  exact hR _ _ _ _ _ _ hm hI dX0_faultOfFunc_152
def lb_X0_firstFault_15 (N n : Nat)  (K52 : (Sg → Int32 → Option (Int32 × Sg))) (rec : (Sg → Int32 → Option (Int32 × Sg))) (σ : Sg) (v1 : Int32) : Option (Int32 × Sg) := if (σ 1 7) ≤ v1 then (K52 σ v1) else (gb v1 12 (if (σ 5 (ix v1)) = 0 then (some (6 + (8 * v1), σ)) else (rec σ (v1 + 1))))
def lf_X0_firstFault_15 (N n : Nat)  (K52 : (Sg → Int32 → Option (Int32 × Sg))) : Nat → (Sg → Int32 → Option (Int32 × Sg))
  | 0 => fun _ _ => none
  | k + 1 => lb_X0_firstFault_15 N n  K52 (lf_X0_firstFault_15 N n  K52 k)
def lb_X0_firstFault_54 (N n : Nat)  (K83 : (Sg → Int32 → Option (Int32 × Sg))) (rec : (Sg → Int32 → Option (Int32 × Sg))) (σ : Sg) (v1 : Int32) : Option (Int32 × Sg) := if (σ 1 7) ≤ v1 then (K83 σ v1) else (bd (f_X0_faultOfFunc N n σ v1) (fun r8 σ9 => if r8 = 0 then (rec σ9 (v1 + 1)) else (some (r8, σ9))))
def lf_X0_firstFault_54 (N n : Nat)  (K83 : (Sg → Int32 → Option (Int32 × Sg))) : Nat → (Sg → Int32 → Option (Int32 × Sg))
  | 0 => fun _ _ => none
  | k + 1 => lb_X0_firstFault_54 N n  K83 (lf_X0_firstFault_54 N n  K83 k)
def f_X0_firstFault (N n : Nat) (σ : Sg)  : Option (Int32 × Sg) := if (σ 1 7) = 0 then (some (7, σ)) else (lf_X0_firstFault_15 N n  (fun σ5 w6 => lf_X0_firstFault_54 N n  (fun σ12 w13 => some (0, σ12)) N σ5 0) N σ 0)
set_option maxHeartbeats 4000000 in
set_option maxRecDepth 100000 in
theorem lp_X0_firstFault_15 {p : Program} {l : Launch} {e : Env} {s : State} {m : MethodId} {args : Array Value} {below : List Frame} {meth : Method} {c : Code} {Q : State → Prop} {A : Nat → Prop} {g : GG} {q N n : Nat} {out : Int32 × Sg}  {K52 : (Sg → Int32 → Option (Int32 × Sg))}
    (hC : CXi p l e (qR 4 97) s m args below meth c cX0_firstFault 3 RX0 g q n A Q (some out)) :
    ∀ (k : Nat) (σ : Sg) (v1 : Int32) (H : Heap) (locs : List Loc) (ls : Array Slot), lf_X0_firstFault_15 N n  K52 k σ v1 = some out → wI g q n σ A s.heap H locs → lv_has ls 3 [(0, .ref (ga g 9)), (1, .int v1)] → (∀ (σ : Sg) (v1 : Int32) (H : Heap) (locs : List Loc) (ls : Array Slot), K52 σ v1 = some out → wI g q n σ A s.heap H locs → lv_has ls 3 [(0, .ref (ga g 9))] → W p l e (qR 4 97) s m args below meth c H locs 0 0 Q (F0 m 52 ls [])) → W p l e (qR 4 97) s m args below meth c H locs 0 0 Q (F0 m 15 ls []) := by
  obtain ⟨hX, hK, hN, hZ, hA, hR⟩ := id hC
  have hx : p.tables.exec = Jvm.exec := hX.1
  have hb : c.code = cX0_firstFault := hX.2.1
  have hml : c.maxLocals = 3 := hX.2.2.1
  have hown : s.vm.findClass RX0 = some m.cls := hX.2.2.2.1
  have ht : ∀ w ∈ BIG, w.before args s = true := hX.2.2.2.2
  intro k
  induction k with
  | zero =>
    intro σ v1 H locs ls hm
    have hm : none = some out := hm
    exact nomatch hm
  | succ k ih =>
    intro σ v1 H locs ls hm hI hl hx52
    have hm : lb_X0_firstFault_15 N n  K52 (lf_X0_firstFault_15 N n  K52 k) σ v1 = some out := hm
    unfold lb_X0_firstFault_15 at hm
    refine lv_iload_n hx hb dX0_firstFault_15 rfl (lv_at hl 1 rfl) ?_
    refine lv_aload_n hx hb dX0_firstFault_16 rfl (lv_at hl 0 rfl) ?_
    refine gf_9_0 hx hb ht hK hI mw_6 (fun _ h9 => h9) hown dX0_firstFault_17 ?_
    refine gf_1_7 hx hb ht hK hI (v := σ 1 7) rfl mw_59 (fun _ h9 => h9) hown dX0_firstFault_20 ?_
    refine lv_icmp_ge (tgt := 52) hx hb dX0_firstFault_23 (by decide) (fun c2 => ?_) (fun c2 => ?_)
    · have hm := (if_pos c2).symm.trans hm
      exact hx52 σ v1 _ _ _ hm hI (lv_sub hl [0] rfl)
    · have hm := (if_neg c2).symm.trans hm
      refine lv_aload_n hx hb dX0_firstFault_26 rfl (lv_at hl 0 rfl) ?_
      refine gf_9_0 hx hb ht hK hI mw_6 (fun _ h9 => h9) hown dX0_firstFault_27 ?_
      refine gf_1_3 hx hb ht hK hI mw_27 (fun _ h9 => h9) hown dX0_firstFault_30 ?_
      refine lv_iload_n hx hb dX0_firstFault_33 rfl (lv_at hl 1 rfl) ?_
      obtain ⟨g3, hm⟩ := gb_some hm
      refine ld_5 hx hb hK hI g3 (v := σ 5 (ix v1)) rfl dX0_firstFault_34 ?_
      refine lv_if_ne (tgt := 46) hx hb dX0_firstFault_35 (by decide) (fun c4 => ?_) (fun c4 => ?_)
      · have hm := (if_neg c4).symm.trans hm
        refine lv_iinc (v := v1 + 1) (lv' := [(1, .int (v1 + 1)), (0, .ref (ga g 9))]) hx hb dX0_firstFault_46 hl (k := 1) rfl (congrArg (fun z => v1 + z) (show Int32.ofInt 1 = 1 by decide)) (by decide) rfl (fun ls hl => ?_)
        refine lv_goto (tgt := 15) hx hb dX0_firstFault_49 (by decide) ?_
        exact ih σ (v1 + 1) _ _ _ hm hI (lv_sub hl [1, 0] rfl) hx52
      · have hm := (if_pos c4).symm.trans hm
        refine lv_bipush (v := 6) hx hb dX0_firstFault_38 (by decide) ?_
        refine lv_bipush (v := 8) hx hb dX0_firstFault_40 (by decide) ?_
        refine lv_iload_n hx hb dX0_firstFault_42 rfl (lv_at hl 1 rfl) ?_
        refine lv_imul hx hb dX0_firstFault_43 ?_
        refine lv_iadd hx hb dX0_firstFault_44 ?_
        exact hR _ _ _ _ _ _ hm hI dX0_firstFault_45
set_option maxHeartbeats 4000000 in
set_option maxRecDepth 100000 in
theorem lp_X0_firstFault_54 {p : Program} {l : Launch} {e : Env} {s : State} {m : MethodId} {args : Array Value} {below : List Frame} {meth : Method} {c : Code} {Q : State → Prop} {A : Nat → Prop} {g : GG} {q N n : Nat} {out : Int32 × Sg}  {K83 : (Sg → Int32 → Option (Int32 × Sg))}
    (hC : CXi p l e (qR 4 97) s m args below meth c cX0_firstFault 3 RX0 g q n A Q (some out)) :
    ∀ (k : Nat) (σ : Sg) (v1 : Int32) (H : Heap) (locs : List Loc) (ls : Array Slot), lf_X0_firstFault_54 N n  K83 k σ v1 = some out → wI g q n σ A s.heap H locs → lv_has ls 3 [(0, .ref (ga g 9)), (1, .int v1)] → (∀ (σ : Sg) (v1 : Int32) (H : Heap) (locs : List Loc) (ls : Array Slot), K83 σ v1 = some out → wI g q n σ A s.heap H locs → lv_has ls 3 [] → W p l e (qR 4 97) s m args below meth c H locs 0 0 Q (F0 m 83 ls [])) → W p l e (qR 4 97) s m args below meth c H locs 0 0 Q (F0 m 54 ls []) := by
  obtain ⟨hX, hK, hN, hZ, hA, hR⟩ := id hC
  have hx : p.tables.exec = Jvm.exec := hX.1
  have hb : c.code = cX0_firstFault := hX.2.1
  have hml : c.maxLocals = 3 := hX.2.2.1
  have hown : s.vm.findClass RX0 = some m.cls := hX.2.2.2.1
  have ht : ∀ w ∈ BIG, w.before args s = true := hX.2.2.2.2
  intro k
  induction k with
  | zero =>
    intro σ v1 H locs ls hm
    have hm : none = some out := hm
    exact nomatch hm
  | succ k ih =>
    intro σ v1 H locs ls hm hI hl hx83
    have hm : lb_X0_firstFault_54 N n  K83 (lf_X0_firstFault_54 N n  K83 k) σ v1 = some out := hm
    unfold lb_X0_firstFault_54 at hm
    refine lv_iload_n hx hb dX0_firstFault_54 rfl (lv_at hl 1 rfl) ?_
    refine lv_aload_n hx hb dX0_firstFault_55 rfl (lv_at hl 0 rfl) ?_
    refine gf_9_0 hx hb ht hK hI mw_6 (fun _ h9 => h9) hown dX0_firstFault_56 ?_
    refine gf_1_7 hx hb ht hK hI (v := σ 1 7) rfl mw_59 (fun _ h9 => h9) hown dX0_firstFault_59 ?_
    refine lv_icmp_ge (tgt := 83) hx hb dX0_firstFault_62 (by decide) (fun c7 => ?_) (fun c7 => ?_)
    · have hm := (if_pos c7).symm.trans hm
      exact hx83 σ v1 _ _ _ hm hI (lv_sub hl [] rfl)
    · have hm := (if_neg c7).symm.trans hm
      refine lv_aload_n hx hb dX0_firstFault_65 rfl (lv_at hl 0 rfl) ?_
      refine lv_iload_n hx hb dX0_firstFault_66 rfl (lv_at hl 1 rfl) ?_
      obtain ⟨r8, σ9, h10, hm⟩ := bd_some hm
      refine k_i hI hA (va_runV (As := [.int v1]) (rest := []) hX (c_X0_faultOfFunc N n h10 _) (cwV 1 ht (in_V mw_60 mw_61 mw_62 mw_44 mw_58) rfl rfl rfl pd_X0_faultOfFunc ⟨Nat.le_of_ble_eq_true rfl, Nat.le_of_ble_eq_true rfl⟩) ⟨q_blind, va_recv hK hI.1 (ci := 0) (q0 := 9) rfl rfl, q_to hI hK hN hZ hA⟩ rfl rfl hl.1 rfl (lv_room (Nat.le_of_ble_eq_true rfl)) dX0_firstFault_67 (by decide)) (fun H locs hI => ?_)
      refine lv_istore_n (lv' := [(2, .int r8), (0, .ref (ga g 9)), (1, .int v1)]) hx hb dX0_firstFault_70 rfl hl (by decide) rfl (fun ls hl => ?_)
      refine lv_iload_n hx hb dX0_firstFault_71 rfl (lv_at hl 0 rfl) ?_
      refine lv_if_eq (tgt := 77) hx hb dX0_firstFault_72 (by decide) (fun c11 => ?_) (fun c11 => ?_)
      · have hm := (if_pos c11).symm.trans hm
        refine lv_iinc (v := v1 + 1) (lv' := [(1, .int (v1 + 1)), (2, .int r8), (0, .ref (ga g 9))]) hx hb dX0_firstFault_77 hl (k := 2) rfl (congrArg (fun z => v1 + z) (show Int32.ofInt 1 = 1 by decide)) (by decide) rfl (fun ls hl => ?_)
        refine lv_goto (tgt := 54) hx hb dX0_firstFault_80 (by decide) ?_
        exact ih σ9 (v1 + 1) _ _ _ hm hI (lv_sub hl [2, 0] rfl) hx83
      · have hm := (if_neg c11).symm.trans hm
        refine lv_iload_n hx hb dX0_firstFault_75 rfl (lv_at hl 0 rfl) ?_
        exact hR _ _ _ _ _ _ hm hI dX0_firstFault_76
set_option maxHeartbeats 4000000 in
set_option maxRecDepth 100000 in
theorem c_X0_firstFault {l : Launch} {g : GG} {q : Nat} (N n : Nat) {σ : Sg}  {r : Int32} {σ' : Sg} (hm : f_X0_firstFault N n σ  = some (r, σ')) : CTi l yX0_firstFault cX0_firstFault 3 (some .int) 4 97 g q n [.ref (ga g 9)] σ r σ' := by
  refine e_i (r := r) (by decide) (Nat.le_of_ble_eq_true rfl) ?_
  intro p e s m args below meth c A Q ls hC hl hI
  obtain ⟨hX, hK, hN, hZ, hA, hR⟩ := id hC
  have hx : p.tables.exec = Jvm.exec := hX.1
  have hb : c.code = cX0_firstFault := hX.2.1
  have hml : c.maxLocals = 3 := hX.2.2.1
  have hown : s.vm.findClass RX0 = some m.cls := hX.2.2.2.1
  have ht : ∀ w ∈ BIG, w.before args s = true := hX.2.2.2.2
  have hl : lv_has ls 3 [(0, .ref (ga g 9))] := hl
  unfold f_X0_firstFault at hm
  refine lv_aload_n hx hb dX0_firstFault_0 rfl (lv_at hl 0 rfl) ?_
  refine gf_9_0 hx hb ht hK hI mw_6 (fun _ h9 => h9) hown dX0_firstFault_1 ?_
  refine gf_1_7 hx hb ht hK hI (v := σ 1 7) rfl mw_59 (fun _ h9 => h9) hown dX0_firstFault_4 ?_
  refine lv_if_ne (tgt := 13) hx hb dX0_firstFault_7 (by decide) (fun c1 => ?_) (fun c1 => ?_)
  · have hm := (if_neg c1).symm.trans hm
    refine lv_iconst (v := 0) hx hb dX0_firstFault_13 (by decide) ?_
    refine lv_istore_n (lv' := [(1, .int 0), (0, .ref (ga g 9))]) hx hb dX0_firstFault_14 rfl hl (by decide) rfl (fun ls hl => ?_)
    refine lp_X0_firstFault_15 hC N _ _ _ _ _ hm hI (lv_sub hl [1, 0] rfl) ?_
    intro σ5 w6 H locs ls hm hI hl
    refine lv_iconst (v := 0) hx hb dX0_firstFault_52 (by decide) ?_
    refine lv_istore_n (lv' := [(1, .int 0), (0, .ref (ga g 9))]) hx hb dX0_firstFault_53 rfl hl (by decide) rfl (fun ls hl => ?_)
    refine lp_X0_firstFault_54 hC N _ _ _ _ _ hm hI (lv_sub hl [1, 0] rfl) ?_
    intro σ12 w13 H locs ls hm hI hl
    refine lv_iconst (v := 0) hx hb dX0_firstFault_83 (by decide) ?_
    exact hR _ _ _ _ _ _ hm hI dX0_firstFault_84
  · have hm := (if_pos c1).symm.trans hm
    refine lv_bipush (v := 7) hx hb dX0_firstFault_10 (by decide) ?_
    exact hR _ _ _ _ _ _ hm hI dX0_firstFault_12
