theorem pd_X9_begin : yX9_begin.cls = RX9 ∧ yX9_begin.cls ≠ "java/lang/invoke/MethodHandle" ∧ yX9_begin.cls ≠ "java/lang/invoke/VarHandle" ∧ (parseMethodDescriptor yX9_begin.desc).map (fun d => d.parameters.length) = some 1 := by decide +kernel
theorem pd_X9_turnFunc : yX9_turnFunc.cls = RX9 ∧ yX9_turnFunc.cls ≠ "java/lang/invoke/MethodHandle" ∧ yX9_turnFunc.cls ≠ "java/lang/invoke/VarHandle" ∧ (parseMethodDescriptor yX9_turnFunc.desc).map (fun d => d.parameters.length) = some 1 := by decide +kernel
def lt_X11_turn (N : Nat) : Nat → Sg → Nat → Nat → Int32 → Option (Sg × Nat × Nat)
  | 0 => fun _ _ _ _ => none
  | k + 1 => fun σ n acc v => if (σ 1 7) ≤ v then some (σ, n, acc) else (match f_X9_turnFunc N n σ v with
    | some o => lt_X11_turn N k o.2.1 o.2.2.1 (acc + o.2.2.2) (v + 1)
    | none => none)
theorem ltb_some {N k acc : Nat} {v : Int32} {x : Option Mo} {out : Sg × Nat × Nat} (h : (match x with
    | some o => lt_X11_turn N k o.2.1 o.2.2.1 (acc + o.2.2.2) v
    | none => none) = some out) : ∃ (r1 : Int32) (σ1 : Sg) (n1 d1 : Nat), x = some (r1, σ1, n1, d1) ∧ lt_X11_turn N k σ1 n1 (acc + d1) v = some out := by
  cases x with
  | none => exact nomatch h
  | some o => exact ⟨o.1, o.2.1, o.2.2.1, o.2.2.2, rfl, h⟩
theorem lt_le {N : Nat} {σ2 : Sg} {n2 d : Nat} : ∀ (k : Nat) (σ : Sg) (n acc : Nat) (v : Int32), lt_X11_turn N k σ n acc v = some (σ2, n2, d) → acc ≤ d := by
  intro k
  induction k with
  | zero => intro σ n acc v h; exact nomatch (show none = some (σ2, n2, d) from h)
  | succ k ih =>
    intro σ n acc v h
    have h : (if (σ 1 7) ≤ v then some (σ, n, acc) else (match f_X9_turnFunc N n σ v with
      | some o => lt_X11_turn N k o.2.1 o.2.2.1 (acc + o.2.2.2) (v + 1)
      | none => none)) = some (σ2, n2, d) := h
    by_cases c : (σ 1 7) ≤ v
    · have h := (if_pos c).symm.trans h
      cases h
      exact Nat.le_refl _
    · have h := (if_neg c).symm.trans h
      obtain ⟨r1, σ1, n1, d1, h1, h2⟩ := ltb_some h
      exact Nat.le_trans (Nat.le_add_right _ _) (ih _ _ _ _ h2)
def blt (x : Option (Sg × Nat × Nat)) (k : Sg → Nat → Option (Int32 × Sg)) : Option Mo := match x with
  | some o => mv o.2.1 o.2.2 (k o.1 o.2.1)
  | none => none
theorem blt_some {x : Option (Sg × Nat × Nat)} {k : Sg → Nat → Option (Int32 × Sg)} {r : Int32} {σ' : Sg} {n' d : Nat} (h : blt x k = some (r, σ', n', d)) : ∃ σ2 : Sg, x = some (σ2, n', d) ∧ k σ2 n' = some (r, σ') := by
  cases x with
  | none => exact nomatch h
  | some o =>
    obtain ⟨a, n1, d1⟩ := o
    obtain ⟨rfl, rfl, h3⟩ := mv_some (show mv n1 d1 (k a n1) = some (r, σ', n', d) from h)
    exact ⟨a, rfl, h3⟩
def f_X11_turn (N n : Nat) (σ : Sg) (p0 : Int32) : Option Mo := if (σ 1 9) = 0 then (mv n 0 (some ((-1), σ))) else (if p0 < 3 then (mv n 0 (some ((-1), σ))) else (if p0 ≤ 16 then (bd (f_X9_begin N n σ p0) (fun r4 σ5 => blt (lt_X11_turn N N σ5 n 0 0) (fun σ7 n8 => bd (f_X11_beginMachines N n8 σ7 ) (fun r9 σ10 => some (σ10 39 2, σ10))))) else (mv n 0 (some ((-1), σ)))))
set_option maxHeartbeats 4000000 in
set_option maxRecDepth 100000 in
theorem lp_X11_turn {p : Program} {l : Launch} {e : Env} {s : State} {m : MethodId} {args : Array Value} {below : List Frame} {meth : Method} {c : Code} {Q : State → Prop} {A : Nat → Prop} {g : GG} {N n2 d : Nat} {σ2 : Sg} {out : Option (Int32 × Sg)}
    (hC : CXn p l e (qRc 6 148 d) s m args below meth c cX11_turn 3 RX11 g n2 d A Q out) :
    ∀ (k : Nat) (σ : Sg) (q n acc : Nat) (v : Int32) (H : Heap) (locs : List Loc) (ls : Array Slot), lt_X11_turn N k σ n acc v = some (σ2, n2, d) → wI g q n σ A s.heap H locs → lv_has ls 3 [(0, .ref (ga g 0)), (2, .int v)] → (∀ (q1 : Nat) (v1 : Int32) (H : Heap) (locs : List Loc) (ls : Array Slot), wI g q1 n2 σ2 A s.heap H locs → lv_has ls 3 [(0, .ref (ga g 0)), (2, .int v1)] → W p l e (qRc 6 148 d) s m args below meth c H locs d d Q (F0 m 58 ls [])) → W p l e (qRc 6 148 d) s m args below meth c H locs acc acc Q (F0 m 33 ls []) := by
  obtain ⟨hX, hK, hN, hZ, hA, hR⟩ := id hC
  have hx : p.tables.exec = Jvm.exec := hX.1
  have hb : c.code = cX11_turn := hX.2.1
  have hml : c.maxLocals = 3 := hX.2.2.1
  have hown : s.vm.findClass RX11 = some m.cls := hX.2.2.2.1
  have ht : ∀ w ∈ BIG, w.before args s = true := hX.2.2.2.2
  intro k
  induction k with
  | zero => intro σ q n acc v H locs ls hm; exact nomatch (show none = some (σ2, n2, d) from hm)
  | succ k ih =>
    intro σ q n acc v H locs ls hm hI hl hx58
    have hm : (if (σ 1 7) ≤ v then some (σ, n, acc) else (match f_X9_turnFunc N n σ v with
      | some o => lt_X11_turn N k o.2.1 o.2.2.1 (acc + o.2.2.2) (v + 1)
      | none => none)) = some (σ2, n2, d) := hm
    refine lv_iload_n hx hb dX11_turn_33 rfl (lv_at hl 1 rfl) ?_
    refine lv_aload_n hx hb dX11_turn_34 rfl (lv_at hl 0 rfl) ?_
    refine gf_0_0 hx hb ht hK hI mw_640 (fun _ h9 => h9) hown dX11_turn_35 ?_
    refine gf_1_7 hx hb ht hK hI (v := σ 1 7) rfl mw_671 (fun _ h9 => h9) hown dX11_turn_38 ?_
    refine lv_icmp_ge (tgt := 58) hx hb dX11_turn_41 (by decide) (fun c1 => ?_) (fun c1 => ?_)
    · have hm := (if_pos c1).symm.trans hm
      cases hm
      exact hx58 _ _ _ _ _ hI hl
    · have hm := (if_neg c1).symm.trans hm
      obtain ⟨r1, σ1, n1, d1, h1, hm⟩ := ltb_some hm
      have hle := lt_le _ _ _ _ _ hm
      refine lv_aload_n hx hb dX11_turn_44 rfl (lv_at hl 0 rfl) ?_
      refine gf_0_2 hx hb ht hK hI mw_646 (fun _ h9 => h9) hown dX11_turn_45 ?_
      refine lv_iload_n hx hb dX11_turn_48 rfl (lv_at hl 1 rfl) ?_
      refine k_m hI hA (va_runV (As := [.int v]) (rest := []) hX (c_X9_turnFunc N n h1 _) (cwV 1 ht (in_V mw_709 mw_710 mw_711 mw_623 mw_636) rfl rfl rfl pd_X9_turnFunc ⟨Nat.le_of_ble_eq_true rfl, Nat.le_of_ble_eq_true rfl⟩) ⟨q_blind, va_recv hK hI.1 (ci := 8) (q0 := 11) rfl rfl, q_to hI hK hN hZ hA⟩ rfl rfl hl.1 rfl (lv_room (Nat.le_of_ble_eq_true rfl)) dX11_turn_49 ⟨hle, hle⟩) (fun q1 H locs hI => ?_)
      refine lv_iinc (v := v + 1) (lv' := [(2, .int (v + 1)), (0, .ref (ga g 0))]) hx hb dX11_turn_52 hl (k := 1) rfl (congrArg (fun z => v + z) (show Int32.ofInt 1 = 1 by decide)) (by decide) rfl (fun ls hl => ?_)
      refine lv_goto (tgt := 33) hx hb dX11_turn_55 (by decide) ?_
      exact ih _ _ _ _ _ _ _ _ hm hI (lv_sub hl [1, 0] rfl) hx58
set_option maxHeartbeats 4000000 in
set_option maxRecDepth 100000 in
theorem c_X11_turn {l : Launch} {g : GG} {q : Nat} (N n : Nat) {σ : Sg} {p0 : Int32} {r : Int32} {σ' : Sg} {n' d : Nat} (hm : f_X11_turn N n σ p0 = some (r, σ', n', d)) : CTn l yX11_turn cX11_turn 3 (some .int) 6 148 g q n [.ref (ga g 0), .int p0] σ r σ' n' d := by
  refine e_n (by decide) (Nat.le_of_ble_eq_true rfl) ?_
  intro p e s m args below meth c A Q ls hC hl hI
  obtain ⟨hX, hK, hN, hZ, hA, hR⟩ := id hC
  have hx : p.tables.exec = Jvm.exec := hX.1
  have hb : c.code = cX11_turn := hX.2.1
  have hml : c.maxLocals = 3 := hX.2.2.1
  have hown : s.vm.findClass RX11 = some m.cls := hX.2.2.2.1
  have ht : ∀ w ∈ BIG, w.before args s = true := hX.2.2.2.2
  have hl : lv_has ls 3 [(0, .ref (ga g 0)), (1, .int p0)] := hl
  unfold f_X11_turn at hm
  refine lv_aload_n hx hb dX11_turn_0 rfl (lv_at hl 0 rfl) ?_
  refine gf_0_0 hx hb ht hK hI mw_640 (fun _ h9 => h9) hown dX11_turn_1 ?_
  refine gf_1_9 hx hb ht hK hI (v := σ 1 9) rfl mw_670 (fun _ h9 => h9) hown dX11_turn_4 ?_
  refine lv_if_eq (tgt := 21) hx hb dX11_turn_7 (by decide) (fun c1 => ?_) (fun c1 => ?_)
  · have hm := (if_pos c1).symm.trans hm
    refine lv_iconst (v := (-1)) hx hb dX11_turn_21 (by decide) ?_
    obtain ⟨e1, e2, hk⟩ := mv_some hm
    have e1 := e1.symm
    have e2 := e2.symm
    subst e1
    subst e2
    have hm := hk
    exact hR _ _ _ _ _ _ _ hm hI dX11_turn_22
  · have hm := (if_neg c1).symm.trans hm
    refine lv_iload_n hx hb dX11_turn_10 rfl (lv_at hl 1 rfl) ?_
    refine lv_iconst (v := 3) hx hb dX11_turn_11 (by decide) ?_
    refine lv_icmp_lt (tgt := 21) hx hb dX11_turn_12 (by decide) (fun c2 => ?_) (fun c2 => ?_)
    · have hm := (if_pos c2).symm.trans hm
      refine lv_iconst (v := (-1)) hx hb dX11_turn_21 (by decide) ?_
      obtain ⟨e1, e2, hk⟩ := mv_some hm
      have e1 := e1.symm
      have e2 := e2.symm
      subst e1
      subst e2
      have hm := hk
      exact hR _ _ _ _ _ _ _ hm hI dX11_turn_22
    · have hm := (if_neg c2).symm.trans hm
      refine lv_iload_n hx hb dX11_turn_15 rfl (lv_at hl 1 rfl) ?_
      refine lv_bipush (v := 16) hx hb dX11_turn_16 (by decide) ?_
      refine lv_icmp_le (tgt := 23) hx hb dX11_turn_18 (by decide) (fun c3 => ?_) (fun c3 => ?_)
      · have hm := (if_pos c3).symm.trans hm
        refine lv_aload_n hx hb dX11_turn_23 rfl (lv_at hl 0 rfl) ?_
        refine gf_0_2 hx hb ht hK hI mw_646 (fun _ h9 => h9) hown dX11_turn_24 ?_
        refine lv_iload_n hx hb dX11_turn_27 rfl (lv_at hl 1 rfl) ?_
        obtain ⟨r4, σ5, h6, hm⟩ := bd_some hm
        refine k_v hI hA (va_runV (As := [.int p0]) (rest := []) hX (c_X9_begin N n h6 _) (cwV 1 ht (in_V mw_706 mw_707 mw_708 mw_623 mw_522) rfl rfl rfl pd_X9_begin ⟨Nat.le_of_ble_eq_true rfl, Nat.le_of_ble_eq_true rfl⟩) ⟨q_blind, va_recv hK hI.1 (ci := 8) (q0 := 11) rfl rfl, q_to hI hK hN hZ hA⟩ rfl rfl hl.1 rfl (lv_room (Nat.le_of_ble_eq_true rfl)) dX11_turn_28 ⟨Nat.zero_le _, Nat.zero_le _⟩) (fun H locs hI => ?_)
        refine lv_iconst (v := 0) hx hb dX11_turn_31 (by decide) ?_
        refine lv_istore_n (lv' := [(2, .int 0), (0, .ref (ga g 0)), (1, .int p0)]) hx hb dX11_turn_32 rfl hl (by decide) rfl (fun ls hl => ?_)
        obtain ⟨σ7, hlt, hm⟩ := blt_some hm
        refine lp_X11_turn hC N _ _ _ 0 _ _ _ _ hlt hI (lv_sub hl [1, 0] rfl) ?_
        intro q1 w1 H locs ls hI hl
        refine lv_aload_n hx hb dX11_turn_58 rfl (lv_at hl 0 rfl) ?_
        obtain ⟨r9, σ10, h11, hm⟩ := bd_some hm
        refine k_v hI hA (va_runV (As := []) (rest := []) hX (c_X11_beginMachines N _ h11 _) (cwV 0 ht (in_V mw_700 mw_701 mw_702 mw_267 mw_694) rfl rfl rfl pd_X11_beginMachines ⟨Nat.le_of_ble_eq_true rfl, Nat.le_of_ble_eq_true rfl⟩) ⟨q_blind, va_recv hK hI.1 (ci := 10) (q0 := 0) rfl rfl, q_to hI hK hN hZ hA⟩ rfl rfl hl.1 rfl (lv_room (Nat.le_of_ble_eq_true rfl)) dX11_turn_59 ⟨Nat.le_refl _, Nat.le_refl _⟩) (fun H locs hI => ?_)
        refine lv_aload_n hx hb dX11_turn_62 rfl (lv_at hl 0 rfl) ?_
        refine gf_0_2 hx hb ht hK hI mw_646 (fun _ h9 => h9) hown dX11_turn_63 ?_
        refine gf_11_4 hx hb ht hK hI mw_652 (fun _ h9 => h9) hown dX11_turn_66 ?_
        refine gf_39_2 hx hb ht hK hI (v := σ10 39 2) rfl mw_705 (fun _ h9 => h9) hown dX11_turn_69 ?_
        exact hR _ _ _ _ _ _ _ hm hI dX11_turn_72
      · have hm := (if_neg c3).symm.trans hm
        refine lv_iconst (v := (-1)) hx hb dX11_turn_21 (by decide) ?_
        obtain ⟨e1, e2, hk⟩ := mv_some hm
        have e1 := e1.symm
        have e2 := e2.symm
        subst e1
        subst e2
        have hm := hk
        exact hR _ _ _ _ _ _ _ hm hI dX11_turn_22
