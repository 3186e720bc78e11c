theorem pd_X11_op : yX11_op.cls = RX11 ∧ yX11_op.cls ≠ "java/lang/invoke/MethodHandle" ∧ yX11_op.cls ≠ "java/lang/invoke/VarHandle" ∧ (parseMethodDescriptor yX11_op.desc).map (fun d => d.parameters.length) = some 3 := by decide +kernel
theorem pd_X11_peek : yX11_peek.cls = RX11 ∧ yX11_peek.cls ≠ "java/lang/invoke/MethodHandle" ∧ yX11_peek.cls ≠ "java/lang/invoke/VarHandle" ∧ (parseMethodDescriptor yX11_peek.desc).map (fun d => d.parameters.length) = some 2 := by decide +kernel
theorem in_VT {own C : String} {idx : Nat} {y : MethodName} {cw a : Cond} (h1 : Cond.methodLink own idx y ∈ BIG) (h2 : Cond.instanceMethod y ∈ BIG) (h3 : Cond.selects C y y ∈ BIG) (h4 : Cond.initialized C ∈ BIG) (h5 : cw ∈ BIG) : GoodIn (a :: (BIG ++ vzS)) (wsV own idx C y (cw :: (BIG ++ vzS))) := by
  intro w hw
  have key : w ∈ BIG ∨ w ∈ vzS := by
    simp only [wsV, List.mem_append, List.mem_cons, List.not_mem_nil, or_false] at hw
    rcases hw with (rfl | rfl | rfl | rfl) | rfl | h | h
    · exact Or.inl h1
    · exact Or.inl h2
    · exact Or.inl h3
    · exact Or.inl h4
    · exact Or.inl h5
    · exact Or.inl h
    · exact Or.inr h
  rcases key with h | h
  · exact ⟨vz_big h, BIG_good w h⟩
  · exact ⟨vz_mem h, good_of_word (List.all_eq_true.mp gz_good w h)⟩
theorem in_T {ws : List Cond} {a : Cond} (h : GoodIn BIG ws) : GoodIn (a :: (BIG ++ vzS)) ws := fun w hw => ⟨vz_big (h w hw).1, (h w hw).2⟩
/-- the contract of a method with a table of handlers -/
def CTw (l : Launch) (y : MethodName) (cd : ByteArray) (mL : Nat) (hh : List (Nat × Nat × Nat × Nat)) (fr lo mc ms : Nat) (g : GG) (q n : Nat) (as : List Value) (σ : Sg) (r : Int32) (σ' : Sg) : Prop :=
  ∀ sz, Met l y (.codeWith y cd mL (some .int) hh :: (BIG ++ vzS)) { frames := fr, cells := mc, slots := ms, locals := lo } (va_Pc as (qpre g q n σ sz)) (qQi g q n sz σ r σ') mc ms (va_A (wA g q n σ) sz)
set_option maxHeartbeats 4000000 in
set_option maxRecDepth 100000 in
theorem c_L_op_a {l : Launch} (hst : l.stackTraces = false) {g : GG} {q : Nat} (N n : Nat) {σ : Sg} {p0 : Int32} {p1 : Int32} {p2 : Int32} {r : Int32} {σ1 : Sg} (hm : f_X11_op N n σ p0 p1 p2 = some (r, σ1)) : CTw l yL_op cL_op 6 [(0, 12, 15, 13)] 3 65 0 0 g q n [.ref (ga g 0), .int p0, .int p1, .int p2, .ref (ga g 102)] σ 0 (sg σ1 102 (ix 0) r) := by
  intro sz
  refine va_MetW (hh := [(0, 12, 15, 13)]) (cc := cL_op) (maxL := 6) (ret := some .int) (by decide) rfl ?_
  intro p e s m args below meth c s₁ B hml hv
  obtain ⟨rfl, hsz, hP, hK, hD0, hN, hZ⟩ := hv
  subst hsz
  have hx := B.exec
  have hb := B.bytes
  have hr := B.returns
  have hts := atoms_spec (ws := .codeWith yL_op cL_op 6 (some .int) [(0, 12, 15, 13)] :: (BIG ++ vzS)) B.pre
  have hlocks := B.notSynchronized
  have hown : s.vm.findClass RL = some m.cls := findClass_of_methodNamed B.named
  have htab : c.exceptionTable.toList = tableOf [(0, 12, 15, 13)] := vx_table (x := yL_op) B (hts _ List.mem_cons_self)
  have hl := lv_entry [.ref (ga g 0), .int p0, .int p1, .int p2, .ref (ga g 102)] (n := 6) (Nat.le_of_ble_eq_true rfl)
  rw [lg_entry_eq]
  generalize (lg_sl [.ref (ga g 0), .int p0, .int p1, .int p2, .ref (ga g 102)] ++ List.replicate (6 - (lg_sl [.ref (ga g 0), .int p0, .int p1, .int p2, .ref (ga g 102)]).length) Slot.unset).toArray = ls at hl ⊢
  have ht : ∀ w ∈ BIG, w.before [.ref (ga g 0), .int p0, .int p1, .int p2, .ref (ga g 102)].toArray s = true := fun w h => hts w (vz_big h)
  have hX : CallFix p m c cL_op 6 s [.ref (ga g 0), .int p0, .int p1, .int p2, .ref (ga g 102)].toArray BIG RL := ⟨hx, hb, hml, hown, ht⟩
  have hA : ∀ x, s.heap.size ≤ x → va_A (wA g q n σ) s.heap.size x := fun x h => Or.inr h
  have hI : wI g q n σ (va_A (wA g q n σ) s.heap.size) s.heap s.heap [] := ⟨hP, hD0.self, va_S.rf⟩
  have hl : lv_has ls 6 [(0, .ref (ga g 0)), (1, .int p0), (2, .int p1), (3, .int p2), (4, .ref (ga g 102))] := hl
  refine lv_aload hx hb dL_op_0 (lv_at hl 4 rfl) ?_
  refine lv_iconst (v := 0) hx hb dL_op_2 (by decide) ?_
  refine lv_aload_n hx hb dL_op_3 rfl (lv_at hl 0 rfl) ?_
  refine lv_iload_n hx hb dL_op_4 rfl (lv_at hl 1 rfl) ?_
  refine lv_iload_n hx hb dL_op_5 rfl (lv_at hl 2 rfl) ?_
  refine lv_iload_n hx hb dL_op_6 rfl (lv_at hl 3 rfl) ?_
  refine k_i hI hA (va_runV (As := [.int p0, .int p1, .int p2]) (rest := [.int 0, .ref (ga g 102)]) hX (c_X11_op N n hm _) (cwV 3 ht (in_V mw_1091 mw_1092 mw_1093 mw_267 mw_721) rfl rfl rfl pd_X11_op ⟨Nat.le_of_ble_eq_true rfl, Nat.le_of_ble_eq_true rfl⟩) ⟨q_blind, va_recv hK hI.1 (ci := 10) (q0 := 0) rfl rfl, q_to hI hK hN hZ hA⟩ rfl rfl hl.1 rfl (lv_room (Nat.le_of_ble_eq_true rfl)) dL_op_7 (by decide)) (fun H locs hI => ?_)
  refine lv_i2l (v := Int32.toInt64 r) hx hb dL_op_10 rfl ?_
  refine sv_102 hx hb hK hI (by unfold vp_in; decide) dL_op_11 (fun H locs hI => ?_)
  refine lv_goto (tgt := 19) hx hb dL_op_12 (by decide) ?_
  refine lv_iconst (v := 0) hx hb dL_op_19 (by decide) ?_
  exact W.iret (v := 0) hx hb hr (fun t ht hW => ⟨⟨_, (), rfl, rfl, by rw [ht]; exact hI.1, hI.2.1⟩, hI.2.2.F ht⟩) hI.2.2.2.2 dL_op_20
set_option maxHeartbeats 4000000 in
set_option maxRecDepth 100000 in
theorem c_L_op_b {l : Launch} (hst : l.stackTraces = false) {g : GG} {q : Nat} (N n : Nat) {σ : Sg} {p0 : Int32} {p1 : Int32} {p2 : Int32} {r : Int32} {σ1 : Sg} (hm : t_X11_op N n σ p0 p1 p2 = some (r, σ1)) : CTw l yL_op cL_op 6 [(0, 12, 15, 13)] 9 223 1 6 g q n [.ref (ga g 0), .int p0, .int p1, .int p2, .ref (ga g 102)] σ 1 σ1 := by
  intro sz
  refine va_MetW (hh := [(0, 12, 15, 13)]) (cc := cL_op) (maxL := 6) (ret := some .int) (by decide) rfl ?_
  intro p e s m args below meth c s₁ B hml hv
  obtain ⟨rfl, hsz, hP, hK, hD0, hN, hZ⟩ := hv
  subst hsz
  have hx := B.exec
  have hb := B.bytes
  have hr := B.returns
  have hts := atoms_spec (ws := .codeWith yL_op cL_op 6 (some .int) [(0, 12, 15, 13)] :: (BIG ++ vzS)) B.pre
  have hlocks := B.notSynchronized
  have hown : s.vm.findClass RL = some m.cls := findClass_of_methodNamed B.named
  have htab : c.exceptionTable.toList = tableOf [(0, 12, 15, 13)] := vx_table (x := yL_op) B (hts _ List.mem_cons_self)
  have hl := lv_entry [.ref (ga g 0), .int p0, .int p1, .int p2, .ref (ga g 102)] (n := 6) (Nat.le_of_ble_eq_true rfl)
  rw [lg_entry_eq]
  generalize (lg_sl [.ref (ga g 0), .int p0, .int p1, .int p2, .ref (ga g 102)] ++ List.replicate (6 - (lg_sl [.ref (ga g 0), .int p0, .int p1, .int p2, .ref (ga g 102)]).length) Slot.unset).toArray = ls at hl ⊢
  have ht : ∀ w ∈ BIG, w.before [.ref (ga g 0), .int p0, .int p1, .int p2, .ref (ga g 102)].toArray s = true := fun w h => hts w (vz_big h)
  have hX : CallFix p m c cL_op 6 s [.ref (ga g 0), .int p0, .int p1, .int p2, .ref (ga g 102)].toArray BIG RL := ⟨hx, hb, hml, hown, ht⟩
  have hA : ∀ x, s.heap.size ≤ x → va_A (wA g q n σ) s.heap.size x := fun x h => Or.inr h
  have hI : wI g q n σ (va_A (wA g q n σ) s.heap.size) s.heap s.heap [] := ⟨hP, hD0.self, va_S.rf⟩
  have hl : lv_has ls 6 [(0, .ref (ga g 0)), (1, .int p0), (2, .int p1), (3, .int p2), (4, .ref (ga g 102))] := hl
  refine lv_aload hx hb dL_op_0 (lv_at hl 4 rfl) ?_
  refine lv_iconst (v := 0) hx hb dL_op_2 (by decide) ?_
  refine lv_aload_n hx hb dL_op_3 rfl (lv_at hl 0 rfl) ?_
  refine lv_iload_n hx hb dL_op_4 rfl (lv_at hl 1 rfl) ?_
  refine lv_iload_n hx hb dL_op_5 rfl (lv_at hl 2 rfl) ?_
  refine lv_iload_n hx hb dL_op_6 rfl (lv_at hl 3 rfl) ?_
  refine vx_calli (vx_runV (As := [.int p0, .int p1, .int p2]) (rest := [.int 0, .ref (ga g 102)]) ⟨hx, hb, hml, hown, hts⟩ (ct_X11_op hst N n hm _) (cwV 3 hts (in_VT mw_1091 mw_1092 mw_1093 mw_267 mw_721) rfl rfl rfl pd_X11_op ⟨Nat.le_of_ble_eq_true rfl, Nat.le_of_ble_eq_true rfl⟩) ⟨q_blind, va_recv hK hI.1 (ci := 10) (q0 := 0) rfl rfl, q_to hI hK hN hZ hA⟩ rfl rfl hl.1 rfl (lv_room (Nat.le_of_ble_eq_true rfl)) dL_op_7 (by decide)) hI.2.2 (fun x _ h => q_free hI hA x h) (q_free hI hA) (fun x _ h => q_free hI hA x h) (fun E ce q9 u t H1 locs1 ht1 hvm hpx hB hz1 hk1 hS hce hcv hcl => ?_) (fun r u t H locs ht hvm hw hB hz1 hk1 hS => False.elim hw)
  obtain ⟨rfl, hB⟩ := hB
  subst ht1
  have hI : wI g q n σ1 _ s.heap t.heap locs1 := ⟨hB.1, ⟨hB.2.1, fun k x hk => q_free hI hA _ (hB.2.2 k x hk)⟩, hS⟩
  refine vx_widen (k := 1) (n := 6) (by decide) (by decide) ?_
  refine mz_catch (own := RL) (name := "java/util/NoSuchElementException") hown ⟨0, 12, 15, 13⟩ htab (by decide) (by decide) (ht _ mw_1090) (va_Nw.use rfl hZ.1.1.2.2.2) hce hcv hcl ?_
  refine W.eq (g2 := F0 m 15 ls [.ref q9]) rfl ?_
  refine lv_astore (lv' := [(5, .ref q9), (0, .ref (ga g 0)), (1, .int p0), (2, .int p1), (3, .int p2), (4, .ref (ga g 102))]) hx hb dL_op_15 hl (by decide) rfl (fun ls hl => ?_)
  refine lv_iconst (v := 1) hx hb dL_op_17 (by decide) ?_
  exact W.iret (v := 1) hx hb hr (fun t ht hW => ⟨⟨_, (), rfl, rfl, by rw [ht]; exact hI.1, hI.2.1⟩, hI.2.2.F ht⟩) hI.2.2.2.2 dL_op_18
set_option maxHeartbeats 4000000 in
set_option maxRecDepth 100000 in
theorem c_L_peek_a {l : Launch} (hst : l.stackTraces = false) {g : GG} {q : Nat} (N n : Nat) {σ : Sg} {p0 : Int32} {p1 : Int32} {r : Int32} {σ1 : Sg} (hm : f_X11_peek N n σ p0 p1 = some (r, σ1)) : CTw l yL_peek cL_peek 5 [(0, 10, 13, 13)] 2 43 0 0 g q n [.ref (ga g 0), .int p0, .int p1, .ref (ga g 102)] σ 0 (sg σ1 102 (ix 0) r) := by
  intro sz
  refine va_MetW (hh := [(0, 10, 13, 13)]) (cc := cL_peek) (maxL := 5) (ret := some .int) (by decide) rfl ?_
  intro p e s m args below meth c s₁ B hml hv
  obtain ⟨rfl, hsz, hP, hK, hD0, hN, hZ⟩ := hv
  subst hsz
  have hx := B.exec
  have hb := B.bytes
  have hr := B.returns
  have hts := atoms_spec (ws := .codeWith yL_peek cL_peek 5 (some .int) [(0, 10, 13, 13)] :: (BIG ++ vzS)) B.pre
  have hlocks := B.notSynchronized
  have hown : s.vm.findClass RL = some m.cls := findClass_of_methodNamed B.named
  have htab : c.exceptionTable.toList = tableOf [(0, 10, 13, 13)] := vx_table (x := yL_peek) B (hts _ List.mem_cons_self)
  have hl := lv_entry [.ref (ga g 0), .int p0, .int p1, .ref (ga g 102)] (n := 5) (Nat.le_of_ble_eq_true rfl)
  rw [lg_entry_eq]
  generalize (lg_sl [.ref (ga g 0), .int p0, .int p1, .ref (ga g 102)] ++ List.replicate (5 - (lg_sl [.ref (ga g 0), .int p0, .int p1, .ref (ga g 102)]).length) Slot.unset).toArray = ls at hl ⊢
  have ht : ∀ w ∈ BIG, w.before [.ref (ga g 0), .int p0, .int p1, .ref (ga g 102)].toArray s = true := fun w h => hts w (vz_big h)
  have hX : CallFix p m c cL_peek 5 s [.ref (ga g 0), .int p0, .int p1, .ref (ga g 102)].toArray BIG RL := ⟨hx, hb, hml, hown, ht⟩
  have hA : ∀ x, s.heap.size ≤ x → va_A (wA g q n σ) s.heap.size x := fun x h => Or.inr h
  have hI : wI g q n σ (va_A (wA g q n σ) s.heap.size) s.heap s.heap [] := ⟨hP, hD0.self, va_S.rf⟩
  have hl : lv_has ls 5 [(0, .ref (ga g 0)), (1, .int p0), (2, .int p1), (3, .ref (ga g 102))] := hl
  refine lv_aload_n hx hb dL_peek_0 rfl (lv_at hl 3 rfl) ?_
  refine lv_iconst (v := 0) hx hb dL_peek_1 (by decide) ?_
  refine lv_aload_n hx hb dL_peek_2 rfl (lv_at hl 0 rfl) ?_
  refine lv_iload_n hx hb dL_peek_3 rfl (lv_at hl 1 rfl) ?_
  refine lv_iload_n hx hb dL_peek_4 rfl (lv_at hl 2 rfl) ?_
  refine k_i hI hA (va_runV (As := [.int p0, .int p1]) (rest := [.int 0, .ref (ga g 102)]) hX (c_X11_peek N n hm _) (cwV 2 ht (in_V mw_1094 mw_1095 mw_1096 mw_267 mw_752) rfl rfl rfl pd_X11_peek ⟨Nat.le_of_ble_eq_true rfl, Nat.le_of_ble_eq_true rfl⟩) ⟨q_blind, va_recv hK hI.1 (ci := 10) (q0 := 0) rfl rfl, q_to hI hK hN hZ hA⟩ rfl rfl hl.1 rfl (lv_room (Nat.le_of_ble_eq_true rfl)) dL_peek_5 (by decide)) (fun H locs hI => ?_)
  refine lv_i2l (v := Int32.toInt64 r) hx hb dL_peek_8 rfl ?_
  refine sv_102 hx hb hK hI (by unfold vp_in; decide) dL_peek_9 (fun H locs hI => ?_)
  refine lv_goto (tgt := 17) hx hb dL_peek_10 (by decide) ?_
  refine lv_iconst (v := 0) hx hb dL_peek_17 (by decide) ?_
  exact W.iret (v := 0) hx hb hr (fun t ht hW => ⟨⟨_, (), rfl, rfl, by rw [ht]; exact hI.1, hI.2.1⟩, hI.2.2.F ht⟩) hI.2.2.2.2 dL_peek_18
set_option maxHeartbeats 4000000 in
set_option maxRecDepth 100000 in
theorem c_L_peek_b {l : Launch} (hst : l.stackTraces = false) {g : GG} {q : Nat} (N n : Nat) {σ : Sg} {p0 : Int32} {p1 : Int32} {r : Int32} {σ1 : Sg} (hm : t_X11_peek N n σ p0 p1 = some (r, σ1)) : CTw l yL_peek cL_peek 5 [(0, 10, 13, 13)] 9 222 1 6 g q n [.ref (ga g 0), .int p0, .int p1, .ref (ga g 102)] σ 1 σ1 := by
  intro sz
  refine va_MetW (hh := [(0, 10, 13, 13)]) (cc := cL_peek) (maxL := 5) (ret := some .int) (by decide) rfl ?_
  intro p e s m args below meth c s₁ B hml hv
  obtain ⟨rfl, hsz, hP, hK, hD0, hN, hZ⟩ := hv
  subst hsz
  have hx := B.exec
  have hb := B.bytes
  have hr := B.returns
  have hts := atoms_spec (ws := .codeWith yL_peek cL_peek 5 (some .int) [(0, 10, 13, 13)] :: (BIG ++ vzS)) B.pre
  have hlocks := B.notSynchronized
  have hown : s.vm.findClass RL = some m.cls := findClass_of_methodNamed B.named
  have htab : c.exceptionTable.toList = tableOf [(0, 10, 13, 13)] := vx_table (x := yL_peek) B (hts _ List.mem_cons_self)
  have hl := lv_entry [.ref (ga g 0), .int p0, .int p1, .ref (ga g 102)] (n := 5) (Nat.le_of_ble_eq_true rfl)
  rw [lg_entry_eq]
  generalize (lg_sl [.ref (ga g 0), .int p0, .int p1, .ref (ga g 102)] ++ List.replicate (5 - (lg_sl [.ref (ga g 0), .int p0, .int p1, .ref (ga g 102)]).length) Slot.unset).toArray = ls at hl ⊢
  have ht : ∀ w ∈ BIG, w.before [.ref (ga g 0), .int p0, .int p1, .ref (ga g 102)].toArray s = true := fun w h => hts w (vz_big h)
  have hX : CallFix p m c cL_peek 5 s [.ref (ga g 0), .int p0, .int p1, .ref (ga g 102)].toArray BIG RL := ⟨hx, hb, hml, hown, ht⟩
  have hA : ∀ x, s.heap.size ≤ x → va_A (wA g q n σ) s.heap.size x := fun x h => Or.inr h
  have hI : wI g q n σ (va_A (wA g q n σ) s.heap.size) s.heap s.heap [] := ⟨hP, hD0.self, va_S.rf⟩
  have hl : lv_has ls 5 [(0, .ref (ga g 0)), (1, .int p0), (2, .int p1), (3, .ref (ga g 102))] := hl
  refine lv_aload_n hx hb dL_peek_0 rfl (lv_at hl 3 rfl) ?_
  refine lv_iconst (v := 0) hx hb dL_peek_1 (by decide) ?_
  refine lv_aload_n hx hb dL_peek_2 rfl (lv_at hl 0 rfl) ?_
  refine lv_iload_n hx hb dL_peek_3 rfl (lv_at hl 1 rfl) ?_
  refine lv_iload_n hx hb dL_peek_4 rfl (lv_at hl 2 rfl) ?_
  refine vx_calli (vx_runV (As := [.int p0, .int p1]) (rest := [.int 0, .ref (ga g 102)]) ⟨hx, hb, hml, hown, hts⟩ (ct_X11_peek hst N n hm _) (cwV 2 hts (in_VT mw_1094 mw_1095 mw_1096 mw_267 mw_752) rfl rfl rfl pd_X11_peek ⟨Nat.le_of_ble_eq_true rfl, Nat.le_of_ble_eq_true rfl⟩) ⟨q_blind, va_recv hK hI.1 (ci := 10) (q0 := 0) rfl rfl, q_to hI hK hN hZ hA⟩ rfl rfl hl.1 rfl (lv_room (Nat.le_of_ble_eq_true rfl)) dL_peek_5 (by decide)) hI.2.2 (fun x _ h => q_free hI hA x h) (q_free hI hA) (fun x _ h => q_free hI hA x h) (fun E ce q9 u t H1 locs1 ht1 hvm hpx hB hz1 hk1 hS hce hcv hcl => ?_) (fun r u t H locs ht hvm hw hB hz1 hk1 hS => False.elim hw)
  obtain ⟨rfl, hB⟩ := hB
  subst ht1
  have hI : wI g q n σ1 _ s.heap t.heap locs1 := ⟨hB.1, ⟨hB.2.1, fun k x hk => q_free hI hA _ (hB.2.2 k x hk)⟩, hS⟩
  refine vx_widen (k := 1) (n := 6) (by decide) (by decide) ?_
  refine mz_catch (own := RL) (name := "java/util/NoSuchElementException") hown ⟨0, 10, 13, 13⟩ htab (by decide) (by decide) (ht _ mw_1090) (va_Nw.use rfl hZ.1.1.2.2.2) hce hcv hcl ?_
  refine W.eq (g2 := F0 m 13 ls [.ref q9]) rfl ?_
  refine lv_astore (lv' := [(4, .ref q9), (0, .ref (ga g 0)), (1, .int p0), (2, .int p1), (3, .ref (ga g 102))]) hx hb dL_peek_13 hl (by decide) rfl (fun ls hl => ?_)
  refine lv_iconst (v := 1) hx hb dL_peek_15 (by decide) ?_
  exact W.iret (v := 1) hx hb hr (fun t ht hW => ⟨⟨_, (), rfl, rfl, by rw [ht]; exact hI.1, hI.2.1⟩, hI.2.2.F ht⟩) hI.2.2.2.2 dL_peek_16
