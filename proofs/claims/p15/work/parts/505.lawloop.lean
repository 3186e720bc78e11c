theorem pd_X11_again : yX11_again.cls = RX11 ∧ yX11_again.cls ≠ "java/lang/invoke/MethodHandle" ∧ yX11_again.cls ≠ "java/lang/invoke/VarHandle" ∧ (parseMethodDescriptor yX11_again.desc).map (fun d => d.parameters.length) = some 0 := by decide +kernel
theorem pd_X11_cell : yX11_cell.cls = RX11 ∧ yX11_cell.cls ≠ "java/lang/invoke/MethodHandle" ∧ yX11_cell.cls ≠ "java/lang/invoke/VarHandle" ∧ (parseMethodDescriptor yX11_cell.desc).map (fun d => d.parameters.length) = some 2 := by decide +kernel
theorem pd_X11_check : yX11_check.cls = RX11 ∧ yX11_check.cls ≠ "java/lang/invoke/MethodHandle" ∧ yX11_check.cls ≠ "java/lang/invoke/VarHandle" ∧ (parseMethodDescriptor yX11_check.desc).map (fun d => d.parameters.length) = some 0 := by decide +kernel
theorem pd_X11_clear : yX11_clear.cls = RX11 ∧ yX11_clear.cls ≠ "java/lang/invoke/MethodHandle" ∧ yX11_clear.cls ≠ "java/lang/invoke/VarHandle" ∧ (parseMethodDescriptor yX11_clear.desc).map (fun d => d.parameters.length) = some 0 := by decide +kernel
theorem pd_X11_count : yX11_count.cls = RX11 ∧ yX11_count.cls ≠ "java/lang/invoke/MethodHandle" ∧ yX11_count.cls ≠ "java/lang/invoke/VarHandle" ∧ (parseMethodDescriptor yX11_count.desc).map (fun d => d.parameters.length) = some 1 := by decide +kernel
theorem pd_X11_depth : yX11_depth.cls = RX11 ∧ yX11_depth.cls ≠ "java/lang/invoke/MethodHandle" ∧ yX11_depth.cls ≠ "java/lang/invoke/VarHandle" ∧ (parseMethodDescriptor yX11_depth.desc).map (fun d => d.parameters.length) = some 2 := by decide +kernel
theorem pd_X11_func : yX11_func.cls = RX11 ∧ yX11_func.cls ≠ "java/lang/invoke/MethodHandle" ∧ yX11_func.cls ≠ "java/lang/invoke/VarHandle" ∧ (parseMethodDescriptor yX11_func.desc).map (fun d => d.parameters.length) = some 2 := by decide +kernel
theorem pd_X11_look : yX11_look.cls = RX11 ∧ yX11_look.cls ≠ "java/lang/invoke/MethodHandle" ∧ yX11_look.cls ≠ "java/lang/invoke/VarHandle" ∧ (parseMethodDescriptor yX11_look.desc).map (fun d => d.parameters.length) = some 2 := by decide +kernel
theorem pd_X11_places : yX11_places.cls = RX11 ∧ yX11_places.cls ≠ "java/lang/invoke/MethodHandle" ∧ yX11_places.cls ≠ "java/lang/invoke/VarHandle" ∧ (parseMethodDescriptor yX11_places.desc).map (fun d => d.parameters.length) = some 1 := by decide +kernel
theorem pd_X11_runRegisters : yX11_runRegisters.cls = RX11 ∧ yX11_runRegisters.cls ≠ "java/lang/invoke/MethodHandle" ∧ yX11_runRegisters.cls ≠ "java/lang/invoke/VarHandle" ∧ (parseMethodDescriptor yX11_runRegisters.desc).map (fun d => d.parameters.length) = some 1 := by decide +kernel
theorem pd_X11_runStack : yX11_runStack.cls = RX11 ∧ yX11_runStack.cls ≠ "java/lang/invoke/MethodHandle" ∧ yX11_runStack.cls ≠ "java/lang/invoke/VarHandle" ∧ (parseMethodDescriptor yX11_runStack.desc).map (fun d => d.parameters.length) = some 1 := by decide +kernel
theorem pd_X11_size : yX11_size.cls = RX11 ∧ yX11_size.cls ≠ "java/lang/invoke/MethodHandle" ∧ yX11_size.cls ≠ "java/lang/invoke/VarHandle" ∧ (parseMethodDescriptor yX11_size.desc).map (fun d => d.parameters.length) = some 1 := by decide +kernel
theorem pd_X11_slots : yX11_slots.cls = RX11 ∧ yX11_slots.cls ≠ "java/lang/invoke/MethodHandle" ∧ yX11_slots.cls ≠ "java/lang/invoke/VarHandle" ∧ (parseMethodDescriptor yX11_slots.desc).map (fun d => d.parameters.length) = some 1 := by decide +kernel
theorem pd_X11_turn : yX11_turn.cls = RX11 ∧ yX11_turn.cls ≠ "java/lang/invoke/MethodHandle" ∧ yX11_turn.cls ≠ "java/lang/invoke/VarHandle" ∧ (parseMethodDescriptor yX11_turn.desc).map (fun d => d.parameters.length) = some 1 := by decide +kernel
theorem pd_X11_value : yX11_value.cls = RX11 ∧ yX11_value.cls ≠ "java/lang/invoke/MethodHandle" ∧ yX11_value.cls ≠ "java/lang/invoke/VarHandle" ∧ (parseMethodDescriptor yX11_value.desc).map (fun d => d.parameters.length) = some 3 := by decide +kernel
theorem pd_X11_word : yX11_word.cls = RX11 ∧ yX11_word.cls ≠ "java/lang/invoke/MethodHandle" ∧ yX11_word.cls ≠ "java/lang/invoke/VarHandle" ∧ (parseMethodDescriptor yX11_word.desc).map (fun d => d.parameters.length) = some 2 := by decide +kernel
theorem pd_X12_again : yX12_again.cls = RX12 ∧ yX12_again.cls ≠ "java/lang/invoke/MethodHandle" ∧ yX12_again.cls ≠ "java/lang/invoke/VarHandle" ∧ (parseMethodDescriptor yX12_again.desc).map (fun d => d.parameters.length) = some 0 := by decide +kernel
theorem pd_X12_cell : yX12_cell.cls = RX12 ∧ yX12_cell.cls ≠ "java/lang/invoke/MethodHandle" ∧ yX12_cell.cls ≠ "java/lang/invoke/VarHandle" ∧ (parseMethodDescriptor yX12_cell.desc).map (fun d => d.parameters.length) = some 2 := by decide +kernel
theorem pd_X12_check : yX12_check.cls = RX12 ∧ yX12_check.cls ≠ "java/lang/invoke/MethodHandle" ∧ yX12_check.cls ≠ "java/lang/invoke/VarHandle" ∧ (parseMethodDescriptor yX12_check.desc).map (fun d => d.parameters.length) = some 0 := by decide +kernel
theorem pd_X12_clear : yX12_clear.cls = RX12 ∧ yX12_clear.cls ≠ "java/lang/invoke/MethodHandle" ∧ yX12_clear.cls ≠ "java/lang/invoke/VarHandle" ∧ (parseMethodDescriptor yX12_clear.desc).map (fun d => d.parameters.length) = some 0 := by decide +kernel
theorem pd_X12_count : yX12_count.cls = RX12 ∧ yX12_count.cls ≠ "java/lang/invoke/MethodHandle" ∧ yX12_count.cls ≠ "java/lang/invoke/VarHandle" ∧ (parseMethodDescriptor yX12_count.desc).map (fun d => d.parameters.length) = some 1 := by decide +kernel
theorem pd_X12_depth : yX12_depth.cls = RX12 ∧ yX12_depth.cls ≠ "java/lang/invoke/MethodHandle" ∧ yX12_depth.cls ≠ "java/lang/invoke/VarHandle" ∧ (parseMethodDescriptor yX12_depth.desc).map (fun d => d.parameters.length) = some 2 := by decide +kernel
theorem pd_X12_func : yX12_func.cls = RX12 ∧ yX12_func.cls ≠ "java/lang/invoke/MethodHandle" ∧ yX12_func.cls ≠ "java/lang/invoke/VarHandle" ∧ (parseMethodDescriptor yX12_func.desc).map (fun d => d.parameters.length) = some 2 := by decide +kernel
theorem pd_X12_look : yX12_look.cls = RX12 ∧ yX12_look.cls ≠ "java/lang/invoke/MethodHandle" ∧ yX12_look.cls ≠ "java/lang/invoke/VarHandle" ∧ (parseMethodDescriptor yX12_look.desc).map (fun d => d.parameters.length) = some 2 := by decide +kernel
theorem pd_X12_op : yX12_op.cls = RX12 ∧ yX12_op.cls ≠ "java/lang/invoke/MethodHandle" ∧ yX12_op.cls ≠ "java/lang/invoke/VarHandle" ∧ (parseMethodDescriptor yX12_op.desc).map (fun d => d.parameters.length) = some 3 := by decide +kernel
theorem pd_X12_peek : yX12_peek.cls = RX12 ∧ yX12_peek.cls ≠ "java/lang/invoke/MethodHandle" ∧ yX12_peek.cls ≠ "java/lang/invoke/VarHandle" ∧ (parseMethodDescriptor yX12_peek.desc).map (fun d => d.parameters.length) = some 2 := by decide +kernel
theorem pd_X12_places : yX12_places.cls = RX12 ∧ yX12_places.cls ≠ "java/lang/invoke/MethodHandle" ∧ yX12_places.cls ≠ "java/lang/invoke/VarHandle" ∧ (parseMethodDescriptor yX12_places.desc).map (fun d => d.parameters.length) = some 1 := by decide +kernel
theorem pd_X12_runRegisters : yX12_runRegisters.cls = RX12 ∧ yX12_runRegisters.cls ≠ "java/lang/invoke/MethodHandle" ∧ yX12_runRegisters.cls ≠ "java/lang/invoke/VarHandle" ∧ (parseMethodDescriptor yX12_runRegisters.desc).map (fun d => d.parameters.length) = some 1 := by decide +kernel
theorem pd_X12_runStack : yX12_runStack.cls = RX12 ∧ yX12_runStack.cls ≠ "java/lang/invoke/MethodHandle" ∧ yX12_runStack.cls ≠ "java/lang/invoke/VarHandle" ∧ (parseMethodDescriptor yX12_runStack.desc).map (fun d => d.parameters.length) = some 1 := by decide +kernel
theorem pd_X12_size : yX12_size.cls = RX12 ∧ yX12_size.cls ≠ "java/lang/invoke/MethodHandle" ∧ yX12_size.cls ≠ "java/lang/invoke/VarHandle" ∧ (parseMethodDescriptor yX12_size.desc).map (fun d => d.parameters.length) = some 1 := by decide +kernel
theorem pd_X12_slots : yX12_slots.cls = RX12 ∧ yX12_slots.cls ≠ "java/lang/invoke/MethodHandle" ∧ yX12_slots.cls ≠ "java/lang/invoke/VarHandle" ∧ (parseMethodDescriptor yX12_slots.desc).map (fun d => d.parameters.length) = some 1 := by decide +kernel
theorem pd_X12_turn : yX12_turn.cls = RX12 ∧ yX12_turn.cls ≠ "java/lang/invoke/MethodHandle" ∧ yX12_turn.cls ≠ "java/lang/invoke/VarHandle" ∧ (parseMethodDescriptor yX12_turn.desc).map (fun d => d.parameters.length) = some 1 := by decide +kernel
theorem pd_X12_value : yX12_value.cls = RX12 ∧ yX12_value.cls ≠ "java/lang/invoke/MethodHandle" ∧ yX12_value.cls ≠ "java/lang/invoke/VarHandle" ∧ (parseMethodDescriptor yX12_value.desc).map (fun d => d.parameters.length) = some 3 := by decide +kernel
theorem pd_X12_word : yX12_word.cls = RX12 ∧ yX12_word.cls ≠ "java/lang/invoke/MethodHandle" ∧ yX12_word.cls ≠ "java/lang/invoke/VarHandle" ∧ (parseMethodDescriptor yX12_word.desc).map (fun d => d.parameters.length) = some 2 := by decide +kernel
def bmr {β : Type} (x : Option Mo) (k : Int32 → Sg → Nat → Nat → Option β) : Option β := match x with
  | some o => k o.1 o.2.1 o.2.2.1 o.2.2.2
  | none => none
theorem bmr_some {β : Type} {x : Option Mo} {k : Int32 → Sg → Nat → Nat → Option β} {y : β} (h : bmr x k = some y) : ∃ (r : Int32) (σ : Sg) (n d : Nat), x = some (r, σ, n, d) ∧ k r σ n d = some y := by
  cases x with
  | none => exact nomatch h
  | some o => exact ⟨o.1, o.2.1, o.2.2.1, o.2.2.2, rfl, h⟩
def gac {β : Type} (a : Nat) (x : Option β) : Option β := bif decide (a ≤ 500000) then x else none
theorem gac_some {β : Type} {a : Nat} {x : Option β} {y : β} (h : gac a x = some y) : a ≤ 500000 ∧ x = some y := by
  unfold gac at h
  by_cases hi : a ≤ 500000
  · rw [decide_eq_true hi] at h
    exact ⟨hi, h⟩
  · rw [decide_eq_false hi] at h
    exact nomatch h
def bop {β : Type} (x y : Option (Int32 × Sg)) (k1 k2 : Int32 → Sg → Option β) : Option β := match x with
  | some o => k1 o.1 o.2
  | none => bd y k2
theorem bop_some {β : Type} {x y : Option (Int32 × Sg)} {k1 k2 : Int32 → Sg → Option β} {z : β} (h : bop x y k1 k2 = some z) : (∃ (r : Int32) (σ : Sg), x = some (r, σ) ∧ k1 r σ = some z) ∨ (∃ (r : Int32) (σ : Sg), y = some (r, σ) ∧ k2 r σ = some z) := by
  cases x with
  | some o => exact Or.inl ⟨o.1, o.2, rfl, h⟩
  | none => exact Or.inr (bd_some h)
theorem k_w {p : Program} {l : Launch} {e : Env} {R : Room} {s : State} {m : MethodId} {args : Array Value} {below : List Frame} {meth : Method} {c : Code} {H : Heap} {locs : List Loc} {cells slots mc ms : Nat} {Q : State → Prop} {pc : Nat} {ls : Array Slot} {st0 rest : List Value} {A : Nat → Prop} {g : GG} {q n : Nat} {σ σ' : Sg} {r : Int32} {a0 : Array Value} (hI : wI g q n σ A s.heap H locs) (hA : ∀ x, s.heap.size ≤ x → A x)
    (hr : va_Run p l e R s m args below meth c H locs cells slots mc ms (F0 m pc ls st0) rest (qQi g q n H.size σ r σ' a0) (va_A (wA g q n σ) H.size))
    (kk : ∀ (H1 : Heap) (locs1 : List Loc), wI g q n σ' A s.heap H1 locs1 → W p l e R s m args below meth c H1 locs1 (cells + mc) (slots + ms) Q (F0 m (pc + 3) ls (.int r :: rest))) : W p l e R s m args below meth c H locs cells slots Q (F0 m pc ls st0) :=
  va_calli hr hI.2.2 (fun x _ h => q_free hI hA x h) (q_free hI hA) (fun r' u t H1 l1 ht hvm hw hB hz1 hk1 hS => by
    subst hw
    subst ht
    exact kk t.heap l1 ⟨hB.1, ⟨hB.2.1, fun k x hk => q_free hI hA _ (hB.2.2 k x hk)⟩, hS⟩)
theorem sl_ld {p : Program} {l : Launch} {e : Env} {R : Room} {s : State} {m : MethodId} {args : Array Value} {below : List Frame} {meth : Method} {c : Code} {H H0 : Heap} {locs : List Loc} {cells slots : Nat} {Q : State → Prop} {cc : ByteArray} {pc : Nat} {ls : Array Slot} {rest : List Value} {A : Nat → Prop} (hexec : p.tables.exec = Jvm.exec) (hb : c.code = cc) {b L : Nat} {xs : Nat → Int32} (hX : va_X b L xs s H0) (hbl : b < H0.size) (hbA : ¬ A b) (hS : va_S A H0 H locs) {i : Int32} (hin : vp_in i L) (hdg : decode cc pc = .ok (.iaload, 1))
    (kk : W p l e R s m args below meth c H locs cells slots Q (F0 m (pc + 1) ls (.int (xs (ix i)) :: rest))) : W p l e R s m args below meth c H locs cells slots Q (F0 m pc ls (.int i :: .ref b :: rest)) := va_sld hexec hb hX hbl hbA hS hin hdg kk
/-- the law's words -/
def TL : List Cond := .codeWith yL_op cL_op 6 (some .int) [(0, 12, 15, 13)] :: .codeWith yL_peek cL_peek 5 (some .int) [(0, 10, 13, 13)] :: (BIG ++ vzS)
theorem TL_big {w : Cond} (h : w ∈ BIG) : w ∈ TL := List.mem_cons_of_mem _ (List.mem_cons_of_mem _ (List.mem_append_left _ h))
theorem TL_vz {w : Cond} (h : w ∈ vzS) : w ∈ TL := List.mem_cons_of_mem _ (List.mem_cons_of_mem _ (List.mem_append_right _ h))
theorem TL_gV {w : Cond} (h : w ∈ vzS) : w ∈ TL ∧ ((w.onTables && w.keeps) = true ∨ ∃ ty, w = .arrayClass ty) := ⟨TL_vz h, good_of_word (List.all_eq_true.mp gz_good w h)⟩
theorem TL_gB {w : Cond} (h : w ∈ BIG) : w ∈ TL ∧ ((w.onTables && w.keeps) = true ∨ ∃ ty, w = .arrayClass ty) := ⟨TL_big h, BIG_good w h⟩
theorem in_L_op : GoodIn TL (va_wsS RL 49 yL_op (.codeWith yL_op cL_op 6 (some .int) [(0, 12, 15, 13)] :: (BIG ++ vzS))) := by
  intro w hw
  simp only [va_wsS, List.mem_append, List.mem_cons, List.not_mem_nil, or_false] at hw
  rcases hw with (rfl | rfl | rfl) | rfl | h | h
  · exact TL_gB mw_1142
  · exact TL_gB mw_1143
  · exact TL_gB mw_1144
  · exact ⟨List.mem_cons_self, Or.inl (by decide +kernel)⟩
  · exact TL_gB h
  · exact TL_gV h
theorem in_L_peek : GoodIn TL (va_wsS RL 93 yL_peek (.codeWith yL_peek cL_peek 5 (some .int) [(0, 10, 13, 13)] :: (BIG ++ vzS))) := by
  intro w hw
  simp only [va_wsS, List.mem_append, List.mem_cons, List.not_mem_nil, or_false] at hw
  rcases hw with (rfl | rfl | rfl) | rfl | h | h
  · exact TL_gB mw_1202
  · exact TL_gB mw_1203
  · exact TL_gB mw_1144
  · exact ⟨List.mem_cons_of_mem _ List.mem_cons_self, Or.inl (by decide +kernel)⟩
  · exact TL_gB h
  · exact TL_gV h
def lb_law (N L : Nat) (xs : Nat → Int32) (rec : Sg → Nat → Nat → Int32 → Option Int32) (σ : Sg) (n acc : Nat) (v4 : Int32) : Option Int32 := if ((Int32.ofNat L) - 4) < v4 then (some 1) else (gb v4 L (if ((xs (ix v4)) &&& 31) = 0 then (gb (v4 + 1) L (gb (v4 + 2) L (bd (f_X11_func N n σ (xs (ix (v4 + 1))) (xs (ix (v4 + 2)))) (fun r6 σ7 => gb (v4 + 1) L (gb (v4 + 2) L (bd (f_X12_func N n σ7 (xs (ix (v4 + 1))) (xs (ix (v4 + 2)))) (fun r11 σ12 => rec σ12 n acc (v4 + 4)))))))) else (if ((xs (ix v4)) &&& 31) = 1 then (gb (v4 + 1) L (gb (v4 + 2) L (bd (f_X11_word N n σ (xs (ix (v4 + 1))) (xs (ix (v4 + 2)))) (fun r17 σ18 => gb (v4 + 1) L (gb (v4 + 2) L (bd (f_X12_word N n σ18 (xs (ix (v4 + 1))) (xs (ix (v4 + 2)))) (fun r22 σ23 => rec σ23 n acc (v4 + 4)))))))) else (if ((xs (ix v4)) &&& 31) = 2 then (bd (f_X11_check N n σ ) (fun r26 σ27 => bd (f_X12_check N n σ27 ) (fun r29 σ30 => rec σ30 n acc (v4 + 4)))) else (if ((xs (ix v4)) &&& 31) = 3 then (gb (v4 + 1) L (gb (v4 + 2) L (bd (f_X11_depth N n σ (xs (ix (v4 + 1))) (xs (ix (v4 + 2)))) (fun r35 σ36 => gb (v4 + 1) L (gb (v4 + 2) L (bd (f_X12_depth N n σ36 (xs (ix (v4 + 1))) (xs (ix (v4 + 2)))) (fun r40 σ41 => rec σ41 n acc (v4 + 4)))))))) else (if ((xs (ix v4)) &&& 31) = 4 then (bd (f_X11_clear N n σ ) (fun r44 σ45 => bd (f_X12_clear N n σ45 ) (fun r47 σ48 => rec σ48 n acc (v4 + 4)))) else (if ((xs (ix v4)) &&& 31) = 5 then (gb (v4 + 1) L (bmr (f_X11_turn N n σ (xs (ix (v4 + 1)))) (fun r1 σ1 n1 d1 => gac (acc + d1) (gb (v4 + 1) L (bd (f_X12_turn N n1 σ1 (xs (ix (v4 + 1)))) (fun r53 σ54 => rec σ54 n1 (acc + d1) (v4 + 4))))))) else (if ((xs (ix v4)) &&& 31) = 6 then (gb (v4 + 1) L (gb (v4 + 2) L (gb (v4 + 3) L (bop (f_X11_op N n σ (xs (ix (v4 + 1))) (xs (ix (v4 + 2))) (xs (ix (v4 + 3)))) (t_X11_op N n σ (xs (ix (v4 + 1))) (xs (ix (v4 + 2))) (xs (ix (v4 + 3)))) (fun r1 σ1 => gb (v4 + 1) L (gb (v4 + 2) L (gb (v4 + 3) L (bd (f_X12_op N n (sg σ1 102 (ix 0) r1) (xs (ix (v4 + 1))) (xs (ix (v4 + 2))) (xs (ix (v4 + 3)))) (fun r63 σ64 => rec σ64 n acc (v4 + 4)))))) (fun r1 σ1 => gac (acc + 6) (gb (v4 + 1) L (gb (v4 + 2) L (gb (v4 + 3) L (bd (f_X12_op N n σ1 (xs (ix (v4 + 1))) (xs (ix (v4 + 2))) (xs (ix (v4 + 3)))) (fun r69 σ70 => rec σ70 n (acc + 6) (v4 + 4))))))))))) else (if ((xs (ix v4)) &&& 31) = 7 then (gb (v4 + 1) L (bd (f_X11_size N n σ (xs (ix (v4 + 1)))) (fun r74 σ75 => gb (v4 + 1) L (bd (f_X12_size N n σ75 (xs (ix (v4 + 1)))) (fun r78 σ79 => rec σ79 n acc (v4 + 4)))))) else (if ((xs (ix v4)) &&& 31) = 8 then (gb (v4 + 1) L (gb (v4 + 2) L (gb (v4 + 3) L (bd (f_X11_value N n σ (xs (ix (v4 + 1))) (xs (ix (v4 + 2))) (xs (ix (v4 + 3)))) (fun r85 σ86 => gb (v4 + 1) L (gb (v4 + 2) L (gb (v4 + 3) L (bd (f_X12_value N n σ86 (xs (ix (v4 + 1))) (xs (ix (v4 + 2))) (xs (ix (v4 + 3)))) (fun r91 σ92 => rec σ92 n acc (v4 + 4)))))))))) else (if ((xs (ix v4)) &&& 31) = 9 then (gb (v4 + 1) L (bd (f_X11_slots N n σ (xs (ix (v4 + 1)))) (fun r96 σ97 => gb (v4 + 1) L (bd (f_X12_slots N n σ97 (xs (ix (v4 + 1)))) (fun r100 σ101 => rec σ101 n acc (v4 + 4)))))) else (if ((xs (ix v4)) &&& 31) = 10 then (gb (v4 + 1) L (bd (f_X11_places N n σ (xs (ix (v4 + 1)))) (fun r105 σ106 => gb (v4 + 1) L (bd (f_X12_places N n σ106 (xs (ix (v4 + 1)))) (fun r109 σ110 => rec σ110 n acc (v4 + 4)))))) else (if ((xs (ix v4)) &&& 31) = 11 then (gb (v4 + 1) L (gb (v4 + 2) L (bd (f_X11_cell N n σ (xs (ix (v4 + 1))) (xs (ix (v4 + 2)))) (fun r115 σ116 => gb (v4 + 1) L (gb (v4 + 2) L (bd (f_X12_cell N n σ116 (xs (ix (v4 + 1))) (xs (ix (v4 + 2)))) (fun r120 σ121 => rec σ121 n acc (v4 + 4)))))))) else (if ((xs (ix v4)) &&& 31) = 12 then (bd (f_X11_again N n σ ) (fun r124 σ125 => bd (f_X12_again N n σ125 ) (fun r127 σ128 => rec σ128 n acc (v4 + 4)))) else (if ((xs (ix v4)) &&& 31) = 13 then (gb (v4 + 1) L (bd (f_X11_runStack N n σ (xs (ix (v4 + 1)))) (fun r132 σ133 => gb (v4 + 1) L (bd (f_X12_runStack N n σ133 (xs (ix (v4 + 1)))) (fun r136 σ137 => if r132 = r136 then (rec σ137 n acc (v4 + 4)) else (some 0)))))) else (if ((xs (ix v4)) &&& 31) = 14 then (gb (v4 + 1) L (bd (f_X11_runRegisters N n σ (xs (ix (v4 + 1)))) (fun r142 σ143 => gb (v4 + 1) L (bd (f_X12_runRegisters N n σ143 (xs (ix (v4 + 1)))) (fun r146 σ147 => rec σ147 n acc (v4 + 4)))))) else (if ((xs (ix v4)) &&& 31) = 15 then (gb (v4 + 1) L (gb (v4 + 2) L (bd (f_X11_look N n σ (xs (ix (v4 + 1))) (xs (ix (v4 + 2)))) (fun r152 σ153 => gb (v4 + 1) L (gb (v4 + 2) L (bd (f_X12_look N n σ153 (xs (ix (v4 + 1))) (xs (ix (v4 + 2)))) (fun r157 σ158 => rec σ158 n acc (v4 + 4)))))))) else (if ((xs (ix v4)) &&& 31) = 16 then (gb (v4 + 1) L (gb (v4 + 2) L (bop (f_X11_peek N n σ (xs (ix (v4 + 1))) (xs (ix (v4 + 2)))) (t_X11_peek N n σ (xs (ix (v4 + 1))) (xs (ix (v4 + 2)))) (fun r1 σ1 => gb (v4 + 1) L (gb (v4 + 2) L (bd (f_X12_peek N n (sg σ1 102 (ix 0) r1) (xs (ix (v4 + 1))) (xs (ix (v4 + 2)))) (fun r165 σ166 => rec σ166 n acc (v4 + 4))))) (fun r1 σ1 => gac (acc + 6) (gb (v4 + 1) L (gb (v4 + 2) L (bd (f_X12_peek N n σ1 (xs (ix (v4 + 1))) (xs (ix (v4 + 2)))) (fun r170 σ171 => rec σ171 n (acc + 6) (v4 + 4))))))))) else (if ((xs (ix v4)) &&& 31) = 17 then (gb (v4 + 1) L (bd (f_X11_count N n σ (xs (ix (v4 + 1)))) (fun r175 σ176 => gb (v4 + 1) L (bd (f_X12_count N n σ176 (xs (ix (v4 + 1)))) (fun r179 σ180 => rec σ180 n acc (v4 + 4)))))) else (rec σ n acc (v4 + 4)))))))))))))))))))))
def ll (N L : Nat) (xs : Nat → Int32) : Nat → Sg → Nat → Nat → Int32 → Option Int32
  | 0 => fun _ _ _ _ => none
  | k + 1 => lb_law N L xs (ll N L xs k)
set_option maxHeartbeats 4000000 in
set_option maxRecDepth 100000 in
theorem lp_law {p : Program} {l : Launch} (hst : l.stackTraces = false) {e : Env} {s : State} {m : MethodId} {below : List Frame} {meth : Method} {c : Code} {b L : Nat} {xs : Nat → Int32} {Q : State → Prop} {A : Nat → Prop} {g : GG} {N : Nat}
    (hx : p.tables.exec = Jvm.exec) (hb : c.code = cL_law) (hml : c.maxLocals = 7) (hown : s.vm.findClass RL = some m.cls) (hts : ∀ w ∈ TL, w.before #[Value.ref b] s = true) (hK : va_K g.1 vwCl (gt g) s) (hN : nw_all s) (hZ : xz g A s s.heap) (hA : ∀ x, s.heap.size ≤ x → A x)
    (hScr : va_X b L xs s s.heap) (hbl : b < s.heap.size) (hbA : ¬ A b)
    (hR : ∀ (H : Heap) (locs : List Loc) (ls : Array Slot) (cells slots : Nat), va_S A s.heap H locs → cells ≤ 601024 → slots ≤ 7293034 → W p l e room_1 s m #[Value.ref b] below meth c H locs cells slots Q (F0 m 669 ls [.int 1])) :
    ∀ (k : Nat) (σ : Sg) (q n acc : Nat) (v4 : Int32) (H : Heap) (locs : List Loc) (ls : Array Slot), ll N L xs k σ n acc v4 = some 1 → wI g q n σ A s.heap H locs → lv_has ls 7 [(0, .ref b), (1, .ref (ga g 0)), (2, .ref (ga g 59)), (3, .ref (ga g 102)), (4, .int v4)] → acc ≤ 500000 → W p l e room_1 s m #[Value.ref b] below meth c H locs (1000 + acc) (100000 + acc) Q (F0 m 23 ls []) := by
  have ht : ∀ w ∈ BIG, w.before #[Value.ref b] s = true := fun w h => hts w (TL_big h)
  have hX : CallFix p m c cL_law 7 s #[Value.ref b] BIG RL := ⟨hx, hb, hml, hown, ht⟩
  intro k
  induction k with
  | zero => intro σ q n acc v4 H locs ls hm; exact nomatch (show none = some (1 : Int32) from hm)
  | succ k ih =>
    intro σ q n acc v4 H locs ls hm hI hl hacc
    have hm : lb_law N L xs (ll N L xs k) σ n acc v4 = some 1 := hm
    unfold lb_law at hm
    refine lv_iload hx hb dL_law_23 (lv_at hl 4 rfl) ?_
    refine lv_aload_n hx hb dL_law_25 rfl (lv_at hl 0 rfl) ?_
    refine va_slen hx hb hScr hbl hbA hI.2.2 dL_law_26 ?_
    refine lv_iconst (v := 4) hx hb dL_law_27 (by decide) ?_
    refine lv_isub hx hb dL_law_28 ?_
    refine lv_icmp_gt (tgt := 668) hx hb dL_law_29 (by decide) (fun c1 => ?_) (fun c1 => ?_)
    · have hm := (if_pos c1).symm.trans hm
      refine lv_iconst (v := 1) hx hb dL_law_668 (by decide) ?_
      exact hR _ _ _ _ _ hI.2.2 (by omega) (by omega)
    · have hm := (if_neg c1).symm.trans hm
      refine lv_aload_n hx hb dL_law_32 rfl (lv_at hl 0 rfl) ?_
      refine lv_iload hx hb dL_law_33 (lv_at hl 4 rfl) ?_
      obtain ⟨g2, hm⟩ := gb_some hm
      refine sl_ld hx hb hScr hbl hbA hI.2.2 g2 dL_law_35 ?_
      refine lv_bipush (v := 31) hx hb dL_law_36 (by decide) ?_
      refine lv_iand hx hb dL_law_38 ?_
      by_cases c3 : ((xs (ix v4)) &&& 31) = 0
      · have hm := (if_pos c3).symm.trans hm
        refine lv_tableIn (off := 85) (tgt := 124) hx hb dL_law_39 (by (rw [c3]; decide)) (by (rw [c3]; decide)) (by (rw [c3]; rfl)) (by decide) ?_
        refine lv_aload_n hx hb dL_law_124 rfl (lv_at hl 1 rfl) ?_
        refine lv_aload_n hx hb dL_law_125 rfl (lv_at hl 0 rfl) ?_
        refine lv_iload hx hb dL_law_126 (lv_at hl 4 rfl) ?_
        refine lv_iconst (v := 1) hx hb dL_law_128 (by decide) ?_
        refine lv_iadd hx hb dL_law_129 ?_
        obtain ⟨g4, hm⟩ := gb_some hm
        refine sl_ld hx hb hScr hbl hbA hI.2.2 g4 dL_law_130 ?_
        refine lv_aload_n hx hb dL_law_131 rfl (lv_at hl 0 rfl) ?_
        refine lv_iload hx hb dL_law_132 (lv_at hl 4 rfl) ?_
        refine lv_iconst (v := 2) hx hb dL_law_134 (by decide) ?_
        refine lv_iadd hx hb dL_law_135 ?_
        obtain ⟨g5, hm⟩ := gb_some hm
        refine sl_ld hx hb hScr hbl hbA hI.2.2 g5 dL_law_136 ?_
        obtain ⟨r6, σ7, h8, hm⟩ := bd_some hm
        refine k_i hI hA (va_runV (As := [.int (xs (ix (v4 + 1))), .int (xs (ix (v4 + 2)))]) (rest := []) hX (c_X11_func N n h8 _) (cwV 2 ht (in_V mw_1106 mw_1107 mw_1108 mw_267 mw_669) rfl rfl rfl pd_X11_func ⟨Nat.le_of_ble_eq_true rfl, Nat.le_of_ble_eq_true rfl⟩) ⟨q_blind, va_recv hK hI.1 (ci := 10) (q0 := 0) rfl rfl, q_to hI hK hN hZ hA⟩ rfl rfl hl.1 rfl (lv_room (Nat.le_of_ble_eq_true rfl)) dL_law_137 ⟨by show 1000 + (acc) + 0 ≤ 601024; omega, by show 100000 + (acc) + 0 ≤ 7293034; omega⟩) (fun H locs hI => ?_)
        refine lv_pop hx hb dL_law_140 rfl ?_
        refine lv_aload_n hx hb dL_law_141 rfl (lv_at hl 2 rfl) ?_
        refine lv_aload_n hx hb dL_law_142 rfl (lv_at hl 0 rfl) ?_
        refine lv_iload hx hb dL_law_143 (lv_at hl 4 rfl) ?_
        refine lv_iconst (v := 1) hx hb dL_law_145 (by decide) ?_
        refine lv_iadd hx hb dL_law_146 ?_
        obtain ⟨g9, hm⟩ := gb_some hm
        refine sl_ld hx hb hScr hbl hbA hI.2.2 g9 dL_law_147 ?_
        refine lv_aload_n hx hb dL_law_148 rfl (lv_at hl 0 rfl) ?_
        refine lv_iload hx hb dL_law_149 (lv_at hl 4 rfl) ?_
        refine lv_iconst (v := 2) hx hb dL_law_151 (by decide) ?_
        refine lv_iadd hx hb dL_law_152 ?_
        obtain ⟨g10, hm⟩ := gb_some hm
        refine sl_ld hx hb hScr hbl hbA hI.2.2 g10 dL_law_153 ?_
        obtain ⟨r11, σ12, h13, hm⟩ := bd_some hm
        refine k_i hI hA (va_runV (As := [.int (xs (ix (v4 + 1))), .int (xs (ix (v4 + 2)))]) (rest := []) hX (c_X12_func N n h13 _) (cwV 2 ht (in_V mw_1109 mw_1110 mw_1111 mw_861 mw_850) rfl rfl rfl pd_X12_func ⟨Nat.le_of_ble_eq_true rfl, Nat.le_of_ble_eq_true rfl⟩) ⟨q_blind, va_recv hK hI.1 (ci := 11) (q0 := 59) rfl rfl, q_to hI hK hN hZ hA⟩ rfl rfl hl.1 rfl (lv_room (Nat.le_of_ble_eq_true rfl)) dL_law_154 ⟨by show 1000 + (acc) + 0 ≤ 601024; omega, by show 100000 + (acc) + 0 ≤ 7293034; omega⟩) (fun H locs hI => ?_)
        refine lv_pop hx hb dL_law_157 rfl ?_
        refine lv_goto (tgt := 662) hx hb dL_law_158 (by decide) ?_
        refine lv_iinc (v := v4 + 4) (lv' := [(4, .int (v4 + 4)), (0, .ref b), (1, .ref (ga g 0)), (2, .ref (ga g 59)), (3, .ref (ga g 102))]) hx hb dL_law_662 hl (k := 4) rfl (congrArg (fun z => v4 + z) (show Int32.ofInt 4 = 4 by decide)) (by decide) rfl (fun ls hl => ?_)
        refine lv_goto (tgt := 23) hx hb dL_law_665 (by decide) ?_
        exact ih σ12 _ _ _ _ _ _ _ hm hI (lv_sub hl [1, 2, 3, 4, 0] rfl) hacc
      have hm := (if_neg c3).symm.trans hm
      by_cases c14 : ((xs (ix v4)) &&& 31) = 1
      · have hm := (if_pos c14).symm.trans hm
        refine lv_tableIn (off := 122) (tgt := 161) hx hb dL_law_39 (by (rw [c14]; decide)) (by (rw [c14]; decide)) (by (rw [c14]; rfl)) (by decide) ?_
        refine lv_aload_n hx hb dL_law_161 rfl (lv_at hl 1 rfl) ?_
        refine lv_aload_n hx hb dL_law_162 rfl (lv_at hl 0 rfl) ?_
        refine lv_iload hx hb dL_law_163 (lv_at hl 4 rfl) ?_
        refine lv_iconst (v := 1) hx hb dL_law_165 (by decide) ?_
        refine lv_iadd hx hb dL_law_166 ?_
        obtain ⟨g15, hm⟩ := gb_some hm
        refine sl_ld hx hb hScr hbl hbA hI.2.2 g15 dL_law_167 ?_
        refine lv_aload_n hx hb dL_law_168 rfl (lv_at hl 0 rfl) ?_
        refine lv_iload hx hb dL_law_169 (lv_at hl 4 rfl) ?_
        refine lv_iconst (v := 2) hx hb dL_law_171 (by decide) ?_
        refine lv_iadd hx hb dL_law_172 ?_
        obtain ⟨g16, hm⟩ := gb_some hm
        refine sl_ld hx hb hScr hbl hbA hI.2.2 g16 dL_law_173 ?_
        obtain ⟨r17, σ18, h19, hm⟩ := bd_some hm
        refine k_i hI hA (va_runV (As := [.int (xs (ix (v4 + 1))), .int (xs (ix (v4 + 2)))]) (rest := []) hX (c_X11_word N n h19 _) (cwV 2 ht (in_V mw_1112 mw_1113 mw_1114 mw_267 mw_675) rfl rfl rfl pd_X11_word ⟨Nat.le_of_ble_eq_true rfl, Nat.le_of_ble_eq_true rfl⟩) ⟨q_blind, va_recv hK hI.1 (ci := 10) (q0 := 0) rfl rfl, q_to hI hK hN hZ hA⟩ rfl rfl hl.1 rfl (lv_room (Nat.le_of_ble_eq_true rfl)) dL_law_174 ⟨by show 1000 + (acc) + 0 ≤ 601024; omega, by show 100000 + (acc) + 0 ≤ 7293034; omega⟩) (fun H locs hI => ?_)
        refine lv_pop hx hb dL_law_177 rfl ?_
        refine lv_aload_n hx hb dL_law_178 rfl (lv_at hl 2 rfl) ?_
        refine lv_aload_n hx hb dL_law_179 rfl (lv_at hl 0 rfl) ?_
        refine lv_iload hx hb dL_law_180 (lv_at hl 4 rfl) ?_
        refine lv_iconst (v := 1) hx hb dL_law_182 (by decide) ?_
        refine lv_iadd hx hb dL_law_183 ?_
        obtain ⟨g20, hm⟩ := gb_some hm
        refine sl_ld hx hb hScr hbl hbA hI.2.2 g20 dL_law_184 ?_
        refine lv_aload_n hx hb dL_law_185 rfl (lv_at hl 0 rfl) ?_
        refine lv_iload hx hb dL_law_186 (lv_at hl 4 rfl) ?_
        refine lv_iconst (v := 2) hx hb dL_law_188 (by decide) ?_
        refine lv_iadd hx hb dL_law_189 ?_
        obtain ⟨g21, hm⟩ := gb_some hm
        refine sl_ld hx hb hScr hbl hbA hI.2.2 g21 dL_law_190 ?_
        obtain ⟨r22, σ23, h24, hm⟩ := bd_some hm
        refine k_i hI hA (va_runV (As := [.int (xs (ix (v4 + 1))), .int (xs (ix (v4 + 2)))]) (rest := []) hX (c_X12_word N n h24 _) (cwV 2 ht (in_V mw_1115 mw_1116 mw_1117 mw_861 mw_855) rfl rfl rfl pd_X12_word ⟨Nat.le_of_ble_eq_true rfl, Nat.le_of_ble_eq_true rfl⟩) ⟨q_blind, va_recv hK hI.1 (ci := 11) (q0 := 59) rfl rfl, q_to hI hK hN hZ hA⟩ rfl rfl hl.1 rfl (lv_room (Nat.le_of_ble_eq_true rfl)) dL_law_191 ⟨by show 1000 + (acc) + 0 ≤ 601024; omega, by show 100000 + (acc) + 0 ≤ 7293034; omega⟩) (fun H locs hI => ?_)
        refine lv_pop hx hb dL_law_194 rfl ?_
        refine lv_goto (tgt := 662) hx hb dL_law_195 (by decide) ?_
        refine lv_iinc (v := v4 + 4) (lv' := [(4, .int (v4 + 4)), (0, .ref b), (1, .ref (ga g 0)), (2, .ref (ga g 59)), (3, .ref (ga g 102))]) hx hb dL_law_662 hl (k := 4) rfl (congrArg (fun z => v4 + z) (show Int32.ofInt 4 = 4 by decide)) (by decide) rfl (fun ls hl => ?_)
        refine lv_goto (tgt := 23) hx hb dL_law_665 (by decide) ?_
        exact ih σ23 _ _ _ _ _ _ _ hm hI (lv_sub hl [1, 2, 3, 4, 0] rfl) hacc
      have hm := (if_neg c14).symm.trans hm
      by_cases c25 : ((xs (ix v4)) &&& 31) = 2
      · have hm := (if_pos c25).symm.trans hm
        refine lv_tableIn (off := 159) (tgt := 198) hx hb dL_law_39 (by (rw [c25]; decide)) (by (rw [c25]; decide)) (by (rw [c25]; rfl)) (by decide) ?_
        refine lv_aload_n hx hb dL_law_198 rfl (lv_at hl 1 rfl) ?_
        obtain ⟨r26, σ27, h28, hm⟩ := bd_some hm
        refine k_i hI hA (va_runV (As := []) (rest := []) hX (c_X11_check N n h28 _) (cwV 0 ht (in_V mw_1118 mw_1119 mw_1120 mw_267 mw_683) rfl rfl rfl pd_X11_check ⟨Nat.le_of_ble_eq_true rfl, Nat.le_of_ble_eq_true rfl⟩) ⟨q_blind, va_recv hK hI.1 (ci := 10) (q0 := 0) rfl rfl, q_to hI hK hN hZ hA⟩ rfl rfl hl.1 rfl (lv_room (Nat.le_of_ble_eq_true rfl)) dL_law_199 ⟨by show 1000 + (acc) + 0 ≤ 601024; omega, by show 100000 + (acc) + 0 ≤ 7293034; omega⟩) (fun H locs hI => ?_)
        refine lv_pop hx hb dL_law_202 rfl ?_
        refine lv_aload_n hx hb dL_law_203 rfl (lv_at hl 2 rfl) ?_
        obtain ⟨r29, σ30, h31, hm⟩ := bd_some hm
        refine k_i hI hA (va_runV (As := []) (rest := []) hX (c_X12_check N n h31 _) (cwV 0 ht (in_V mw_1121 mw_1122 mw_1123 mw_861 mw_885) rfl rfl rfl pd_X12_check ⟨Nat.le_of_ble_eq_true rfl, Nat.le_of_ble_eq_true rfl⟩) ⟨q_blind, va_recv hK hI.1 (ci := 11) (q0 := 59) rfl rfl, q_to hI hK hN hZ hA⟩ rfl rfl hl.1 rfl (lv_room (Nat.le_of_ble_eq_true rfl)) dL_law_204 ⟨by show 1000 + (acc) + 0 ≤ 601024; omega, by show 100000 + (acc) + 0 ≤ 7293034; omega⟩) (fun H locs hI => ?_)
        refine lv_pop hx hb dL_law_207 rfl ?_
        refine lv_goto (tgt := 662) hx hb dL_law_208 (by decide) ?_
        refine lv_iinc (v := v4 + 4) (lv' := [(4, .int (v4 + 4)), (0, .ref b), (1, .ref (ga g 0)), (2, .ref (ga g 59)), (3, .ref (ga g 102))]) hx hb dL_law_662 hl (k := 4) rfl (congrArg (fun z => v4 + z) (show Int32.ofInt 4 = 4 by decide)) (by decide) rfl (fun ls hl => ?_)
        refine lv_goto (tgt := 23) hx hb dL_law_665 (by decide) ?_
        exact ih σ30 _ _ _ _ _ _ _ hm hI (lv_sub hl [1, 2, 3, 4, 0] rfl) hacc
      have hm := (if_neg c25).symm.trans hm
      by_cases c32 : ((xs (ix v4)) &&& 31) = 3
      · have hm := (if_pos c32).symm.trans hm
        refine lv_tableIn (off := 172) (tgt := 211) hx hb dL_law_39 (by (rw [c32]; decide)) (by (rw [c32]; decide)) (by (rw [c32]; rfl)) (by decide) ?_
        refine lv_aload_n hx hb dL_law_211 rfl (lv_at hl 1 rfl) ?_
        refine lv_aload_n hx hb dL_law_212 rfl (lv_at hl 0 rfl) ?_
        refine lv_iload hx hb dL_law_213 (lv_at hl 4 rfl) ?_
        refine lv_iconst (v := 1) hx hb dL_law_215 (by decide) ?_
        refine lv_iadd hx hb dL_law_216 ?_
        obtain ⟨g33, hm⟩ := gb_some hm
        refine sl_ld hx hb hScr hbl hbA hI.2.2 g33 dL_law_217 ?_
        refine lv_aload_n hx hb dL_law_218 rfl (lv_at hl 0 rfl) ?_
        refine lv_iload hx hb dL_law_219 (lv_at hl 4 rfl) ?_
        refine lv_iconst (v := 2) hx hb dL_law_221 (by decide) ?_
        refine lv_iadd hx hb dL_law_222 ?_
        obtain ⟨g34, hm⟩ := gb_some hm
        refine sl_ld hx hb hScr hbl hbA hI.2.2 g34 dL_law_223 ?_
        obtain ⟨r35, σ36, h37, hm⟩ := bd_some hm
        refine k_i hI hA (va_runV (As := [.int (xs (ix (v4 + 1))), .int (xs (ix (v4 + 2)))]) (rest := []) hX (c_X11_depth N n h37 _) (cwV 2 ht (in_V mw_1124 mw_1125 mw_1126 mw_267 mw_684) rfl rfl rfl pd_X11_depth ⟨Nat.le_of_ble_eq_true rfl, Nat.le_of_ble_eq_true rfl⟩) ⟨q_blind, va_recv hK hI.1 (ci := 10) (q0 := 0) rfl rfl, q_to hI hK hN hZ hA⟩ rfl rfl hl.1 rfl (lv_room (Nat.le_of_ble_eq_true rfl)) dL_law_224 ⟨by show 1000 + (acc) + 0 ≤ 601024; omega, by show 100000 + (acc) + 0 ≤ 7293034; omega⟩) (fun H locs hI => ?_)
        refine lv_pop hx hb dL_law_227 rfl ?_
        refine lv_aload_n hx hb dL_law_228 rfl (lv_at hl 2 rfl) ?_
        refine lv_aload_n hx hb dL_law_229 rfl (lv_at hl 0 rfl) ?_
        refine lv_iload hx hb dL_law_230 (lv_at hl 4 rfl) ?_
        refine lv_iconst (v := 1) hx hb dL_law_232 (by decide) ?_
        refine lv_iadd hx hb dL_law_233 ?_
        obtain ⟨g38, hm⟩ := gb_some hm
        refine sl_ld hx hb hScr hbl hbA hI.2.2 g38 dL_law_234 ?_
        refine lv_aload_n hx hb dL_law_235 rfl (lv_at hl 0 rfl) ?_
        refine lv_iload hx hb dL_law_236 (lv_at hl 4 rfl) ?_
        refine lv_iconst (v := 2) hx hb dL_law_238 (by decide) ?_
        refine lv_iadd hx hb dL_law_239 ?_
        obtain ⟨g39, hm⟩ := gb_some hm
        refine sl_ld hx hb hScr hbl hbA hI.2.2 g39 dL_law_240 ?_
        obtain ⟨r40, σ41, h42, hm⟩ := bd_some hm
        refine k_i hI hA (va_runV (As := [.int (xs (ix (v4 + 1))), .int (xs (ix (v4 + 2)))]) (rest := []) hX (c_X12_depth N n h42 _) (cwV 2 ht (in_V mw_1127 mw_1128 mw_1129 mw_861 mw_886) rfl rfl rfl pd_X12_depth ⟨Nat.le_of_ble_eq_true rfl, Nat.le_of_ble_eq_true rfl⟩) ⟨q_blind, va_recv hK hI.1 (ci := 11) (q0 := 59) rfl rfl, q_to hI hK hN hZ hA⟩ rfl rfl hl.1 rfl (lv_room (Nat.le_of_ble_eq_true rfl)) dL_law_241 ⟨by show 1000 + (acc) + 0 ≤ 601024; omega, by show 100000 + (acc) + 0 ≤ 7293034; omega⟩) (fun H locs hI => ?_)
        refine lv_pop hx hb dL_law_244 rfl ?_
        refine lv_goto (tgt := 662) hx hb dL_law_245 (by decide) ?_
        refine lv_iinc (v := v4 + 4) (lv' := [(4, .int (v4 + 4)), (0, .ref b), (1, .ref (ga g 0)), (2, .ref (ga g 59)), (3, .ref (ga g 102))]) hx hb dL_law_662 hl (k := 4) rfl (congrArg (fun z => v4 + z) (show Int32.ofInt 4 = 4 by decide)) (by decide) rfl (fun ls hl => ?_)
        refine lv_goto (tgt := 23) hx hb dL_law_665 (by decide) ?_
        exact ih σ41 _ _ _ _ _ _ _ hm hI (lv_sub hl [1, 2, 3, 4, 0] rfl) hacc
      have hm := (if_neg c32).symm.trans hm
      by_cases c43 : ((xs (ix v4)) &&& 31) = 4
      · have hm := (if_pos c43).symm.trans hm
        refine lv_tableIn (off := 209) (tgt := 248) hx hb dL_law_39 (by (rw [c43]; decide)) (by (rw [c43]; decide)) (by (rw [c43]; rfl)) (by decide) ?_
        refine lv_aload_n hx hb dL_law_248 rfl (lv_at hl 1 rfl) ?_
        obtain ⟨r44, σ45, h46, hm⟩ := bd_some hm
        refine k_v hI hA (va_runV (As := []) (rest := []) hX (c_X11_clear N n h46 _) (cwV 0 ht (in_V mw_1130 mw_1131 mw_1132 mw_267 mw_704) rfl rfl rfl pd_X11_clear ⟨Nat.le_of_ble_eq_true rfl, Nat.le_of_ble_eq_true rfl⟩) ⟨q_blind, va_recv hK hI.1 (ci := 10) (q0 := 0) rfl rfl, q_to hI hK hN hZ hA⟩ rfl rfl hl.1 rfl (lv_room (Nat.le_of_ble_eq_true rfl)) dL_law_249 ⟨by show 1000 + (acc) + 0 ≤ 601024; omega, by show 100000 + (acc) + 0 ≤ 7293034; omega⟩) (fun H locs hI => ?_)
        refine lv_aload_n hx hb dL_law_252 rfl (lv_at hl 2 rfl) ?_
        obtain ⟨r47, σ48, h49, hm⟩ := bd_some hm
        refine k_v hI hA (va_runV (As := []) (rest := []) hX (c_X12_clear N n h49 _) (cwV 0 ht (in_V mw_1133 mw_1134 mw_1135 mw_861 mw_1075) rfl rfl rfl pd_X12_clear ⟨Nat.le_of_ble_eq_true rfl, Nat.le_of_ble_eq_true rfl⟩) ⟨q_blind, va_recv hK hI.1 (ci := 11) (q0 := 59) rfl rfl, q_to hI hK hN hZ hA⟩ rfl rfl hl.1 rfl (lv_room (Nat.le_of_ble_eq_true rfl)) dL_law_253 ⟨by show 1000 + (acc) + 0 ≤ 601024; omega, by show 100000 + (acc) + 0 ≤ 7293034; omega⟩) (fun H locs hI => ?_)
        refine lv_goto (tgt := 662) hx hb dL_law_256 (by decide) ?_
        refine lv_iinc (v := v4 + 4) (lv' := [(4, .int (v4 + 4)), (0, .ref b), (1, .ref (ga g 0)), (2, .ref (ga g 59)), (3, .ref (ga g 102))]) hx hb dL_law_662 hl (k := 4) rfl (congrArg (fun z => v4 + z) (show Int32.ofInt 4 = 4 by decide)) (by decide) rfl (fun ls hl => ?_)
        refine lv_goto (tgt := 23) hx hb dL_law_665 (by decide) ?_
        exact ih σ48 _ _ _ _ _ _ _ hm hI (lv_sub hl [1, 2, 3, 4, 0] rfl) hacc
      have hm := (if_neg c43).symm.trans hm
      by_cases c50 : ((xs (ix v4)) &&& 31) = 5
      · have hm := (if_pos c50).symm.trans hm
        refine lv_tableIn (off := 220) (tgt := 259) hx hb dL_law_39 (by (rw [c50]; decide)) (by (rw [c50]; decide)) (by (rw [c50]; rfl)) (by decide) ?_
        refine lv_aload_n hx hb dL_law_259 rfl (lv_at hl 1 rfl) ?_
        refine lv_aload_n hx hb dL_law_260 rfl (lv_at hl 0 rfl) ?_
        refine lv_iload hx hb dL_law_261 (lv_at hl 4 rfl) ?_
        refine lv_iconst (v := 1) hx hb dL_law_263 (by decide) ?_
        refine lv_iadd hx hb dL_law_264 ?_
        obtain ⟨g51, hm⟩ := gb_some hm
        refine sl_ld hx hb hScr hbl hbA hI.2.2 g51 dL_law_265 ?_
        obtain ⟨r1, σ1, n1, d1, h1, hm⟩ := bmr_some hm
        obtain ⟨hac, hm⟩ := gac_some hm
        refine k_n hI hA (va_runV (As := [.int (xs (ix (v4 + 1)))]) (rest := []) hX (c_X11_turn N n h1 _) (cwV 1 ht (in_V mw_1136 mw_1137 mw_1138 mw_267 mw_712) rfl rfl rfl pd_X11_turn ⟨Nat.le_of_ble_eq_true rfl, Nat.le_of_ble_eq_true rfl⟩) ⟨q_blind, va_recv hK hI.1 (ci := 10) (q0 := 0) rfl rfl, q_to hI hK hN hZ hA⟩ rfl rfl hl.1 rfl (lv_room (Nat.le_of_ble_eq_true rfl)) dL_law_266 ⟨by show 1000 + (acc) + d1 ≤ 601024; omega, by show 100000 + (acc) + d1 ≤ 7293034; omega⟩) (fun q1 H locs hI => ?_)
        refine W.widen (k := 1000 + (acc + d1)) (n := 100000 + (acc + d1)) (by omega) (by omega) ?_
        refine lv_pop hx hb dL_law_269 rfl ?_
        refine lv_aload_n hx hb dL_law_270 rfl (lv_at hl 2 rfl) ?_
        refine lv_aload_n hx hb dL_law_271 rfl (lv_at hl 0 rfl) ?_
        refine lv_iload hx hb dL_law_272 (lv_at hl 4 rfl) ?_
        refine lv_iconst (v := 1) hx hb dL_law_274 (by decide) ?_
        refine lv_iadd hx hb dL_law_275 ?_
        obtain ⟨g52, hm⟩ := gb_some hm
        refine sl_ld hx hb hScr hbl hbA hI.2.2 g52 dL_law_276 ?_
        obtain ⟨r53, σ54, h55, hm⟩ := bd_some hm
        refine k_i hI hA (va_runV (As := [.int (xs (ix (v4 + 1)))]) (rest := []) hX (c_X12_turn N _ h55 _) (cwV 1 ht (in_V mw_1139 mw_1140 mw_1141 mw_861 mw_1007) rfl rfl rfl pd_X12_turn ⟨Nat.le_of_ble_eq_true rfl, Nat.le_of_ble_eq_true rfl⟩) ⟨q_blind, va_recv hK hI.1 (ci := 11) (q0 := 59) rfl rfl, q_to hI hK hN hZ hA⟩ rfl rfl hl.1 rfl (lv_room (Nat.le_of_ble_eq_true rfl)) dL_law_277 ⟨by show 1000 + (acc + d1) + 0 ≤ 601024; omega, by show 100000 + (acc + d1) + 0 ≤ 7293034; omega⟩) (fun H locs hI => ?_)
        refine lv_pop hx hb dL_law_280 rfl ?_
        refine lv_goto (tgt := 662) hx hb dL_law_281 (by decide) ?_
        refine lv_iinc (v := v4 + 4) (lv' := [(4, .int (v4 + 4)), (0, .ref b), (1, .ref (ga g 0)), (2, .ref (ga g 59)), (3, .ref (ga g 102))]) hx hb dL_law_662 hl (k := 4) rfl (congrArg (fun z => v4 + z) (show Int32.ofInt 4 = 4 by decide)) (by decide) rfl (fun ls hl => ?_)
        refine lv_goto (tgt := 23) hx hb dL_law_665 (by decide) ?_
        exact ih σ54 _ _ _ _ _ _ _ hm hI (lv_sub hl [1, 2, 3, 4, 0] rfl) hac
      have hm := (if_neg c50).symm.trans hm
      by_cases c56 : ((xs (ix v4)) &&& 31) = 6
      · have hm := (if_pos c56).symm.trans hm
        refine lv_tableIn (off := 245) (tgt := 284) hx hb dL_law_39 (by (rw [c56]; decide)) (by (rw [c56]; decide)) (by (rw [c56]; rfl)) (by decide) ?_
        refine lv_aload_n hx hb dL_law_284 rfl (lv_at hl 1 rfl) ?_
        refine lv_aload_n hx hb dL_law_285 rfl (lv_at hl 0 rfl) ?_
        refine lv_iload hx hb dL_law_286 (lv_at hl 4 rfl) ?_
        refine lv_iconst (v := 1) hx hb dL_law_288 (by decide) ?_
        refine lv_iadd hx hb dL_law_289 ?_
        obtain ⟨g57, hm⟩ := gb_some hm
        refine sl_ld hx hb hScr hbl hbA hI.2.2 g57 dL_law_290 ?_
        refine lv_aload_n hx hb dL_law_291 rfl (lv_at hl 0 rfl) ?_
        refine lv_iload hx hb dL_law_292 (lv_at hl 4 rfl) ?_
        refine lv_iconst (v := 2) hx hb dL_law_294 (by decide) ?_
        refine lv_iadd hx hb dL_law_295 ?_
        obtain ⟨g58, hm⟩ := gb_some hm
        refine sl_ld hx hb hScr hbl hbA hI.2.2 g58 dL_law_296 ?_
        refine lv_aload_n hx hb dL_law_297 rfl (lv_at hl 0 rfl) ?_
        refine lv_iload hx hb dL_law_298 (lv_at hl 4 rfl) ?_
        refine lv_iconst (v := 3) hx hb dL_law_300 (by decide) ?_
        refine lv_iadd hx hb dL_law_301 ?_
        obtain ⟨g59, hm⟩ := gb_some hm
        refine sl_ld hx hb hScr hbl hbA hI.2.2 g59 dL_law_302 ?_
        refine lv_aload_n hx hb dL_law_303 rfl (lv_at hl 3 rfl) ?_
        rcases bop_some hm with ⟨r1, σ1, h1, hm⟩ | ⟨r1, σ1, h1, hm⟩
        · skip
          refine k_w hI hA (vx_runSW (As := [.ref (ga g 0), .int (xs (ix (v4 + 1))), .int (xs (ix (v4 + 2))), .int (xs (ix (v4 + 3))), .ref (ga g 102)]) (rest := []) ⟨hx, hb, hml, hown, hts⟩ (c_L_op_a hst N n h1 _) (vx_cwSW 5 hts in_L_op rfl rfl rfl (by decide +kernel) ⟨Nat.le_of_ble_eq_true rfl, Nat.le_of_ble_eq_true rfl⟩) ⟨q_blind, q_to hI hK hN hZ hA⟩ rfl rfl hl.1 rfl (lv_room (Nat.le_of_ble_eq_true rfl)) dL_law_304 ⟨by show 1000 + (acc) + 0 ≤ 601024; omega, by show 100000 + (acc) + 0 ≤ 7293034; omega⟩) (fun H locs hI => ?_)
          refine lv_istore (lv' := [(5, .int 0), (0, .ref b), (1, .ref (ga g 0)), (2, .ref (ga g 59)), (3, .ref (ga g 102)), (4, .int v4)]) hx hb dL_law_307 hl (by decide) rfl (fun ls hl => ?_)
          refine lv_aload_n hx hb dL_law_309 rfl (lv_at hl 3 rfl) ?_
          refine lv_aload_n hx hb dL_law_310 rfl (lv_at hl 1 rfl) ?_
          refine lv_iload hx hb dL_law_311 (lv_at hl 5 rfl) ?_
          refine lv_iconst (v := 1) hx hb dL_law_313 (by decide) ?_
          refine lv_iadd hx hb dL_law_314 ?_
          obtain ⟨g60, hm⟩ := gb_some hm
          refine sl_ld hx hb hScr hbl hbA hI.2.2 g60 dL_law_315 ?_
          refine lv_aload_n hx hb dL_law_316 rfl (lv_at hl 1 rfl) ?_
          refine lv_iload hx hb dL_law_317 (lv_at hl 5 rfl) ?_
          refine lv_iconst (v := 2) hx hb dL_law_319 (by decide) ?_
          refine lv_iadd hx hb dL_law_320 ?_
          obtain ⟨g61, hm⟩ := gb_some hm
          refine sl_ld hx hb hScr hbl hbA hI.2.2 g61 dL_law_321 ?_
          refine lv_aload_n hx hb dL_law_322 rfl (lv_at hl 1 rfl) ?_
          refine lv_iload hx hb dL_law_323 (lv_at hl 5 rfl) ?_
          refine lv_iconst (v := 3) hx hb dL_law_325 (by decide) ?_
          refine lv_iadd hx hb dL_law_326 ?_
          obtain ⟨g62, hm⟩ := gb_some hm
          refine sl_ld hx hb hScr hbl hbA hI.2.2 g62 dL_law_327 ?_
          obtain ⟨r63, σ64, h65, hm⟩ := bd_some hm
          refine k_i hI hA (va_runV (As := [.int (xs (ix (v4 + 1))), .int (xs (ix (v4 + 2))), .int (xs (ix (v4 + 3)))]) (rest := []) hX (c_X12_op N n h65 _) (cwV 3 ht (in_V mw_1145 mw_1146 mw_1147 mw_861 mw_1076) rfl rfl rfl pd_X12_op ⟨Nat.le_of_ble_eq_true rfl, Nat.le_of_ble_eq_true rfl⟩) ⟨q_blind, va_recv hK hI.1 (ci := 11) (q0 := 59) rfl rfl, q_to hI hK hN hZ hA⟩ rfl rfl hl.1 rfl (lv_room (Nat.le_of_ble_eq_true rfl)) dL_law_328 ⟨by show 1000 + (acc) + 0 ≤ 601024; omega, by show 100000 + (acc) + 0 ≤ 7293034; omega⟩) (fun H locs hI => ?_)
          refine lv_istore (lv' := [(6, .int r63), (5, .int 0), (0, .ref b), (1, .ref (ga g 0)), (2, .ref (ga g 59)), (3, .ref (ga g 102)), (4, .int v4)]) hx hb dL_law_331 hl (by decide) rfl (fun ls hl => ?_)
          refine lv_goto (tgt := 662) hx hb dL_law_333 (by decide) ?_
          refine lv_iinc (v := v4 + 4) (lv' := [(4, .int (v4 + 4)), (6, .int r63), (5, .int 0), (0, .ref b), (1, .ref (ga g 0)), (2, .ref (ga g 59)), (3, .ref (ga g 102))]) hx hb dL_law_662 hl (k := 6) rfl (congrArg (fun z => v4 + z) (show Int32.ofInt 4 = 4 by decide)) (by decide) rfl (fun ls hl => ?_)
          refine lv_goto (tgt := 23) hx hb dL_law_665 (by decide) ?_
          exact ih σ64 _ _ _ _ _ _ _ hm hI (lv_sub hl [3, 4, 5, 6, 0] rfl) hacc
        · obtain ⟨hac, hm⟩ := gac_some hm
          refine k_w hI hA (vx_runSW (As := [.ref (ga g 0), .int (xs (ix (v4 + 1))), .int (xs (ix (v4 + 2))), .int (xs (ix (v4 + 3))), .ref (ga g 102)]) (rest := []) ⟨hx, hb, hml, hown, hts⟩ (c_L_op_b hst N n h1 _) (vx_cwSW 5 hts in_L_op rfl rfl rfl (by decide +kernel) ⟨Nat.le_of_ble_eq_true rfl, Nat.le_of_ble_eq_true rfl⟩) ⟨q_blind, q_to hI hK hN hZ hA⟩ rfl rfl hl.1 rfl (lv_room (Nat.le_of_ble_eq_true rfl)) dL_law_304 ⟨by show 1000 + (acc) + 1 ≤ 601024; omega, by show 100000 + (acc) + 6 ≤ 7293034; omega⟩) (fun H locs hI => ?_)
          refine W.widen (k := 1000 + (acc + 6)) (n := 100000 + (acc + 6)) (by omega) (by omega) ?_
          refine lv_istore (lv' := [(5, .int 1), (0, .ref b), (1, .ref (ga g 0)), (2, .ref (ga g 59)), (3, .ref (ga g 102)), (4, .int v4)]) hx hb dL_law_307 hl (by decide) rfl (fun ls hl => ?_)
          refine lv_aload_n hx hb dL_law_309 rfl (lv_at hl 3 rfl) ?_
          refine lv_aload_n hx hb dL_law_310 rfl (lv_at hl 1 rfl) ?_
          refine lv_iload hx hb dL_law_311 (lv_at hl 5 rfl) ?_
          refine lv_iconst (v := 1) hx hb dL_law_313 (by decide) ?_
          refine lv_iadd hx hb dL_law_314 ?_
          obtain ⟨g66, hm⟩ := gb_some hm
          refine sl_ld hx hb hScr hbl hbA hI.2.2 g66 dL_law_315 ?_
          refine lv_aload_n hx hb dL_law_316 rfl (lv_at hl 1 rfl) ?_
          refine lv_iload hx hb dL_law_317 (lv_at hl 5 rfl) ?_
          refine lv_iconst (v := 2) hx hb dL_law_319 (by decide) ?_
          refine lv_iadd hx hb dL_law_320 ?_
          obtain ⟨g67, hm⟩ := gb_some hm
          refine sl_ld hx hb hScr hbl hbA hI.2.2 g67 dL_law_321 ?_
          refine lv_aload_n hx hb dL_law_322 rfl (lv_at hl 1 rfl) ?_
          refine lv_iload hx hb dL_law_323 (lv_at hl 5 rfl) ?_
          refine lv_iconst (v := 3) hx hb dL_law_325 (by decide) ?_
          refine lv_iadd hx hb dL_law_326 ?_
          obtain ⟨g68, hm⟩ := gb_some hm
          refine sl_ld hx hb hScr hbl hbA hI.2.2 g68 dL_law_327 ?_
          obtain ⟨r69, σ70, h71, hm⟩ := bd_some hm
          refine k_i hI hA (va_runV (As := [.int (xs (ix (v4 + 1))), .int (xs (ix (v4 + 2))), .int (xs (ix (v4 + 3)))]) (rest := []) hX (c_X12_op N n h71 _) (cwV 3 ht (in_V mw_1145 mw_1146 mw_1147 mw_861 mw_1076) rfl rfl rfl pd_X12_op ⟨Nat.le_of_ble_eq_true rfl, Nat.le_of_ble_eq_true rfl⟩) ⟨q_blind, va_recv hK hI.1 (ci := 11) (q0 := 59) rfl rfl, q_to hI hK hN hZ hA⟩ rfl rfl hl.1 rfl (lv_room (Nat.le_of_ble_eq_true rfl)) dL_law_328 ⟨by show 1000 + (acc + 6) + 0 ≤ 601024; omega, by show 100000 + (acc + 6) + 0 ≤ 7293034; omega⟩) (fun H locs hI => ?_)
          refine lv_istore (lv' := [(6, .int r69), (5, .int 1), (0, .ref b), (1, .ref (ga g 0)), (2, .ref (ga g 59)), (3, .ref (ga g 102)), (4, .int v4)]) hx hb dL_law_331 hl (by decide) rfl (fun ls hl => ?_)
          refine lv_goto (tgt := 662) hx hb dL_law_333 (by decide) ?_
          refine lv_iinc (v := v4 + 4) (lv' := [(4, .int (v4 + 4)), (6, .int r69), (5, .int 1), (0, .ref b), (1, .ref (ga g 0)), (2, .ref (ga g 59)), (3, .ref (ga g 102))]) hx hb dL_law_662 hl (k := 6) rfl (congrArg (fun z => v4 + z) (show Int32.ofInt 4 = 4 by decide)) (by decide) rfl (fun ls hl => ?_)
          refine lv_goto (tgt := 23) hx hb dL_law_665 (by decide) ?_
          exact ih σ70 _ _ _ _ _ _ _ hm hI (lv_sub hl [3, 4, 5, 6, 0] rfl) hac
      have hm := (if_neg c56).symm.trans hm
      by_cases c72 : ((xs (ix v4)) &&& 31) = 7
      · have hm := (if_pos c72).symm.trans hm
        refine lv_tableIn (off := 297) (tgt := 336) hx hb dL_law_39 (by (rw [c72]; decide)) (by (rw [c72]; decide)) (by (rw [c72]; rfl)) (by decide) ?_
        refine lv_aload_n hx hb dL_law_336 rfl (lv_at hl 1 rfl) ?_
        refine lv_aload_n hx hb dL_law_337 rfl (lv_at hl 0 rfl) ?_
        refine lv_iload hx hb dL_law_338 (lv_at hl 4 rfl) ?_
        refine lv_iconst (v := 1) hx hb dL_law_340 (by decide) ?_
        refine lv_iadd hx hb dL_law_341 ?_
        obtain ⟨g73, hm⟩ := gb_some hm
        refine sl_ld hx hb hScr hbl hbA hI.2.2 g73 dL_law_342 ?_
        obtain ⟨r74, σ75, h76, hm⟩ := bd_some hm
        refine k_i hI hA (va_runV (As := [.int (xs (ix (v4 + 1)))]) (rest := []) hX (c_X11_size N n h76 _) (cwV 1 ht (in_V mw_1148 mw_1149 mw_1150 mw_267 mw_722) rfl rfl rfl pd_X11_size ⟨Nat.le_of_ble_eq_true rfl, Nat.le_of_ble_eq_true rfl⟩) ⟨q_blind, va_recv hK hI.1 (ci := 10) (q0 := 0) rfl rfl, q_to hI hK hN hZ hA⟩ rfl rfl hl.1 rfl (lv_room (Nat.le_of_ble_eq_true rfl)) dL_law_343 ⟨by show 1000 + (acc) + 0 ≤ 601024; omega, by show 100000 + (acc) + 0 ≤ 7293034; omega⟩) (fun H locs hI => ?_)
        refine lv_pop hx hb dL_law_346 rfl ?_
        refine lv_aload_n hx hb dL_law_347 rfl (lv_at hl 2 rfl) ?_
        refine lv_aload_n hx hb dL_law_348 rfl (lv_at hl 0 rfl) ?_
        refine lv_iload hx hb dL_law_349 (lv_at hl 4 rfl) ?_
        refine lv_iconst (v := 1) hx hb dL_law_351 (by decide) ?_
        refine lv_iadd hx hb dL_law_352 ?_
        obtain ⟨g77, hm⟩ := gb_some hm
        refine sl_ld hx hb hScr hbl hbA hI.2.2 g77 dL_law_353 ?_
        obtain ⟨r78, σ79, h80, hm⟩ := bd_some hm
        refine k_i hI hA (va_runV (As := [.int (xs (ix (v4 + 1)))]) (rest := []) hX (c_X12_size N n h80 _) (cwV 1 ht (in_V mw_1151 mw_1152 mw_1153 mw_861 mw_1078) rfl rfl rfl pd_X12_size ⟨Nat.le_of_ble_eq_true rfl, Nat.le_of_ble_eq_true rfl⟩) ⟨q_blind, va_recv hK hI.1 (ci := 11) (q0 := 59) rfl rfl, q_to hI hK hN hZ hA⟩ rfl rfl hl.1 rfl (lv_room (Nat.le_of_ble_eq_true rfl)) dL_law_354 ⟨by show 1000 + (acc) + 0 ≤ 601024; omega, by show 100000 + (acc) + 0 ≤ 7293034; omega⟩) (fun H locs hI => ?_)
        refine lv_pop hx hb dL_law_357 rfl ?_
        refine lv_goto (tgt := 662) hx hb dL_law_358 (by decide) ?_
        refine lv_iinc (v := v4 + 4) (lv' := [(4, .int (v4 + 4)), (0, .ref b), (1, .ref (ga g 0)), (2, .ref (ga g 59)), (3, .ref (ga g 102))]) hx hb dL_law_662 hl (k := 4) rfl (congrArg (fun z => v4 + z) (show Int32.ofInt 4 = 4 by decide)) (by decide) rfl (fun ls hl => ?_)
        refine lv_goto (tgt := 23) hx hb dL_law_665 (by decide) ?_
        exact ih σ79 _ _ _ _ _ _ _ hm hI (lv_sub hl [1, 2, 3, 4, 0] rfl) hacc
      have hm := (if_neg c72).symm.trans hm
      by_cases c81 : ((xs (ix v4)) &&& 31) = 8
      · have hm := (if_pos c81).symm.trans hm
        refine lv_tableIn (off := 322) (tgt := 361) hx hb dL_law_39 (by (rw [c81]; decide)) (by (rw [c81]; decide)) (by (rw [c81]; rfl)) (by decide) ?_
        refine lv_aload_n hx hb dL_law_361 rfl (lv_at hl 1 rfl) ?_
        refine lv_aload_n hx hb dL_law_362 rfl (lv_at hl 0 rfl) ?_
        refine lv_iload hx hb dL_law_363 (lv_at hl 4 rfl) ?_
        refine lv_iconst (v := 1) hx hb dL_law_365 (by decide) ?_
        refine lv_iadd hx hb dL_law_366 ?_
        obtain ⟨g82, hm⟩ := gb_some hm
        refine sl_ld hx hb hScr hbl hbA hI.2.2 g82 dL_law_367 ?_
        refine lv_aload_n hx hb dL_law_368 rfl (lv_at hl 0 rfl) ?_
        refine lv_iload hx hb dL_law_369 (lv_at hl 4 rfl) ?_
        refine lv_iconst (v := 2) hx hb dL_law_371 (by decide) ?_
        refine lv_iadd hx hb dL_law_372 ?_
        obtain ⟨g83, hm⟩ := gb_some hm
        refine sl_ld hx hb hScr hbl hbA hI.2.2 g83 dL_law_373 ?_
        refine lv_aload_n hx hb dL_law_374 rfl (lv_at hl 0 rfl) ?_
        refine lv_iload hx hb dL_law_375 (lv_at hl 4 rfl) ?_
        refine lv_iconst (v := 3) hx hb dL_law_377 (by decide) ?_
        refine lv_iadd hx hb dL_law_378 ?_
        obtain ⟨g84, hm⟩ := gb_some hm
        refine sl_ld hx hb hScr hbl hbA hI.2.2 g84 dL_law_379 ?_
        obtain ⟨r85, σ86, h87, hm⟩ := bd_some hm
        refine k_i hI hA (va_runV (As := [.int (xs (ix (v4 + 1))), .int (xs (ix (v4 + 2))), .int (xs (ix (v4 + 3)))]) (rest := []) hX (c_X11_value N n h87 _) (cwV 3 ht (in_V mw_1154 mw_1155 mw_1156 mw_267 mw_728) rfl rfl rfl pd_X11_value ⟨Nat.le_of_ble_eq_true rfl, Nat.le_of_ble_eq_true rfl⟩) ⟨q_blind, va_recv hK hI.1 (ci := 10) (q0 := 0) rfl rfl, q_to hI hK hN hZ hA⟩ rfl rfl hl.1 rfl (lv_room (Nat.le_of_ble_eq_true rfl)) dL_law_380 ⟨by show 1000 + (acc) + 0 ≤ 601024; omega, by show 100000 + (acc) + 0 ≤ 7293034; omega⟩) (fun H locs hI => ?_)
        refine lv_pop hx hb dL_law_383 rfl ?_
        refine lv_aload_n hx hb dL_law_384 rfl (lv_at hl 2 rfl) ?_
        refine lv_aload_n hx hb dL_law_385 rfl (lv_at hl 0 rfl) ?_
        refine lv_iload hx hb dL_law_386 (lv_at hl 4 rfl) ?_
        refine lv_iconst (v := 1) hx hb dL_law_388 (by decide) ?_
        refine lv_iadd hx hb dL_law_389 ?_
        obtain ⟨g88, hm⟩ := gb_some hm
        refine sl_ld hx hb hScr hbl hbA hI.2.2 g88 dL_law_390 ?_
        refine lv_aload_n hx hb dL_law_391 rfl (lv_at hl 0 rfl) ?_
        refine lv_iload hx hb dL_law_392 (lv_at hl 4 rfl) ?_
        refine lv_iconst (v := 2) hx hb dL_law_394 (by decide) ?_
        refine lv_iadd hx hb dL_law_395 ?_
        obtain ⟨g89, hm⟩ := gb_some hm
        refine sl_ld hx hb hScr hbl hbA hI.2.2 g89 dL_law_396 ?_
        refine lv_aload_n hx hb dL_law_397 rfl (lv_at hl 0 rfl) ?_
        refine lv_iload hx hb dL_law_398 (lv_at hl 4 rfl) ?_
        refine lv_iconst (v := 3) hx hb dL_law_400 (by decide) ?_
        refine lv_iadd hx hb dL_law_401 ?_
        obtain ⟨g90, hm⟩ := gb_some hm
        refine sl_ld hx hb hScr hbl hbA hI.2.2 g90 dL_law_402 ?_
        obtain ⟨r91, σ92, h93, hm⟩ := bd_some hm
        refine k_i hI hA (va_runV (As := [.int (xs (ix (v4 + 1))), .int (xs (ix (v4 + 2))), .int (xs (ix (v4 + 3)))]) (rest := []) hX (c_X12_value N n h93 _) (cwV 3 ht (in_V mw_1157 mw_1158 mw_1159 mw_861 mw_1082) rfl rfl rfl pd_X12_value ⟨Nat.le_of_ble_eq_true rfl, Nat.le_of_ble_eq_true rfl⟩) ⟨q_blind, va_recv hK hI.1 (ci := 11) (q0 := 59) rfl rfl, q_to hI hK hN hZ hA⟩ rfl rfl hl.1 rfl (lv_room (Nat.le_of_ble_eq_true rfl)) dL_law_403 ⟨by show 1000 + (acc) + 0 ≤ 601024; omega, by show 100000 + (acc) + 0 ≤ 7293034; omega⟩) (fun H locs hI => ?_)
        refine lv_pop hx hb dL_law_406 rfl ?_
        refine lv_goto (tgt := 662) hx hb dL_law_407 (by decide) ?_
        refine lv_iinc (v := v4 + 4) (lv' := [(4, .int (v4 + 4)), (0, .ref b), (1, .ref (ga g 0)), (2, .ref (ga g 59)), (3, .ref (ga g 102))]) hx hb dL_law_662 hl (k := 4) rfl (congrArg (fun z => v4 + z) (show Int32.ofInt 4 = 4 by decide)) (by decide) rfl (fun ls hl => ?_)
        refine lv_goto (tgt := 23) hx hb dL_law_665 (by decide) ?_
        exact ih σ92 _ _ _ _ _ _ _ hm hI (lv_sub hl [1, 2, 3, 4, 0] rfl) hacc
      have hm := (if_neg c81).symm.trans hm
      by_cases c94 : ((xs (ix v4)) &&& 31) = 9
      · have hm := (if_pos c94).symm.trans hm
        refine lv_tableIn (off := 371) (tgt := 410) hx hb dL_law_39 (by (rw [c94]; decide)) (by (rw [c94]; decide)) (by (rw [c94]; rfl)) (by decide) ?_
        refine lv_aload_n hx hb dL_law_410 rfl (lv_at hl 1 rfl) ?_
        refine lv_aload_n hx hb dL_law_411 rfl (lv_at hl 0 rfl) ?_
        refine lv_iload hx hb dL_law_412 (lv_at hl 4 rfl) ?_
        refine lv_iconst (v := 1) hx hb dL_law_414 (by decide) ?_
        refine lv_iadd hx hb dL_law_415 ?_
        obtain ⟨g95, hm⟩ := gb_some hm
        refine sl_ld hx hb hScr hbl hbA hI.2.2 g95 dL_law_416 ?_
        obtain ⟨r96, σ97, h98, hm⟩ := bd_some hm
        refine k_i hI hA (va_runV (As := [.int (xs (ix (v4 + 1)))]) (rest := []) hX (c_X11_slots N n h98 _) (cwV 1 ht (in_V mw_1160 mw_1161 mw_1162 mw_267 mw_729) rfl rfl rfl pd_X11_slots ⟨Nat.le_of_ble_eq_true rfl, Nat.le_of_ble_eq_true rfl⟩) ⟨q_blind, va_recv hK hI.1 (ci := 10) (q0 := 0) rfl rfl, q_to hI hK hN hZ hA⟩ rfl rfl hl.1 rfl (lv_room (Nat.le_of_ble_eq_true rfl)) dL_law_417 ⟨by show 1000 + (acc) + 0 ≤ 601024; omega, by show 100000 + (acc) + 0 ≤ 7293034; omega⟩) (fun H locs hI => ?_)
        refine lv_pop hx hb dL_law_420 rfl ?_
        refine lv_aload_n hx hb dL_law_421 rfl (lv_at hl 2 rfl) ?_
        refine lv_aload_n hx hb dL_law_422 rfl (lv_at hl 0 rfl) ?_
        refine lv_iload hx hb dL_law_423 (lv_at hl 4 rfl) ?_
        refine lv_iconst (v := 1) hx hb dL_law_425 (by decide) ?_
        refine lv_iadd hx hb dL_law_426 ?_
        obtain ⟨g99, hm⟩ := gb_some hm
        refine sl_ld hx hb hScr hbl hbA hI.2.2 g99 dL_law_427 ?_
        obtain ⟨r100, σ101, h102, hm⟩ := bd_some hm
        refine k_i hI hA (va_runV (As := [.int (xs (ix (v4 + 1)))]) (rest := []) hX (c_X12_slots N n h102 _) (cwV 1 ht (in_V mw_1163 mw_1164 mw_1165 mw_861 mw_1083) rfl rfl rfl pd_X12_slots ⟨Nat.le_of_ble_eq_true rfl, Nat.le_of_ble_eq_true rfl⟩) ⟨q_blind, va_recv hK hI.1 (ci := 11) (q0 := 59) rfl rfl, q_to hI hK hN hZ hA⟩ rfl rfl hl.1 rfl (lv_room (Nat.le_of_ble_eq_true rfl)) dL_law_428 ⟨by show 1000 + (acc) + 0 ≤ 601024; omega, by show 100000 + (acc) + 0 ≤ 7293034; omega⟩) (fun H locs hI => ?_)
        refine lv_pop hx hb dL_law_431 rfl ?_
        refine lv_goto (tgt := 662) hx hb dL_law_432 (by decide) ?_
        refine lv_iinc (v := v4 + 4) (lv' := [(4, .int (v4 + 4)), (0, .ref b), (1, .ref (ga g 0)), (2, .ref (ga g 59)), (3, .ref (ga g 102))]) hx hb dL_law_662 hl (k := 4) rfl (congrArg (fun z => v4 + z) (show Int32.ofInt 4 = 4 by decide)) (by decide) rfl (fun ls hl => ?_)
        refine lv_goto (tgt := 23) hx hb dL_law_665 (by decide) ?_
        exact ih σ101 _ _ _ _ _ _ _ hm hI (lv_sub hl [1, 2, 3, 4, 0] rfl) hacc
      have hm := (if_neg c94).symm.trans hm
      by_cases c103 : ((xs (ix v4)) &&& 31) = 10
      · have hm := (if_pos c103).symm.trans hm
        refine lv_tableIn (off := 396) (tgt := 435) hx hb dL_law_39 (by (rw [c103]; decide)) (by (rw [c103]; decide)) (by (rw [c103]; rfl)) (by decide) ?_
        refine lv_aload_n hx hb dL_law_435 rfl (lv_at hl 1 rfl) ?_
        refine lv_aload_n hx hb dL_law_436 rfl (lv_at hl 0 rfl) ?_
        refine lv_iload hx hb dL_law_437 (lv_at hl 4 rfl) ?_
        refine lv_iconst (v := 1) hx hb dL_law_439 (by decide) ?_
        refine lv_iadd hx hb dL_law_440 ?_
        obtain ⟨g104, hm⟩ := gb_some hm
        refine sl_ld hx hb hScr hbl hbA hI.2.2 g104 dL_law_441 ?_
        obtain ⟨r105, σ106, h107, hm⟩ := bd_some hm
        refine k_i hI hA (va_runV (As := [.int (xs (ix (v4 + 1)))]) (rest := []) hX (c_X11_places N n h107 _) (cwV 1 ht (in_V mw_1166 mw_1167 mw_1168 mw_267 mw_731) rfl rfl rfl pd_X11_places ⟨Nat.le_of_ble_eq_true rfl, Nat.le_of_ble_eq_true rfl⟩) ⟨q_blind, va_recv hK hI.1 (ci := 10) (q0 := 0) rfl rfl, q_to hI hK hN hZ hA⟩ rfl rfl hl.1 rfl (lv_room (Nat.le_of_ble_eq_true rfl)) dL_law_442 ⟨by show 1000 + (acc) + 0 ≤ 601024; omega, by show 100000 + (acc) + 0 ≤ 7293034; omega⟩) (fun H locs hI => ?_)
        refine lv_pop hx hb dL_law_445 rfl ?_
        refine lv_aload_n hx hb dL_law_446 rfl (lv_at hl 2 rfl) ?_
        refine lv_aload_n hx hb dL_law_447 rfl (lv_at hl 0 rfl) ?_
        refine lv_iload hx hb dL_law_448 (lv_at hl 4 rfl) ?_
        refine lv_iconst (v := 1) hx hb dL_law_450 (by decide) ?_
        refine lv_iadd hx hb dL_law_451 ?_
        obtain ⟨g108, hm⟩ := gb_some hm
        refine sl_ld hx hb hScr hbl hbA hI.2.2 g108 dL_law_452 ?_
        obtain ⟨r109, σ110, h111, hm⟩ := bd_some hm
        refine k_i hI hA (va_runV (As := [.int (xs (ix (v4 + 1)))]) (rest := []) hX (c_X12_places N n h111 _) (cwV 1 ht (in_V mw_1169 mw_1170 mw_1171 mw_861 mw_1084) rfl rfl rfl pd_X12_places ⟨Nat.le_of_ble_eq_true rfl, Nat.le_of_ble_eq_true rfl⟩) ⟨q_blind, va_recv hK hI.1 (ci := 11) (q0 := 59) rfl rfl, q_to hI hK hN hZ hA⟩ rfl rfl hl.1 rfl (lv_room (Nat.le_of_ble_eq_true rfl)) dL_law_453 ⟨by show 1000 + (acc) + 0 ≤ 601024; omega, by show 100000 + (acc) + 0 ≤ 7293034; omega⟩) (fun H locs hI => ?_)
        refine lv_pop hx hb dL_law_456 rfl ?_
        refine lv_goto (tgt := 662) hx hb dL_law_457 (by decide) ?_
        refine lv_iinc (v := v4 + 4) (lv' := [(4, .int (v4 + 4)), (0, .ref b), (1, .ref (ga g 0)), (2, .ref (ga g 59)), (3, .ref (ga g 102))]) hx hb dL_law_662 hl (k := 4) rfl (congrArg (fun z => v4 + z) (show Int32.ofInt 4 = 4 by decide)) (by decide) rfl (fun ls hl => ?_)
        refine lv_goto (tgt := 23) hx hb dL_law_665 (by decide) ?_
        exact ih σ110 _ _ _ _ _ _ _ hm hI (lv_sub hl [1, 2, 3, 4, 0] rfl) hacc
      have hm := (if_neg c103).symm.trans hm
      by_cases c112 : ((xs (ix v4)) &&& 31) = 11
      · have hm := (if_pos c112).symm.trans hm
        refine lv_tableIn (off := 421) (tgt := 460) hx hb dL_law_39 (by (rw [c112]; decide)) (by (rw [c112]; decide)) (by (rw [c112]; rfl)) (by decide) ?_
        refine lv_aload_n hx hb dL_law_460 rfl (lv_at hl 1 rfl) ?_
        refine lv_aload_n hx hb dL_law_461 rfl (lv_at hl 0 rfl) ?_
        refine lv_iload hx hb dL_law_462 (lv_at hl 4 rfl) ?_
        refine lv_iconst (v := 1) hx hb dL_law_464 (by decide) ?_
        refine lv_iadd hx hb dL_law_465 ?_
        obtain ⟨g113, hm⟩ := gb_some hm
        refine sl_ld hx hb hScr hbl hbA hI.2.2 g113 dL_law_466 ?_
        refine lv_aload_n hx hb dL_law_467 rfl (lv_at hl 0 rfl) ?_
        refine lv_iload hx hb dL_law_468 (lv_at hl 4 rfl) ?_
        refine lv_iconst (v := 2) hx hb dL_law_470 (by decide) ?_
        refine lv_iadd hx hb dL_law_471 ?_
        obtain ⟨g114, hm⟩ := gb_some hm
        refine sl_ld hx hb hScr hbl hbA hI.2.2 g114 dL_law_472 ?_
        obtain ⟨r115, σ116, h117, hm⟩ := bd_some hm
        refine k_i hI hA (va_runV (As := [.int (xs (ix (v4 + 1))), .int (xs (ix (v4 + 2)))]) (rest := []) hX (c_X11_cell N n h117 _) (cwV 2 ht (in_V mw_1172 mw_1173 mw_1174 mw_267 mw_733) rfl rfl rfl pd_X11_cell ⟨Nat.le_of_ble_eq_true rfl, Nat.le_of_ble_eq_true rfl⟩) ⟨q_blind, va_recv hK hI.1 (ci := 10) (q0 := 0) rfl rfl, q_to hI hK hN hZ hA⟩ rfl rfl hl.1 rfl (lv_room (Nat.le_of_ble_eq_true rfl)) dL_law_473 ⟨by show 1000 + (acc) + 0 ≤ 601024; omega, by show 100000 + (acc) + 0 ≤ 7293034; omega⟩) (fun H locs hI => ?_)
        refine lv_pop hx hb dL_law_476 rfl ?_
        refine lv_aload_n hx hb dL_law_477 rfl (lv_at hl 2 rfl) ?_
        refine lv_aload_n hx hb dL_law_478 rfl (lv_at hl 0 rfl) ?_
        refine lv_iload hx hb dL_law_479 (lv_at hl 4 rfl) ?_
        refine lv_iconst (v := 1) hx hb dL_law_481 (by decide) ?_
        refine lv_iadd hx hb dL_law_482 ?_
        obtain ⟨g118, hm⟩ := gb_some hm
        refine sl_ld hx hb hScr hbl hbA hI.2.2 g118 dL_law_483 ?_
        refine lv_aload_n hx hb dL_law_484 rfl (lv_at hl 0 rfl) ?_
        refine lv_iload hx hb dL_law_485 (lv_at hl 4 rfl) ?_
        refine lv_iconst (v := 2) hx hb dL_law_487 (by decide) ?_
        refine lv_iadd hx hb dL_law_488 ?_
        obtain ⟨g119, hm⟩ := gb_some hm
        refine sl_ld hx hb hScr hbl hbA hI.2.2 g119 dL_law_489 ?_
        obtain ⟨r120, σ121, h122, hm⟩ := bd_some hm
        refine k_i hI hA (va_runV (As := [.int (xs (ix (v4 + 1))), .int (xs (ix (v4 + 2)))]) (rest := []) hX (c_X12_cell N n h122 _) (cwV 2 ht (in_V mw_1175 mw_1176 mw_1177 mw_861 mw_1074) rfl rfl rfl pd_X12_cell ⟨Nat.le_of_ble_eq_true rfl, Nat.le_of_ble_eq_true rfl⟩) ⟨q_blind, va_recv hK hI.1 (ci := 11) (q0 := 59) rfl rfl, q_to hI hK hN hZ hA⟩ rfl rfl hl.1 rfl (lv_room (Nat.le_of_ble_eq_true rfl)) dL_law_490 ⟨by show 1000 + (acc) + 0 ≤ 601024; omega, by show 100000 + (acc) + 0 ≤ 7293034; omega⟩) (fun H locs hI => ?_)
        refine lv_pop hx hb dL_law_493 rfl ?_
        refine lv_goto (tgt := 662) hx hb dL_law_494 (by decide) ?_
        refine lv_iinc (v := v4 + 4) (lv' := [(4, .int (v4 + 4)), (0, .ref b), (1, .ref (ga g 0)), (2, .ref (ga g 59)), (3, .ref (ga g 102))]) hx hb dL_law_662 hl (k := 4) rfl (congrArg (fun z => v4 + z) (show Int32.ofInt 4 = 4 by decide)) (by decide) rfl (fun ls hl => ?_)
        refine lv_goto (tgt := 23) hx hb dL_law_665 (by decide) ?_
        exact ih σ121 _ _ _ _ _ _ _ hm hI (lv_sub hl [1, 2, 3, 4, 0] rfl) hacc
      have hm := (if_neg c112).symm.trans hm
      by_cases c123 : ((xs (ix v4)) &&& 31) = 12
      · have hm := (if_pos c123).symm.trans hm
        refine lv_tableIn (off := 458) (tgt := 497) hx hb dL_law_39 (by (rw [c123]; decide)) (by (rw [c123]; decide)) (by (rw [c123]; rfl)) (by decide) ?_
        refine lv_aload_n hx hb dL_law_497 rfl (lv_at hl 1 rfl) ?_
        obtain ⟨r124, σ125, h126, hm⟩ := bd_some hm
        refine k_i hI hA (va_runV (As := []) (rest := []) hX (c_X11_again N n h126 _) (cwV 0 ht (in_V mw_1178 mw_1179 mw_1180 mw_267 mw_734) rfl rfl rfl pd_X11_again ⟨Nat.le_of_ble_eq_true rfl, Nat.le_of_ble_eq_true rfl⟩) ⟨q_blind, va_recv hK hI.1 (ci := 10) (q0 := 0) rfl rfl, q_to hI hK hN hZ hA⟩ rfl rfl hl.1 rfl (lv_room (Nat.le_of_ble_eq_true rfl)) dL_law_498 ⟨by show 1000 + (acc) + 0 ≤ 601024; omega, by show 100000 + (acc) + 0 ≤ 7293034; omega⟩) (fun H locs hI => ?_)
        refine lv_pop hx hb dL_law_501 rfl ?_
        refine lv_aload_n hx hb dL_law_502 rfl (lv_at hl 2 rfl) ?_
        obtain ⟨r127, σ128, h129, hm⟩ := bd_some hm
        refine k_i hI hA (va_runV (As := []) (rest := []) hX (c_X12_again N n h129 _) (cwV 0 ht (in_V mw_1181 mw_1182 mw_1183 mw_861 mw_1073) rfl rfl rfl pd_X12_again ⟨Nat.le_of_ble_eq_true rfl, Nat.le_of_ble_eq_true rfl⟩) ⟨q_blind, va_recv hK hI.1 (ci := 11) (q0 := 59) rfl rfl, q_to hI hK hN hZ hA⟩ rfl rfl hl.1 rfl (lv_room (Nat.le_of_ble_eq_true rfl)) dL_law_503 ⟨by show 1000 + (acc) + 0 ≤ 601024; omega, by show 100000 + (acc) + 0 ≤ 7293034; omega⟩) (fun H locs hI => ?_)
        refine lv_pop hx hb dL_law_506 rfl ?_
        refine lv_goto (tgt := 662) hx hb dL_law_507 (by decide) ?_
        refine lv_iinc (v := v4 + 4) (lv' := [(4, .int (v4 + 4)), (0, .ref b), (1, .ref (ga g 0)), (2, .ref (ga g 59)), (3, .ref (ga g 102))]) hx hb dL_law_662 hl (k := 4) rfl (congrArg (fun z => v4 + z) (show Int32.ofInt 4 = 4 by decide)) (by decide) rfl (fun ls hl => ?_)
        refine lv_goto (tgt := 23) hx hb dL_law_665 (by decide) ?_
        exact ih σ128 _ _ _ _ _ _ _ hm hI (lv_sub hl [1, 2, 3, 4, 0] rfl) hacc
      have hm := (if_neg c123).symm.trans hm
      by_cases c130 : ((xs (ix v4)) &&& 31) = 13
      · have hm := (if_pos c130).symm.trans hm
        refine lv_tableIn (off := 471) (tgt := 510) hx hb dL_law_39 (by (rw [c130]; decide)) (by (rw [c130]; decide)) (by (rw [c130]; rfl)) (by decide) ?_
        refine lv_aload_n hx hb dL_law_510 rfl (lv_at hl 1 rfl) ?_
        refine lv_aload_n hx hb dL_law_511 rfl (lv_at hl 0 rfl) ?_
        refine lv_iload hx hb dL_law_512 (lv_at hl 4 rfl) ?_
        refine lv_iconst (v := 1) hx hb dL_law_514 (by decide) ?_
        refine lv_iadd hx hb dL_law_515 ?_
        obtain ⟨g131, hm⟩ := gb_some hm
        refine sl_ld hx hb hScr hbl hbA hI.2.2 g131 dL_law_516 ?_
        obtain ⟨r132, σ133, h134, hm⟩ := bd_some hm
        refine k_i hI hA (va_runV (As := [.int (xs (ix (v4 + 1)))]) (rest := []) hX (c_X11_runStack N n h134 _) (cwV 1 ht (in_V mw_1184 mw_1185 mw_1186 mw_267 mw_740) rfl rfl rfl pd_X11_runStack ⟨Nat.le_of_ble_eq_true rfl, Nat.le_of_ble_eq_true rfl⟩) ⟨q_blind, va_recv hK hI.1 (ci := 10) (q0 := 0) rfl rfl, q_to hI hK hN hZ hA⟩ rfl rfl hl.1 rfl (lv_room (Nat.le_of_ble_eq_true rfl)) dL_law_517 ⟨by show 1000 + (acc) + 0 ≤ 601024; omega, by show 100000 + (acc) + 0 ≤ 7293034; omega⟩) (fun H locs hI => ?_)
        refine lv_aload_n hx hb dL_law_520 rfl (lv_at hl 2 rfl) ?_
        refine lv_aload_n hx hb dL_law_521 rfl (lv_at hl 0 rfl) ?_
        refine lv_iload hx hb dL_law_522 (lv_at hl 4 rfl) ?_
        refine lv_iconst (v := 1) hx hb dL_law_524 (by decide) ?_
        refine lv_iadd hx hb dL_law_525 ?_
        obtain ⟨g135, hm⟩ := gb_some hm
        refine sl_ld hx hb hScr hbl hbA hI.2.2 g135 dL_law_526 ?_
        obtain ⟨r136, σ137, h138, hm⟩ := bd_some hm
        refine k_i hI hA (va_runV (As := [.int (xs (ix (v4 + 1)))]) (rest := [.int r132]) hX (c_X12_runStack N n h138 _) (cwV 1 ht (in_V mw_1187 mw_1188 mw_1189 mw_861 mw_1071) rfl rfl rfl pd_X12_runStack ⟨Nat.le_of_ble_eq_true rfl, Nat.le_of_ble_eq_true rfl⟩) ⟨q_blind, va_recv hK hI.1 (ci := 11) (q0 := 59) rfl rfl, q_to hI hK hN hZ hA⟩ rfl rfl hl.1 rfl (lv_room (Nat.le_of_ble_eq_true rfl)) dL_law_527 ⟨by show 1000 + (acc) + 0 ≤ 601024; omega, by show 100000 + (acc) + 0 ≤ 7293034; omega⟩) (fun H locs hI => ?_)
        refine lv_icmp_eq (tgt := 662) hx hb dL_law_530 (by decide) (fun c139 => ?_) (fun c139 => ?_)
        · have hm := (if_pos c139).symm.trans hm
          refine lv_iinc (v := v4 + 4) (lv' := [(4, .int (v4 + 4)), (0, .ref b), (1, .ref (ga g 0)), (2, .ref (ga g 59)), (3, .ref (ga g 102))]) hx hb dL_law_662 hl (k := 4) rfl (congrArg (fun z => v4 + z) (show Int32.ofInt 4 = 4 by decide)) (by decide) rfl (fun ls hl => ?_)
          refine lv_goto (tgt := 23) hx hb dL_law_665 (by decide) ?_
          exact ih σ137 _ _ _ _ _ _ _ hm hI (lv_sub hl [1, 2, 3, 4, 0] rfl) hacc
        · have hm := (if_neg c139).symm.trans hm
          refine lv_iconst (v := 0) hx hb dL_law_533 (by decide) ?_
          exact absurd (Option.some.inj hm) (by decide)
      have hm := (if_neg c130).symm.trans hm
      by_cases c140 : ((xs (ix v4)) &&& 31) = 14
      · have hm := (if_pos c140).symm.trans hm
        refine lv_tableIn (off := 496) (tgt := 535) hx hb dL_law_39 (by (rw [c140]; decide)) (by (rw [c140]; decide)) (by (rw [c140]; rfl)) (by decide) ?_
        refine lv_aload_n hx hb dL_law_535 rfl (lv_at hl 1 rfl) ?_
        refine lv_aload_n hx hb dL_law_536 rfl (lv_at hl 0 rfl) ?_
        refine lv_iload hx hb dL_law_537 (lv_at hl 4 rfl) ?_
        refine lv_iconst (v := 1) hx hb dL_law_539 (by decide) ?_
        refine lv_iadd hx hb dL_law_540 ?_
        obtain ⟨g141, hm⟩ := gb_some hm
        refine sl_ld hx hb hScr hbl hbA hI.2.2 g141 dL_law_541 ?_
        obtain ⟨r142, σ143, h144, hm⟩ := bd_some hm
        refine k_i hI hA (va_runV (As := [.int (xs (ix (v4 + 1)))]) (rest := []) hX (c_X11_runRegisters N n h144 _) (cwV 1 ht (in_V mw_1190 mw_1191 mw_1192 mw_267 mw_741) rfl rfl rfl pd_X11_runRegisters ⟨Nat.le_of_ble_eq_true rfl, Nat.le_of_ble_eq_true rfl⟩) ⟨q_blind, va_recv hK hI.1 (ci := 10) (q0 := 0) rfl rfl, q_to hI hK hN hZ hA⟩ rfl rfl hl.1 rfl (lv_room (Nat.le_of_ble_eq_true rfl)) dL_law_542 ⟨by show 1000 + (acc) + 0 ≤ 601024; omega, by show 100000 + (acc) + 0 ≤ 7293034; omega⟩) (fun H locs hI => ?_)
        refine lv_pop hx hb dL_law_545 rfl ?_
        refine lv_aload_n hx hb dL_law_546 rfl (lv_at hl 2 rfl) ?_
        refine lv_aload_n hx hb dL_law_547 rfl (lv_at hl 0 rfl) ?_
        refine lv_iload hx hb dL_law_548 (lv_at hl 4 rfl) ?_
        refine lv_iconst (v := 1) hx hb dL_law_550 (by decide) ?_
        refine lv_iadd hx hb dL_law_551 ?_
        obtain ⟨g145, hm⟩ := gb_some hm
        refine sl_ld hx hb hScr hbl hbA hI.2.2 g145 dL_law_552 ?_
        obtain ⟨r146, σ147, h148, hm⟩ := bd_some hm
        refine k_i hI hA (va_runV (As := [.int (xs (ix (v4 + 1)))]) (rest := []) hX (c_X12_runRegisters N n h148 _) (cwV 1 ht (in_V mw_1193 mw_1194 mw_1195 mw_861 mw_1072) rfl rfl rfl pd_X12_runRegisters ⟨Nat.le_of_ble_eq_true rfl, Nat.le_of_ble_eq_true rfl⟩) ⟨q_blind, va_recv hK hI.1 (ci := 11) (q0 := 59) rfl rfl, q_to hI hK hN hZ hA⟩ rfl rfl hl.1 rfl (lv_room (Nat.le_of_ble_eq_true rfl)) dL_law_553 ⟨by show 1000 + (acc) + 0 ≤ 601024; omega, by show 100000 + (acc) + 0 ≤ 7293034; omega⟩) (fun H locs hI => ?_)
        refine lv_pop hx hb dL_law_556 rfl ?_
        refine lv_goto (tgt := 662) hx hb dL_law_557 (by decide) ?_
        refine lv_iinc (v := v4 + 4) (lv' := [(4, .int (v4 + 4)), (0, .ref b), (1, .ref (ga g 0)), (2, .ref (ga g 59)), (3, .ref (ga g 102))]) hx hb dL_law_662 hl (k := 4) rfl (congrArg (fun z => v4 + z) (show Int32.ofInt 4 = 4 by decide)) (by decide) rfl (fun ls hl => ?_)
        refine lv_goto (tgt := 23) hx hb dL_law_665 (by decide) ?_
        exact ih σ147 _ _ _ _ _ _ _ hm hI (lv_sub hl [1, 2, 3, 4, 0] rfl) hacc
      have hm := (if_neg c140).symm.trans hm
      by_cases c149 : ((xs (ix v4)) &&& 31) = 15
      · have hm := (if_pos c149).symm.trans hm
        refine lv_tableIn (off := 521) (tgt := 560) hx hb dL_law_39 (by (rw [c149]; decide)) (by (rw [c149]; decide)) (by (rw [c149]; rfl)) (by decide) ?_
        refine lv_aload_n hx hb dL_law_560 rfl (lv_at hl 1 rfl) ?_
        refine lv_aload_n hx hb dL_law_561 rfl (lv_at hl 0 rfl) ?_
        refine lv_iload hx hb dL_law_562 (lv_at hl 4 rfl) ?_
        refine lv_iconst (v := 1) hx hb dL_law_564 (by decide) ?_
        refine lv_iadd hx hb dL_law_565 ?_
        obtain ⟨g150, hm⟩ := gb_some hm
        refine sl_ld hx hb hScr hbl hbA hI.2.2 g150 dL_law_566 ?_
        refine lv_aload_n hx hb dL_law_567 rfl (lv_at hl 0 rfl) ?_
        refine lv_iload hx hb dL_law_568 (lv_at hl 4 rfl) ?_
        refine lv_iconst (v := 2) hx hb dL_law_570 (by decide) ?_
        refine lv_iadd hx hb dL_law_571 ?_
        obtain ⟨g151, hm⟩ := gb_some hm
        refine sl_ld hx hb hScr hbl hbA hI.2.2 g151 dL_law_572 ?_
        obtain ⟨r152, σ153, h154, hm⟩ := bd_some hm
        refine k_i hI hA (va_runV (As := [.int (xs (ix (v4 + 1))), .int (xs (ix (v4 + 2)))]) (rest := []) hX (c_X11_look N n h154 _) (cwV 2 ht (in_V mw_1196 mw_1197 mw_1198 mw_267 mw_743) rfl rfl rfl pd_X11_look ⟨Nat.le_of_ble_eq_true rfl, Nat.le_of_ble_eq_true rfl⟩) ⟨q_blind, va_recv hK hI.1 (ci := 10) (q0 := 0) rfl rfl, q_to hI hK hN hZ hA⟩ rfl rfl hl.1 rfl (lv_room (Nat.le_of_ble_eq_true rfl)) dL_law_573 ⟨by show 1000 + (acc) + 0 ≤ 601024; omega, by show 100000 + (acc) + 0 ≤ 7293034; omega⟩) (fun H locs hI => ?_)
        refine lv_pop hx hb dL_law_576 rfl ?_
        refine lv_aload_n hx hb dL_law_577 rfl (lv_at hl 2 rfl) ?_
        refine lv_aload_n hx hb dL_law_578 rfl (lv_at hl 0 rfl) ?_
        refine lv_iload hx hb dL_law_579 (lv_at hl 4 rfl) ?_
        refine lv_iconst (v := 1) hx hb dL_law_581 (by decide) ?_
        refine lv_iadd hx hb dL_law_582 ?_
        obtain ⟨g155, hm⟩ := gb_some hm
        refine sl_ld hx hb hScr hbl hbA hI.2.2 g155 dL_law_583 ?_
        refine lv_aload_n hx hb dL_law_584 rfl (lv_at hl 0 rfl) ?_
        refine lv_iload hx hb dL_law_585 (lv_at hl 4 rfl) ?_
        refine lv_iconst (v := 2) hx hb dL_law_587 (by decide) ?_
        refine lv_iadd hx hb dL_law_588 ?_
        obtain ⟨g156, hm⟩ := gb_some hm
        refine sl_ld hx hb hScr hbl hbA hI.2.2 g156 dL_law_589 ?_
        obtain ⟨r157, σ158, h159, hm⟩ := bd_some hm
        refine k_i hI hA (va_runV (As := [.int (xs (ix (v4 + 1))), .int (xs (ix (v4 + 2)))]) (rest := []) hX (c_X12_look N n h159 _) (cwV 2 ht (in_V mw_1199 mw_1200 mw_1201 mw_861 mw_1085) rfl rfl rfl pd_X12_look ⟨Nat.le_of_ble_eq_true rfl, Nat.le_of_ble_eq_true rfl⟩) ⟨q_blind, va_recv hK hI.1 (ci := 11) (q0 := 59) rfl rfl, q_to hI hK hN hZ hA⟩ rfl rfl hl.1 rfl (lv_room (Nat.le_of_ble_eq_true rfl)) dL_law_590 ⟨by show 1000 + (acc) + 0 ≤ 601024; omega, by show 100000 + (acc) + 0 ≤ 7293034; omega⟩) (fun H locs hI => ?_)
        refine lv_pop hx hb dL_law_593 rfl ?_
        refine lv_goto (tgt := 662) hx hb dL_law_594 (by decide) ?_
        refine lv_iinc (v := v4 + 4) (lv' := [(4, .int (v4 + 4)), (0, .ref b), (1, .ref (ga g 0)), (2, .ref (ga g 59)), (3, .ref (ga g 102))]) hx hb dL_law_662 hl (k := 4) rfl (congrArg (fun z => v4 + z) (show Int32.ofInt 4 = 4 by decide)) (by decide) rfl (fun ls hl => ?_)
        refine lv_goto (tgt := 23) hx hb dL_law_665 (by decide) ?_
        exact ih σ158 _ _ _ _ _ _ _ hm hI (lv_sub hl [1, 2, 3, 4, 0] rfl) hacc
      have hm := (if_neg c149).symm.trans hm
      by_cases c160 : ((xs (ix v4)) &&& 31) = 16
      · have hm := (if_pos c160).symm.trans hm
        refine lv_tableIn (off := 558) (tgt := 597) hx hb dL_law_39 (by (rw [c160]; decide)) (by (rw [c160]; decide)) (by (rw [c160]; rfl)) (by decide) ?_
        refine lv_aload_n hx hb dL_law_597 rfl (lv_at hl 1 rfl) ?_
        refine lv_aload_n hx hb dL_law_598 rfl (lv_at hl 0 rfl) ?_
        refine lv_iload hx hb dL_law_599 (lv_at hl 4 rfl) ?_
        refine lv_iconst (v := 1) hx hb dL_law_601 (by decide) ?_
        refine lv_iadd hx hb dL_law_602 ?_
        obtain ⟨g161, hm⟩ := gb_some hm
        refine sl_ld hx hb hScr hbl hbA hI.2.2 g161 dL_law_603 ?_
        refine lv_aload_n hx hb dL_law_604 rfl (lv_at hl 0 rfl) ?_
        refine lv_iload hx hb dL_law_605 (lv_at hl 4 rfl) ?_
        refine lv_iconst (v := 2) hx hb dL_law_607 (by decide) ?_
        refine lv_iadd hx hb dL_law_608 ?_
        obtain ⟨g162, hm⟩ := gb_some hm
        refine sl_ld hx hb hScr hbl hbA hI.2.2 g162 dL_law_609 ?_
        refine lv_aload_n hx hb dL_law_610 rfl (lv_at hl 3 rfl) ?_
        rcases bop_some hm with ⟨r1, σ1, h1, hm⟩ | ⟨r1, σ1, h1, hm⟩
        · skip
          refine k_w hI hA (vx_runSW (As := [.ref (ga g 0), .int (xs (ix (v4 + 1))), .int (xs (ix (v4 + 2))), .ref (ga g 102)]) (rest := []) ⟨hx, hb, hml, hown, hts⟩ (c_L_peek_a hst N n h1 _) (vx_cwSW 4 hts in_L_peek rfl rfl rfl (by decide +kernel) ⟨Nat.le_of_ble_eq_true rfl, Nat.le_of_ble_eq_true rfl⟩) ⟨q_blind, q_to hI hK hN hZ hA⟩ rfl rfl hl.1 rfl (lv_room (Nat.le_of_ble_eq_true rfl)) dL_law_611 ⟨by show 1000 + (acc) + 0 ≤ 601024; omega, by show 100000 + (acc) + 0 ≤ 7293034; omega⟩) (fun H locs hI => ?_)
          refine lv_istore (lv' := [(5, .int 0), (0, .ref b), (1, .ref (ga g 0)), (2, .ref (ga g 59)), (3, .ref (ga g 102)), (4, .int v4)]) hx hb dL_law_614 hl (by decide) rfl (fun ls hl => ?_)
          refine lv_aload_n hx hb dL_law_616 rfl (lv_at hl 3 rfl) ?_
          refine lv_aload_n hx hb dL_law_617 rfl (lv_at hl 1 rfl) ?_
          refine lv_iload hx hb dL_law_618 (lv_at hl 5 rfl) ?_
          refine lv_iconst (v := 1) hx hb dL_law_620 (by decide) ?_
          refine lv_iadd hx hb dL_law_621 ?_
          obtain ⟨g163, hm⟩ := gb_some hm
          refine sl_ld hx hb hScr hbl hbA hI.2.2 g163 dL_law_622 ?_
          refine lv_aload_n hx hb dL_law_623 rfl (lv_at hl 1 rfl) ?_
          refine lv_iload hx hb dL_law_624 (lv_at hl 5 rfl) ?_
          refine lv_iconst (v := 2) hx hb dL_law_626 (by decide) ?_
          refine lv_iadd hx hb dL_law_627 ?_
          obtain ⟨g164, hm⟩ := gb_some hm
          refine sl_ld hx hb hScr hbl hbA hI.2.2 g164 dL_law_628 ?_
          obtain ⟨r165, σ166, h167, hm⟩ := bd_some hm
          refine k_i hI hA (va_runV (As := [.int (xs (ix (v4 + 1))), .int (xs (ix (v4 + 2)))]) (rest := []) hX (c_X12_peek N n h167 _) (cwV 2 ht (in_V mw_1204 mw_1205 mw_1206 mw_861 mw_1086) rfl rfl rfl pd_X12_peek ⟨Nat.le_of_ble_eq_true rfl, Nat.le_of_ble_eq_true rfl⟩) ⟨q_blind, va_recv hK hI.1 (ci := 11) (q0 := 59) rfl rfl, q_to hI hK hN hZ hA⟩ rfl rfl hl.1 rfl (lv_room (Nat.le_of_ble_eq_true rfl)) dL_law_629 ⟨by show 1000 + (acc) + 0 ≤ 601024; omega, by show 100000 + (acc) + 0 ≤ 7293034; omega⟩) (fun H locs hI => ?_)
          refine lv_istore (lv' := [(6, .int r165), (5, .int 0), (0, .ref b), (1, .ref (ga g 0)), (2, .ref (ga g 59)), (3, .ref (ga g 102)), (4, .int v4)]) hx hb dL_law_632 hl (by decide) rfl (fun ls hl => ?_)
          refine lv_goto (tgt := 662) hx hb dL_law_634 (by decide) ?_
          refine lv_iinc (v := v4 + 4) (lv' := [(4, .int (v4 + 4)), (6, .int r165), (5, .int 0), (0, .ref b), (1, .ref (ga g 0)), (2, .ref (ga g 59)), (3, .ref (ga g 102))]) hx hb dL_law_662 hl (k := 6) rfl (congrArg (fun z => v4 + z) (show Int32.ofInt 4 = 4 by decide)) (by decide) rfl (fun ls hl => ?_)
          refine lv_goto (tgt := 23) hx hb dL_law_665 (by decide) ?_
          exact ih σ166 _ _ _ _ _ _ _ hm hI (lv_sub hl [3, 4, 5, 6, 0] rfl) hacc
        · obtain ⟨hac, hm⟩ := gac_some hm
          refine k_w hI hA (vx_runSW (As := [.ref (ga g 0), .int (xs (ix (v4 + 1))), .int (xs (ix (v4 + 2))), .ref (ga g 102)]) (rest := []) ⟨hx, hb, hml, hown, hts⟩ (c_L_peek_b hst N n h1 _) (vx_cwSW 4 hts in_L_peek rfl rfl rfl (by decide +kernel) ⟨Nat.le_of_ble_eq_true rfl, Nat.le_of_ble_eq_true rfl⟩) ⟨q_blind, q_to hI hK hN hZ hA⟩ rfl rfl hl.1 rfl (lv_room (Nat.le_of_ble_eq_true rfl)) dL_law_611 ⟨by show 1000 + (acc) + 1 ≤ 601024; omega, by show 100000 + (acc) + 6 ≤ 7293034; omega⟩) (fun H locs hI => ?_)
          refine W.widen (k := 1000 + (acc + 6)) (n := 100000 + (acc + 6)) (by omega) (by omega) ?_
          refine lv_istore (lv' := [(5, .int 1), (0, .ref b), (1, .ref (ga g 0)), (2, .ref (ga g 59)), (3, .ref (ga g 102)), (4, .int v4)]) hx hb dL_law_614 hl (by decide) rfl (fun ls hl => ?_)
          refine lv_aload_n hx hb dL_law_616 rfl (lv_at hl 3 rfl) ?_
          refine lv_aload_n hx hb dL_law_617 rfl (lv_at hl 1 rfl) ?_
          refine lv_iload hx hb dL_law_618 (lv_at hl 5 rfl) ?_
          refine lv_iconst (v := 1) hx hb dL_law_620 (by decide) ?_
          refine lv_iadd hx hb dL_law_621 ?_
          obtain ⟨g168, hm⟩ := gb_some hm
          refine sl_ld hx hb hScr hbl hbA hI.2.2 g168 dL_law_622 ?_
          refine lv_aload_n hx hb dL_law_623 rfl (lv_at hl 1 rfl) ?_
          refine lv_iload hx hb dL_law_624 (lv_at hl 5 rfl) ?_
          refine lv_iconst (v := 2) hx hb dL_law_626 (by decide) ?_
          refine lv_iadd hx hb dL_law_627 ?_
          obtain ⟨g169, hm⟩ := gb_some hm
          refine sl_ld hx hb hScr hbl hbA hI.2.2 g169 dL_law_628 ?_
          obtain ⟨r170, σ171, h172, hm⟩ := bd_some hm
          refine k_i hI hA (va_runV (As := [.int (xs (ix (v4 + 1))), .int (xs (ix (v4 + 2)))]) (rest := []) hX (c_X12_peek N n h172 _) (cwV 2 ht (in_V mw_1204 mw_1205 mw_1206 mw_861 mw_1086) rfl rfl rfl pd_X12_peek ⟨Nat.le_of_ble_eq_true rfl, Nat.le_of_ble_eq_true rfl⟩) ⟨q_blind, va_recv hK hI.1 (ci := 11) (q0 := 59) rfl rfl, q_to hI hK hN hZ hA⟩ rfl rfl hl.1 rfl (lv_room (Nat.le_of_ble_eq_true rfl)) dL_law_629 ⟨by show 1000 + (acc + 6) + 0 ≤ 601024; omega, by show 100000 + (acc + 6) + 0 ≤ 7293034; omega⟩) (fun H locs hI => ?_)
          refine lv_istore (lv' := [(6, .int r170), (5, .int 1), (0, .ref b), (1, .ref (ga g 0)), (2, .ref (ga g 59)), (3, .ref (ga g 102)), (4, .int v4)]) hx hb dL_law_632 hl (by decide) rfl (fun ls hl => ?_)
          refine lv_goto (tgt := 662) hx hb dL_law_634 (by decide) ?_
          refine lv_iinc (v := v4 + 4) (lv' := [(4, .int (v4 + 4)), (6, .int r170), (5, .int 1), (0, .ref b), (1, .ref (ga g 0)), (2, .ref (ga g 59)), (3, .ref (ga g 102))]) hx hb dL_law_662 hl (k := 6) rfl (congrArg (fun z => v4 + z) (show Int32.ofInt 4 = 4 by decide)) (by decide) rfl (fun ls hl => ?_)
          refine lv_goto (tgt := 23) hx hb dL_law_665 (by decide) ?_
          exact ih σ171 _ _ _ _ _ _ _ hm hI (lv_sub hl [3, 4, 5, 6, 0] rfl) hac
      have hm := (if_neg c160).symm.trans hm
      by_cases c173 : ((xs (ix v4)) &&& 31) = 17
      · have hm := (if_pos c173).symm.trans hm
        refine lv_tableIn (off := 598) (tgt := 637) hx hb dL_law_39 (by (rw [c173]; decide)) (by (rw [c173]; decide)) (by (rw [c173]; rfl)) (by decide) ?_
        refine lv_aload_n hx hb dL_law_637 rfl (lv_at hl 1 rfl) ?_
        refine lv_aload_n hx hb dL_law_638 rfl (lv_at hl 0 rfl) ?_
        refine lv_iload hx hb dL_law_639 (lv_at hl 4 rfl) ?_
        refine lv_iconst (v := 1) hx hb dL_law_641 (by decide) ?_
        refine lv_iadd hx hb dL_law_642 ?_
        obtain ⟨g174, hm⟩ := gb_some hm
        refine sl_ld hx hb hScr hbl hbA hI.2.2 g174 dL_law_643 ?_
        obtain ⟨r175, σ176, h177, hm⟩ := bd_some hm
        refine k_i hI hA (va_runV (As := [.int (xs (ix (v4 + 1)))]) (rest := []) hX (c_X11_count N n h177 _) (cwV 1 ht (in_V mw_1207 mw_1208 mw_1209 mw_267 mw_753) rfl rfl rfl pd_X11_count ⟨Nat.le_of_ble_eq_true rfl, Nat.le_of_ble_eq_true rfl⟩) ⟨q_blind, va_recv hK hI.1 (ci := 10) (q0 := 0) rfl rfl, q_to hI hK hN hZ hA⟩ rfl rfl hl.1 rfl (lv_room (Nat.le_of_ble_eq_true rfl)) dL_law_644 ⟨by show 1000 + (acc) + 0 ≤ 601024; omega, by show 100000 + (acc) + 0 ≤ 7293034; omega⟩) (fun H locs hI => ?_)
        refine lv_pop hx hb dL_law_647 rfl ?_
        refine lv_aload_n hx hb dL_law_648 rfl (lv_at hl 2 rfl) ?_
        refine lv_aload_n hx hb dL_law_649 rfl (lv_at hl 0 rfl) ?_
        refine lv_iload hx hb dL_law_650 (lv_at hl 4 rfl) ?_
        refine lv_iconst (v := 1) hx hb dL_law_652 (by decide) ?_
        refine lv_iadd hx hb dL_law_653 ?_
        obtain ⟨g178, hm⟩ := gb_some hm
        refine sl_ld hx hb hScr hbl hbA hI.2.2 g178 dL_law_654 ?_
        obtain ⟨r179, σ180, h181, hm⟩ := bd_some hm
        refine k_i hI hA (va_runV (As := [.int (xs (ix (v4 + 1)))]) (rest := []) hX (c_X12_count N n h181 _) (cwV 1 ht (in_V mw_1210 mw_1211 mw_1212 mw_861 mw_1087) rfl rfl rfl pd_X12_count ⟨Nat.le_of_ble_eq_true rfl, Nat.le_of_ble_eq_true rfl⟩) ⟨q_blind, va_recv hK hI.1 (ci := 11) (q0 := 59) rfl rfl, q_to hI hK hN hZ hA⟩ rfl rfl hl.1 rfl (lv_room (Nat.le_of_ble_eq_true rfl)) dL_law_655 ⟨by show 1000 + (acc) + 0 ≤ 601024; omega, by show 100000 + (acc) + 0 ≤ 7293034; omega⟩) (fun H locs hI => ?_)
        refine lv_pop hx hb dL_law_658 rfl ?_
        refine lv_goto (tgt := 662) hx hb dL_law_659 (by decide) ?_
        refine lv_iinc (v := v4 + 4) (lv' := [(4, .int (v4 + 4)), (0, .ref b), (1, .ref (ga g 0)), (2, .ref (ga g 59)), (3, .ref (ga g 102))]) hx hb dL_law_662 hl (k := 4) rfl (congrArg (fun z => v4 + z) (show Int32.ofInt 4 = 4 by decide)) (by decide) rfl (fun ls hl => ?_)
        refine lv_goto (tgt := 23) hx hb dL_law_665 (by decide) ?_
        exact ih σ180 _ _ _ _ _ _ _ hm hI (lv_sub hl [1, 2, 3, 4, 0] rfl) hacc
      have hm := (if_neg c173).symm.trans hm
      refine sw_d (tgt := 662) hx hb [0, 1, 2, 3, 4, 5, 6, 7, 8, 9, 10, 11, 12, 13, 14, 15, 16, 17] dL_law_39 (by decide) (by decide) (ne_c (lv_neT c3 (by decide)) (ne_c (lv_neT c14 (by decide)) (ne_c (lv_neT c25 (by decide)) (ne_c (lv_neT c32 (by decide)) (ne_c (lv_neT c43 (by decide)) (ne_c (lv_neT c50 (by decide)) (ne_c (lv_neT c56 (by decide)) (ne_c (lv_neT c72 (by decide)) (ne_c (lv_neT c81 (by decide)) (ne_c (lv_neT c94 (by decide)) (ne_c (lv_neT c103 (by decide)) (ne_c (lv_neT c112 (by decide)) (ne_c (lv_neT c123 (by decide)) (ne_c (lv_neT c130 (by decide)) (ne_c (lv_neT c140 (by decide)) (ne_c (lv_neT c149 (by decide)) (ne_c (lv_neT c160 (by decide)) (ne_c (lv_neT c173 (by decide)) ne_n)))))))))))))))))) (by decide) ?_
      refine lv_iinc (v := v4 + 4) (lv' := [(4, .int (v4 + 4)), (0, .ref b), (1, .ref (ga g 0)), (2, .ref (ga g 59)), (3, .ref (ga g 102))]) hx hb dL_law_662 hl (k := 4) rfl (congrArg (fun z => v4 + z) (show Int32.ofInt 4 = 4 by decide)) (by decide) rfl (fun ls hl => ?_)
      refine lv_goto (tgt := 23) hx hb dL_law_665 (by decide) ?_
      exact ih σ _ _ _ _ _ _ _ hm hI (lv_sub hl [1, 2, 3, 4, 0] rfl) hacc
