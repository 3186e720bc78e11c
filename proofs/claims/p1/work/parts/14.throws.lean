def wq_X11_op : List Cond := .code yX11_op cX11_op 4 (some .int) :: (([.code yX11_isTurned cX11_isTurned 2 (some .boolean), .fieldLink RX11 28 "RegisterMill" "turner" "LRegisterMill$Turner;", .fieldLink RX11 90 "RegisterMill$Turner" "registers" "I", .methodLink RX11 119 yX11_isTurned, .instanceMethod yX11_isTurned, .selects RX11 yX11_isTurned yX11_isTurned, .initialized RX11, .classLink RX11 125 "java/util/NoSuchElementException", .initialized "java/util/NoSuchElementException"] ++ wsX110 ++ wsX90) ++ vzS)
theorem gzS_wq_X11_op : GoodIn wq_X11_op vzS := goodIn_sub (fun w h => List.mem_cons_of_mem _ (List.mem_append_right _ h)) gz_good
set_option maxRecDepth 20000 in
theorem gq_X11_op_X11_isTurned_119 : GoodIn wq_X11_op (wsV RX11 119 RX11 yX11_isTurned wq_X11_isTurned) := goodIn_r _ [4, 5, 6, 7, 1, 2, 3, 10, 11, 12, 13, 14, 15, 16, 17, 18, 19, 20, 21, 22] (by decide +kernel) (by decide +kernel)
set_option maxHeartbeats 4000000 in
set_option maxRecDepth 100000 in
/-- op on a fresh object throws -/
theorem c_X11_op (l : Launch) (dC : Nat → ClassId) (dI : Nat → Nat → Nat) (cyI : ClassId) (sz : Nat) (h0 : Nat) (pr : Nat) (ck : Nat) (tu : Nat) (sm : Nat) (rm : Nat) (t_places : Nat) (t_live : Nat) (t_homes : Nat) (t_code : Nat) (t_writer : Nat) (t_placeCounts : Nat) (p0 : Int32) (p1 : Int32) (p2 : Int32) (hst : l.stackTraces = false) (sa sb : Nat) : vx_Met l yX11_op wq_X11_op ({ frames := 6, cells := 1, slots := 6, locals := 90 }) (va_Pc [.ref h0, .int p0, .int p1, .int p2] (tp_pre dC dI [(cyI, .int)] [(h0, .inr (10, [.ref pr, .ref ck, .ref tu, .ref sm, .ref rm])), (tu, .inr (8, [.ref pr, .ref t_places, .ref t_live, .ref t_homes, .ref t_code, .ref t_writer, .ref t_placeCounts, .int 0]))] sa sb sz)) (va_Qi (S := Unit) (fun (r : Int32) _ => False) (fun _ _ => True) (va_A [(h0, .inr (10, [.ref pr, .ref ck, .ref tu, .ref sm, .ref rm])), (tu, .inr (8, [.ref pr, .ref t_places, .ref t_live, .ref t_homes, .ref t_code, .ref t_writer, .ref t_placeCounts, .int 0]))] sz)) (vx_X (S := Unit) (fun _ => True) (fun E _ _ => E = "java/util/NoSuchElementException") (va_A [(h0, .inr (10, [.ref pr, .ref ck, .ref tu, .ref sm, .ref rm])), (tu, .inr (8, [.ref pr, .ref t_places, .ref t_live, .ref t_homes, .ref t_code, .ref t_writer, .ref t_placeCounts, .int 0]))] sz)) 1 6 (va_A [(h0, .inr (10, [.ref pr, .ref ck, .ref tu, .ref sm, .ref rm])), (tu, .inr (8, [.ref pr, .ref t_places, .ref t_live, .ref t_homes, .ref t_code, .ref t_writer, .ref t_placeCounts, .int 0]))] sz) := by
  refine vx_ofW (cc := cX11_op) (maxL := 4) (ret := (some .int)) (by decide) rfl ?_
  intro p e s m args below meth c s₁ B hml htb hv
  obtain ⟨rfl, ⟨hsz, hP, hK, hD0, hNW⟩, hZ⟩ := hv
  have hx := B.exec
  have hb := B.bytes
  have hr := B.returns
  have hts := atoms_spec (ws := wq_X11_op) B.pre
  have hown : s.vm.findClass RX11 = some m.cls := findClass_of_methodNamed B.named
  have hlocks := B.notSynchronized
  have hvz : ∀ w ∈ vzS, w.before _ s = true := fun w h => hts w (gzS_wq_X11_op w h).1
  have hiX11 : ∀ w ∈ wsX110, w ∈ wq_X11_op := by decide +kernel
  have hiX9 : ∀ w ∈ wsX90, w ∈ wq_X11_op := by decide +kernel
  subst hsz
  have hD := hD0.self (sz := s.heap.size)
  generalize hAe : va_A [(h0, .inr (10, [.ref pr, .ref ck, .ref tu, .ref sm, .ref rm])), (tu, .inr (8, [.ref pr, .ref t_places, .ref t_live, .ref t_homes, .ref t_code, .ref t_writer, .ref t_placeCounts, .int 0]))] s.heap.size = A at hD ⊢ hZ
  have hA : ∀ q : Nat, s.heap.size ≤ q → A q := fun q h => by rw [← hAe]; exact Or.inr h
  have hS : va_S A s.heap s.heap [] := va_S.rf
  have hl := lv_entry ([.ref h0, .int p0, .int p1, .int p2]) (n := 4) (Nat.le_of_ble_eq_true rfl)
  rw [lg_entry_eq]
  generalize (lg_sl ([.ref h0, .int p0, .int p1, .int p2]) ++ List.replicate (4 - (lg_sl ([.ref h0, .int p0, .int p1, .int p2])).length) Slot.unset).toArray = ls at hl ⊢
  have hl : lv_has ls 4 [(0, .ref h0), (1, .int p0), (2, .int p1), (3, .int p2)] := hl
  refine lv_aload_n hx hb dX11_op_0 rfl (lv_at hl 0 rfl) ?_
  refine lv_iload_n hx hb dX11_op_1 rfl (lv_at hl 1 rfl) ?_
  have hPc := hP.sub (ws' := [(h0, .inr (10, [.ref pr, .ref ck, .ref tu, .ref sm, .ref rm])), (tu, .inr (8, [.ref pr, .ref t_places, .ref t_live, .ref t_homes, .ref t_code, .ref t_writer, .ref t_placeCounts, .int 0]))]) [0, 1] rfl
  have hDc := hD.sub (ws' := [(h0, .inr (10, [.ref pr, .ref ck, .ref tu, .ref sm, .ref rm])), (tu, .inr (8, [.ref pr, .ref t_places, .ref t_live, .ref t_homes, .ref t_code, .ref t_writer, .ref t_placeCounts, .int 0]))]) [0, 1] (by decide) rfl
  have hKc := hK.sub (tys' := [(cyI, .int)]) [0] rfl
  have hFc := va_free (wc := [(h0, .inr (10, [.ref pr, .ref ck, .ref tu, .ref sm, .ref rm])), (tu, .inr (8, [.ref pr, .ref t_places, .ref t_live, .ref t_homes, .ref t_code, .ref t_writer, .ref t_placeCounts, .int 0]))]) hD hS hA [0, 1] rfl
  refine va_calli (va_runV (As := [.int p0]) (rest := []) ⟨hx, hb, hml, hown, hts⟩ (c_X11_isTurned l dC dI cyI s.heap.size h0 pr ck tu sm rm t_places t_live t_homes t_code t_writer t_placeCounts p0) (cwV 1 hts gq_X11_op_X11_isTurned_119 rfl rfl rfl (by decide +kernel) ⟨Nat.le_of_ble_eq_true rfl, Nat.le_of_ble_eq_true rfl⟩) ⟨pz_blind, va_recv hKc hPc (ci := 10) (q0 := 0) rfl rfl, pz_to hPc hKc hDc hNW⟩ rfl rfl hl.1 rfl (lv_room (Nat.le_of_ble_eq_true rfl)) dX11_op_2 (by decide)) hS (fun q _ h => hFc q h) hFc (fun r_1 u t H1 locs ht hvm hw hB hz1 hk1 hS => ?_)
  obtain ⟨hP1, hK1, hD1⟩ := hB
  rw [ht] at hP1
  obtain ⟨hP, hD⟩ := va_join (wr := []) (w1 := [(h0, .inr (10, [.ref pr, .ref ck, .ref tu, .ref sm, .ref rm])), (tu, .inr (8, [.ref pr, .ref t_places, .ref t_live, .ref t_homes, .ref t_code, .ref t_writer, .ref t_placeCounts, .int 0]))]) hP hD [0, 1] [] rfl rfl (by decide) (by decide) hk1 hFc hP1 hD1
  generalize H1 = H at hP hS ⊢
  have hP : va_P (dC, dI) vwCl [(h0, .inr (10, [.ref pr, .ref ck, .ref tu, .ref sm, .ref rm])), (tu, .inr (8, [.ref pr, .ref t_places, .ref t_live, .ref t_homes, .ref t_code, .ref t_writer, .ref t_placeCounts, .int 0]))] H := hP
  have hD : va_D A [(h0, .inr (10, [.ref pr, .ref ck, .ref tu, .ref sm, .ref rm])), (tu, .inr (8, [.ref pr, .ref t_places, .ref t_live, .ref t_homes, .ref t_code, .ref t_writer, .ref t_placeCounts, .int 0]))] := hD
  have er_1 : r_1 = 0 := hw
  subst er_1
  refine lv_if_eq (tgt := 28) hx hb dX11_op_5 (by decide) (fun _ => ?_) (fun h => absurd h (by decide))
  exact mz_throwS (A := A) (text := "no such op") (is := 127) hx hb hst hown (hts (.classLink RX11 125 "java/util/NoSuchElementException") (by decide +kernel)) (hts (.initialized "java/util/NoSuchElementException") (by decide +kernel)) hZ.2.2.2.1 (tz_hat hvz hZ.1) tz_good hZ.2.1 hZ.2.2.1 hS (hl.1.trans hml.symm) dX11_op_28 dX11_op_31 dX11_op_32 dX11_op_34 dX11_op_37 (fun x h => (htb x h).elim) (by decide) (by decide) (by decide) (by decide) hlocks (fun t _ hz hk => ⟨(), trivial, rfl, Nat.le_trans hS.1 hz, fun q h1 h2 => (hk q (Nat.lt_of_lt_of_le h1 hS.1)).trans (hS.2.1 q h1 h2)⟩) hS.2.2 (by decide) (by decide)

def wq_X11_peek_bad : List Cond := .code yX11_peek cX11_peek 3 (some .int) :: (([.classLink RX11 125 "java/util/NoSuchElementException", .initialized "java/util/NoSuchElementException"]) ++ vzS)
theorem gzS_wq_X11_peek_bad : GoodIn wq_X11_peek_bad vzS := goodIn_sub (fun w h => List.mem_cons_of_mem _ (List.mem_append_right _ h)) gz_good
set_option maxHeartbeats 4000000 in
set_option maxRecDepth 100000 in
/-- peek where there is no cell throws -/
theorem c_X11_peek_bad (l : Launch) (dC : Nat → ClassId) (dI : Nat → Nat → Nat) (cyI : ClassId) (sz : Nat) (h0 : Nat) (pr : Nat) (ck : Nat) (tu : Nat) (sm : Nat) (rm : Nat) (p0 : Int32) (p1 : Int32) (hst : l.stackTraces = false) (sa sb : Nat) (hbad : fz_bad p0 p1) : vx_Met l yX11_peek wq_X11_peek_bad ({ frames := 6, cells := 1, slots := 6, locals := 90 }) (va_Pc [.ref h0, .int p0, .int p1] (tp_pre dC dI [(cyI, .int)] [(h0, .inr (10, [.ref pr, .ref ck, .ref tu, .ref sm, .ref rm]))] sa sb sz)) (va_Qi (S := Unit) (fun (r : Int32) _ => False) (fun _ _ => True) (va_A [(h0, .inr (10, [.ref pr, .ref ck, .ref tu, .ref sm, .ref rm]))] sz)) (vx_X (S := Unit) (fun _ => True) (fun E _ _ => E = "java/util/NoSuchElementException") (va_A [(h0, .inr (10, [.ref pr, .ref ck, .ref tu, .ref sm, .ref rm]))] sz)) 1 6 (va_A [(h0, .inr (10, [.ref pr, .ref ck, .ref tu, .ref sm, .ref rm]))] sz) := by
  refine vx_ofW (cc := cX11_peek) (maxL := 3) (ret := (some .int)) (by decide) rfl ?_
  intro p e s m args below meth c s₁ B hml htb hv
  obtain ⟨rfl, ⟨hsz, hP, hK, hD0, hNW⟩, hZ⟩ := hv
  have hx := B.exec
  have hb := B.bytes
  have hr := B.returns
  have hts := atoms_spec (ws := wq_X11_peek_bad) B.pre
  have hown : s.vm.findClass RX11 = some m.cls := findClass_of_methodNamed B.named
  have hlocks := B.notSynchronized
  have hvz : ∀ w ∈ vzS, w.before _ s = true := fun w h => hts w (gzS_wq_X11_peek_bad w h).1
  subst hsz
  have hD := hD0.self (sz := s.heap.size)
  generalize hAe : va_A [(h0, .inr (10, [.ref pr, .ref ck, .ref tu, .ref sm, .ref rm]))] s.heap.size = A at hD ⊢ hZ
  have hA : ∀ q : Nat, s.heap.size ≤ q → A q := fun q h => by rw [← hAe]; exact Or.inr h
  have hS : va_S A s.heap s.heap [] := va_S.rf
  have hl := lv_entry ([.ref h0, .int p0, .int p1]) (n := 3) (Nat.le_of_ble_eq_true rfl)
  rw [lg_entry_eq]
  generalize (lg_sl ([.ref h0, .int p0, .int p1]) ++ List.replicate (3 - (lg_sl ([.ref h0, .int p0, .int p1])).length) Slot.unset).toArray = ls at hl ⊢
  have hl : lv_has ls 3 [(0, .ref h0), (1, .int p0), (2, .int p1)] := hl
  refine lv_iload_n hx hb dX11_peek_0 rfl (lv_at hl 1 rfl) ?_
  refine lv_if_lt (tgt := 19) hx hb dX11_peek_1 (by decide) (fun c_1 => ?_) (fun c_1 => ?_)
  · exact mz_throwS (A := A) (text := "no such cell") (is := 166) hx hb hst hown (hts (.classLink RX11 125 "java/util/NoSuchElementException") (by decide +kernel)) (hts (.initialized "java/util/NoSuchElementException") (by decide +kernel)) hZ.2.2.2.2 (tz_hat hvz hZ.1) tz_good hZ.2.1 hZ.2.2.1 hS (hl.1.trans hml.symm) dX11_peek_19 dX11_peek_22 dX11_peek_23 dX11_peek_25 dX11_peek_28 (fun x h => (htb x h).elim) (by decide) (by decide) (by decide) (by decide) hlocks (fun t _ hz hk => ⟨(), trivial, rfl, Nat.le_trans hS.1 hz, fun q h1 h2 => (hk q (Nat.lt_of_lt_of_le h1 hS.1)).trans (hS.2.1 q h1 h2)⟩) hS.2.2 (by decide) (by decide)
  · refine lv_iload_n hx hb dX11_peek_4 rfl (lv_at hl 1 rfl) ?_
    refine lv_iconst (v := 1) hx hb dX11_peek_5 (by decide) ?_
    refine lv_icmp_gt (tgt := 19) hx hb dX11_peek_6 (by decide) (fun c_2 => ?_) (fun c_2 => ?_)
    · exact mz_throwS (A := A) (text := "no such cell") (is := 166) hx hb hst hown (hts (.classLink RX11 125 "java/util/NoSuchElementException") (by decide +kernel)) (hts (.initialized "java/util/NoSuchElementException") (by decide +kernel)) hZ.2.2.2.2 (tz_hat hvz hZ.1) tz_good hZ.2.1 hZ.2.2.1 hS (hl.1.trans hml.symm) dX11_peek_19 dX11_peek_22 dX11_peek_23 dX11_peek_25 dX11_peek_28 (fun x h => (htb x h).elim) (by decide) (by decide) (by decide) (by decide) hlocks (fun t _ hz hk => ⟨(), trivial, rfl, Nat.le_trans hS.1 hz, fun q h1 h2 => (hk q (Nat.lt_of_lt_of_le h1 hS.1)).trans (hS.2.1 q h1 h2)⟩) hS.2.2 (by decide) (by decide)
    · refine lv_iload_n hx hb dX11_peek_9 rfl (lv_at hl 2 rfl) ?_
      refine lv_if_lt (tgt := 19) hx hb dX11_peek_10 (by decide) (fun c_3 => ?_) (fun c_3 => ?_)
      · exact mz_throwS (A := A) (text := "no such cell") (is := 166) hx hb hst hown (hts (.classLink RX11 125 "java/util/NoSuchElementException") (by decide +kernel)) (hts (.initialized "java/util/NoSuchElementException") (by decide +kernel)) hZ.2.2.2.2 (tz_hat hvz hZ.1) tz_good hZ.2.1 hZ.2.2.1 hS (hl.1.trans hml.symm) dX11_peek_19 dX11_peek_22 dX11_peek_23 dX11_peek_25 dX11_peek_28 (fun x h => (htb x h).elim) (by decide) (by decide) (by decide) (by decide) hlocks (fun t _ hz hk => ⟨(), trivial, rfl, Nat.le_trans hS.1 hz, fun q h1 h2 => (hk q (Nat.lt_of_lt_of_le h1 hS.1)).trans (hS.2.1 q h1 h2)⟩) hS.2.2 (by decide) (by decide)
      · refine lv_iload_n hx hb dX11_peek_13 rfl (lv_at hl 2 rfl) ?_
        refine lv_bipush (v := 64) hx hb dX11_peek_14 (by decide) ?_
        refine lv_icmp_lt (tgt := 29) hx hb dX11_peek_16 (by decide) (fun c_4 => ?_) (fun c_4 => ?_)
        · exact (hbad.elim c_1 (fun q => q.elim c_2 (fun q => q.elim c_3 (pz_nle c_4)))).elim
        · exact mz_throwS (A := A) (text := "no such cell") (is := 166) hx hb hst hown (hts (.classLink RX11 125 "java/util/NoSuchElementException") (by decide +kernel)) (hts (.initialized "java/util/NoSuchElementException") (by decide +kernel)) hZ.2.2.2.2 (tz_hat hvz hZ.1) tz_good hZ.2.1 hZ.2.2.1 hS (hl.1.trans hml.symm) dX11_peek_19 dX11_peek_22 dX11_peek_23 dX11_peek_25 dX11_peek_28 (fun x h => (htb x h).elim) (by decide) (by decide) (by decide) (by decide) hlocks (fun t _ hz hk => ⟨(), trivial, rfl, Nat.le_trans hS.1 hz, fun q h1 h2 => (hk q (Nat.lt_of_lt_of_le h1 hS.1)).trans (hS.2.1 q h1 h2)⟩) hS.2.2 (by decide) (by decide)

def wq_X12_peek_bad : List Cond := .code yX12_peek cX12_peek 3 (some .int) :: ([.fieldLink RX12 137 "RegisterMillModel" "thrown" "I", .code yX12_isCell cX12_isCell 1 (some .boolean), .methodLink RX12 317 yX12_isCell, .static yX12_isCell, .initialized RX12] ++ wsX120)
set_option maxRecDepth 20000 in
theorem gq_X12_peek_bad_X12_isCell_317 : GoodIn wq_X12_peek_bad (va_wsS RX12 317 yX12_isCell wq_X12_isCell) := goodIn_r _ [3, 4, 5, 2] (by decide +kernel) (by decide +kernel)
set_option maxHeartbeats 4000000 in
set_option maxRecDepth 100000 in
/-- the model marks it -/
theorem c_X12_peek_bad (l : Launch) (dC : Nat → ClassId) (dI : Nat → Nat → Nat) (cyI : ClassId) (sz : Nat) (mo : Nat) (m_args : Nat) (m_locals : Nat) (m_wordsFrom : Nat) (m_words : Nat) (m_op : Nat) (m_num : Nat) (m_depth : Nat) (m_gone : Nat) (m_does : Nat) (m_with : Nat) (m_value : Nat) (m_told : Nat) (m_became : Nat) (m_ahead : Nat) (m_begins : Nat) (m_copy : Nat) (m_live : Nat) (m_spanFrom : Nat) (m_spanTo : Nat) (m_register : Nat) (m_slot : Nat) (m_slots : Nat) (m_placesOf : Nat) (m_holds : Nat) (m_code : Nat) (m_opsFrom : Nat) (m_opsOf : Nat) (m_first : Nat) (m_memory : Nat) (m_end : Nat) (m_result : Nat) (m_steps : Nat) (m_made : Nat) (m_calls : Nat) (m_inFunc : Nat) (m_pc : Nat) (m_cell : Nat) (m_top : Nat) (m_inSlot : Nat) (m_passed : Nat) (m_passing : Nat) (m_toldBy : Nat) (p0 : Int32) (p1 : Int32) (hbad : fz_bad p0 p1) : Met l yX12_peek wq_X12_peek_bad ({ frames := 1, cells := 0, slots := 0, locals := 20 }) (va_Pc [.ref mo, .int p0, .int p1] (pz_pre dC dI [(cyI, .int)] [(mo, .inr (11, [.int 0, .int 0, .ref m_args, .ref m_locals, .ref m_wordsFrom, .ref m_words, .int 0, .ref m_op, .ref m_num, .ref m_depth, .int 0, .ref m_gone, .int 0, .ref m_does, .ref m_with, .ref m_value, .ref m_told, .ref m_became, .ref m_ahead, .ref m_begins, .ref m_copy, .ref m_live, .int 0, .ref m_spanFrom, .ref m_spanTo, .ref m_register, .ref m_slot, .ref m_slots, .ref m_placesOf, .ref m_holds, .int 0, .ref m_code, .ref m_opsFrom, .ref m_opsOf, .int 0, .int 0, .ref m_first, .int 0, .ref m_memory, .ref m_end, .ref m_result, .ref m_steps, .ref m_made, .ref m_calls, .ref m_inFunc, .ref m_pc, .ref m_cell, .ref m_top, .ref m_inSlot, .ref m_passed, .ref m_passing, .ref m_toldBy]))] sz)) (va_Qi (S := Unit) (fun (r : Int32) _ => r = 0) (fun _ t => pz_B dC dI [(cyI, .int)] (va_A [(mo, .inr (11, [.int 0, .int 0, .ref m_args, .ref m_locals, .ref m_wordsFrom, .ref m_words, .int 0, .ref m_op, .ref m_num, .ref m_depth, .int 0, .ref m_gone, .int 0, .ref m_does, .ref m_with, .ref m_value, .ref m_told, .ref m_became, .ref m_ahead, .ref m_begins, .ref m_copy, .ref m_live, .int 0, .ref m_spanFrom, .ref m_spanTo, .ref m_register, .ref m_slot, .ref m_slots, .ref m_placesOf, .ref m_holds, .int 0, .ref m_code, .ref m_opsFrom, .ref m_opsOf, .int 0, .int 0, .ref m_first, .int 0, .ref m_memory, .ref m_end, .ref m_result, .ref m_steps, .ref m_made, .ref m_calls, .ref m_inFunc, .ref m_pc, .ref m_cell, .ref m_top, .ref m_inSlot, .ref m_passed, .ref m_passing, .ref m_toldBy]))] sz) [(mo, .inr (11, [.int 1, .int 0, .ref m_args, .ref m_locals, .ref m_wordsFrom, .ref m_words, .int 0, .ref m_op, .ref m_num, .ref m_depth, .int 0, .ref m_gone, .int 0, .ref m_does, .ref m_with, .ref m_value, .ref m_told, .ref m_became, .ref m_ahead, .ref m_begins, .ref m_copy, .ref m_live, .int 0, .ref m_spanFrom, .ref m_spanTo, .ref m_register, .ref m_slot, .ref m_slots, .ref m_placesOf, .ref m_holds, .int 0, .ref m_code, .ref m_opsFrom, .ref m_opsOf, .int 0, .int 0, .ref m_first, .int 0, .ref m_memory, .ref m_end, .ref m_result, .ref m_steps, .ref m_made, .ref m_calls, .ref m_inFunc, .ref m_pc, .ref m_cell, .ref m_top, .ref m_inSlot, .ref m_passed, .ref m_passing, .ref m_toldBy]))] t) (va_A [(mo, .inr (11, [.int 0, .int 0, .ref m_args, .ref m_locals, .ref m_wordsFrom, .ref m_words, .int 0, .ref m_op, .ref m_num, .ref m_depth, .int 0, .ref m_gone, .int 0, .ref m_does, .ref m_with, .ref m_value, .ref m_told, .ref m_became, .ref m_ahead, .ref m_begins, .ref m_copy, .ref m_live, .int 0, .ref m_spanFrom, .ref m_spanTo, .ref m_register, .ref m_slot, .ref m_slots, .ref m_placesOf, .ref m_holds, .int 0, .ref m_code, .ref m_opsFrom, .ref m_opsOf, .int 0, .int 0, .ref m_first, .int 0, .ref m_memory, .ref m_end, .ref m_result, .ref m_steps, .ref m_made, .ref m_calls, .ref m_inFunc, .ref m_pc, .ref m_cell, .ref m_top, .ref m_inSlot, .ref m_passed, .ref m_passing, .ref m_toldBy]))] sz)) 0 0 (va_A [(mo, .inr (11, [.int 0, .int 0, .ref m_args, .ref m_locals, .ref m_wordsFrom, .ref m_words, .int 0, .ref m_op, .ref m_num, .ref m_depth, .int 0, .ref m_gone, .int 0, .ref m_does, .ref m_with, .ref m_value, .ref m_told, .ref m_became, .ref m_ahead, .ref m_begins, .ref m_copy, .ref m_live, .int 0, .ref m_spanFrom, .ref m_spanTo, .ref m_register, .ref m_slot, .ref m_slots, .ref m_placesOf, .ref m_holds, .int 0, .ref m_code, .ref m_opsFrom, .ref m_opsOf, .int 0, .int 0, .ref m_first, .int 0, .ref m_memory, .ref m_end, .ref m_result, .ref m_steps, .ref m_made, .ref m_calls, .ref m_inFunc, .ref m_pc, .ref m_cell, .ref m_top, .ref m_inSlot, .ref m_passed, .ref m_passing, .ref m_toldBy]))] sz) := by
  refine Met.ofW (cc := cX12_peek) (maxL := 3) (ret := (some .int)) (by decide) rfl ?_
  intro p e s m args below meth c s₁ B hml hv
  obtain ⟨rfl, hsz, hP, hK, hD0, hNW⟩ := hv
  have hx := B.exec
  have hb := B.bytes
  have hr := B.returns
  have hts := atoms_spec (ws := wq_X12_peek_bad) B.pre
  have hown : s.vm.findClass RX12 = some m.cls := findClass_of_methodNamed B.named
  have hlocks := B.notSynchronized
  have hiX12 : ∀ w ∈ wsX120, w ∈ wq_X12_peek_bad := by decide +kernel
  subst hsz
  have hD := hD0.self (sz := s.heap.size)
  generalize hAe : va_A [(mo, .inr (11, [.int 0, .int 0, .ref m_args, .ref m_locals, .ref m_wordsFrom, .ref m_words, .int 0, .ref m_op, .ref m_num, .ref m_depth, .int 0, .ref m_gone, .int 0, .ref m_does, .ref m_with, .ref m_value, .ref m_told, .ref m_became, .ref m_ahead, .ref m_begins, .ref m_copy, .ref m_live, .int 0, .ref m_spanFrom, .ref m_spanTo, .ref m_register, .ref m_slot, .ref m_slots, .ref m_placesOf, .ref m_holds, .int 0, .ref m_code, .ref m_opsFrom, .ref m_opsOf, .int 0, .int 0, .ref m_first, .int 0, .ref m_memory, .ref m_end, .ref m_result, .ref m_steps, .ref m_made, .ref m_calls, .ref m_inFunc, .ref m_pc, .ref m_cell, .ref m_top, .ref m_inSlot, .ref m_passed, .ref m_passing, .ref m_toldBy]))] s.heap.size = A at hD ⊢
  have hA : ∀ q : Nat, s.heap.size ≤ q → A q := fun q h => by rw [← hAe]; exact Or.inr h
  have hS : va_S A s.heap s.heap [] := va_S.rf
  have hl := lv_entry ([.ref mo, .int p0, .int p1]) (n := 3) (Nat.le_of_ble_eq_true rfl)
  rw [lg_entry_eq]
  generalize (lg_sl ([.ref mo, .int p0, .int p1]) ++ List.replicate (3 - (lg_sl ([.ref mo, .int p0, .int p1])).length) Slot.unset).toArray = ls at hl ⊢
  have hl : lv_has ls 3 [(0, .ref mo), (1, .int p0), (2, .int p1)] := hl
  refine lv_aload_n hx hb dX12_peek_0 rfl (lv_at hl 0 rfl) ?_
  refine lv_iload_n hx hb dX12_peek_1 rfl (lv_at hl 1 rfl) ?_
  refine lv_if_lt (tgt := 21) hx hb dX12_peek_2 (by decide) (fun c_1 => ?_) (fun c_1 => ?_)
  · refine lv_iconst (v := 1) hx hb dX12_peek_21 (by decide) ?_
    refine va_put (D := (dC, dI)) (ci := 11) (v := .int 1) (ty := .int) (C := RX12) (T := TX12) (N := 52) hx hb hts hiX12 tyX12 tyX12_ok nmX12 hown hK hP hD hS 0 rfl rfl 0 (by decide) (hts (.fieldLink RX12 137 "RegisterMillModel" "thrown" "I") (by decide +kernel)) (fun _ h9 => h9) rfl (by decide +kernel) rfl rfl (Nat.le_of_ble_eq_true rfl) dX12_peek_22 (fun H locs hP hD hS => ?_)
    have hP : va_P (dC, dI) vwCl [(mo, .inr (11, [.int 1, .int 0, .ref m_args, .ref m_locals, .ref m_wordsFrom, .ref m_words, .int 0, .ref m_op, .ref m_num, .ref m_depth, .int 0, .ref m_gone, .int 0, .ref m_does, .ref m_with, .ref m_value, .ref m_told, .ref m_became, .ref m_ahead, .ref m_begins, .ref m_copy, .ref m_live, .int 0, .ref m_spanFrom, .ref m_spanTo, .ref m_register, .ref m_slot, .ref m_slots, .ref m_placesOf, .ref m_holds, .int 0, .ref m_code, .ref m_opsFrom, .ref m_opsOf, .int 0, .int 0, .ref m_first, .int 0, .ref m_memory, .ref m_end, .ref m_result, .ref m_steps, .ref m_made, .ref m_calls, .ref m_inFunc, .ref m_pc, .ref m_cell, .ref m_top, .ref m_inSlot, .ref m_passed, .ref m_passing, .ref m_toldBy]))] H := hP
    have hD : va_D A [(mo, .inr (11, [.int 1, .int 0, .ref m_args, .ref m_locals, .ref m_wordsFrom, .ref m_words, .int 0, .ref m_op, .ref m_num, .ref m_depth, .int 0, .ref m_gone, .int 0, .ref m_does, .ref m_with, .ref m_value, .ref m_told, .ref m_became, .ref m_ahead, .ref m_begins, .ref m_copy, .ref m_live, .int 0, .ref m_spanFrom, .ref m_spanTo, .ref m_register, .ref m_slot, .ref m_slots, .ref m_placesOf, .ref m_holds, .int 0, .ref m_code, .ref m_opsFrom, .ref m_opsOf, .int 0, .int 0, .ref m_first, .int 0, .ref m_memory, .ref m_end, .ref m_result, .ref m_steps, .ref m_made, .ref m_calls, .ref m_inFunc, .ref m_pc, .ref m_cell, .ref m_top, .ref m_inSlot, .ref m_passed, .ref m_passing, .ref m_toldBy]))] := hD
    refine lv_aload_n hx hb dX12_peek_25 rfl (lv_at hl 0 rfl) ?_
    refine va_get (D := (dC, dI)) (ci := 11) (v := .int 1) (C := RX12) (T := TX12) (N := 52) hx hb hts hiX12 hown hK hP 0 rfl rfl 0 (by decide) (hts (.fieldLink RX12 137 "RegisterMillModel" "thrown" "I") (by decide +kernel)) (fun _ h9 => h9) rfl dX12_peek_26 ?_
    refine lv_if_le (tgt := 36) hx hb dX12_peek_29 (by decide) (fun h => absurd h (by decide)) (fun _ => ?_)
    refine lv_iconst (v := 0) hx hb dX12_peek_32 (by decide) ?_
    refine lv_goto (tgt := 47) hx hb dX12_peek_33 (by decide) ?_
    have hP9 := hP.sub (ws' := [(mo, .inr (11, [.int 1, .int 0, .ref m_args, .ref m_locals, .ref m_wordsFrom, .ref m_words, .int 0, .ref m_op, .ref m_num, .ref m_depth, .int 0, .ref m_gone, .int 0, .ref m_does, .ref m_with, .ref m_value, .ref m_told, .ref m_became, .ref m_ahead, .ref m_begins, .ref m_copy, .ref m_live, .int 0, .ref m_spanFrom, .ref m_spanTo, .ref m_register, .ref m_slot, .ref m_slots, .ref m_placesOf, .ref m_holds, .int 0, .ref m_code, .ref m_opsFrom, .ref m_opsOf, .int 0, .int 0, .ref m_first, .int 0, .ref m_memory, .ref m_end, .ref m_result, .ref m_steps, .ref m_made, .ref m_calls, .ref m_inFunc, .ref m_pc, .ref m_cell, .ref m_top, .ref m_inSlot, .ref m_passed, .ref m_passing, .ref m_toldBy]))]) [0] rfl
    have hD9 := hD.sub (ws' := [(mo, .inr (11, [.int 1, .int 0, .ref m_args, .ref m_locals, .ref m_wordsFrom, .ref m_words, .int 0, .ref m_op, .ref m_num, .ref m_depth, .int 0, .ref m_gone, .int 0, .ref m_does, .ref m_with, .ref m_value, .ref m_told, .ref m_became, .ref m_ahead, .ref m_begins, .ref m_copy, .ref m_live, .int 0, .ref m_spanFrom, .ref m_spanTo, .ref m_register, .ref m_slot, .ref m_slots, .ref m_placesOf, .ref m_holds, .int 0, .ref m_code, .ref m_opsFrom, .ref m_opsOf, .int 0, .int 0, .ref m_first, .int 0, .ref m_memory, .ref m_end, .ref m_result, .ref m_steps, .ref m_made, .ref m_calls, .ref m_inFunc, .ref m_pc, .ref m_cell, .ref m_top, .ref m_inSlot, .ref m_passed, .ref m_passing, .ref m_toldBy]))]) [0] (by decide) rfl
    have h9 : (0 : Int32) = 0 := rfl
    exact W.iret (v := (0)) hx hb hr (fun t ht hW => ⟨⟨_, (), rfl, h9, pz_Bof hP9 hK hD9 ht hW⟩, hS.F ht⟩) hS.2.2 dX12_peek_47
  · refine lv_iload_n hx hb dX12_peek_5 rfl (lv_at hl 1 rfl) ?_
    refine lv_iconst (v := 2) hx hb dX12_peek_6 (by decide) ?_
    refine lv_icmp_ge (tgt := 21) hx hb dX12_peek_7 (by decide) (fun c_3 => ?_) (fun c_3 => ?_)
    · refine lv_iconst (v := 1) hx hb dX12_peek_21 (by decide) ?_
      refine va_put (D := (dC, dI)) (ci := 11) (v := .int 1) (ty := .int) (C := RX12) (T := TX12) (N := 52) hx hb hts hiX12 tyX12 tyX12_ok nmX12 hown hK hP hD hS 0 rfl rfl 0 (by decide) (hts (.fieldLink RX12 137 "RegisterMillModel" "thrown" "I") (by decide +kernel)) (fun _ h9 => h9) rfl (by decide +kernel) rfl rfl (Nat.le_of_ble_eq_true rfl) dX12_peek_22 (fun H locs hP hD hS => ?_)
      have hP : va_P (dC, dI) vwCl [(mo, .inr (11, [.int 1, .int 0, .ref m_args, .ref m_locals, .ref m_wordsFrom, .ref m_words, .int 0, .ref m_op, .ref m_num, .ref m_depth, .int 0, .ref m_gone, .int 0, .ref m_does, .ref m_with, .ref m_value, .ref m_told, .ref m_became, .ref m_ahead, .ref m_begins, .ref m_copy, .ref m_live, .int 0, .ref m_spanFrom, .ref m_spanTo, .ref m_register, .ref m_slot, .ref m_slots, .ref m_placesOf, .ref m_holds, .int 0, .ref m_code, .ref m_opsFrom, .ref m_opsOf, .int 0, .int 0, .ref m_first, .int 0, .ref m_memory, .ref m_end, .ref m_result, .ref m_steps, .ref m_made, .ref m_calls, .ref m_inFunc, .ref m_pc, .ref m_cell, .ref m_top, .ref m_inSlot, .ref m_passed, .ref m_passing, .ref m_toldBy]))] H := hP
      have hD : va_D A [(mo, .inr (11, [.int 1, .int 0, .ref m_args, .ref m_locals, .ref m_wordsFrom, .ref m_words, .int 0, .ref m_op, .ref m_num, .ref m_depth, .int 0, .ref m_gone, .int 0, .ref m_does, .ref m_with, .ref m_value, .ref m_told, .ref m_became, .ref m_ahead, .ref m_begins, .ref m_copy, .ref m_live, .int 0, .ref m_spanFrom, .ref m_spanTo, .ref m_register, .ref m_slot, .ref m_slots, .ref m_placesOf, .ref m_holds, .int 0, .ref m_code, .ref m_opsFrom, .ref m_opsOf, .int 0, .int 0, .ref m_first, .int 0, .ref m_memory, .ref m_end, .ref m_result, .ref m_steps, .ref m_made, .ref m_calls, .ref m_inFunc, .ref m_pc, .ref m_cell, .ref m_top, .ref m_inSlot, .ref m_passed, .ref m_passing, .ref m_toldBy]))] := hD
      refine lv_aload_n hx hb dX12_peek_25 rfl (lv_at hl 0 rfl) ?_
      refine va_get (D := (dC, dI)) (ci := 11) (v := .int 1) (C := RX12) (T := TX12) (N := 52) hx hb hts hiX12 hown hK hP 0 rfl rfl 0 (by decide) (hts (.fieldLink RX12 137 "RegisterMillModel" "thrown" "I") (by decide +kernel)) (fun _ h9 => h9) rfl dX12_peek_26 ?_
      refine lv_if_le (tgt := 36) hx hb dX12_peek_29 (by decide) (fun h => absurd h (by decide)) (fun _ => ?_)
      refine lv_iconst (v := 0) hx hb dX12_peek_32 (by decide) ?_
      refine lv_goto (tgt := 47) hx hb dX12_peek_33 (by decide) ?_
      have hP9 := hP.sub (ws' := [(mo, .inr (11, [.int 1, .int 0, .ref m_args, .ref m_locals, .ref m_wordsFrom, .ref m_words, .int 0, .ref m_op, .ref m_num, .ref m_depth, .int 0, .ref m_gone, .int 0, .ref m_does, .ref m_with, .ref m_value, .ref m_told, .ref m_became, .ref m_ahead, .ref m_begins, .ref m_copy, .ref m_live, .int 0, .ref m_spanFrom, .ref m_spanTo, .ref m_register, .ref m_slot, .ref m_slots, .ref m_placesOf, .ref m_holds, .int 0, .ref m_code, .ref m_opsFrom, .ref m_opsOf, .int 0, .int 0, .ref m_first, .int 0, .ref m_memory, .ref m_end, .ref m_result, .ref m_steps, .ref m_made, .ref m_calls, .ref m_inFunc, .ref m_pc, .ref m_cell, .ref m_top, .ref m_inSlot, .ref m_passed, .ref m_passing, .ref m_toldBy]))]) [0] rfl
      have hD9 := hD.sub (ws' := [(mo, .inr (11, [.int 1, .int 0, .ref m_args, .ref m_locals, .ref m_wordsFrom, .ref m_words, .int 0, .ref m_op, .ref m_num, .ref m_depth, .int 0, .ref m_gone, .int 0, .ref m_does, .ref m_with, .ref m_value, .ref m_told, .ref m_became, .ref m_ahead, .ref m_begins, .ref m_copy, .ref m_live, .int 0, .ref m_spanFrom, .ref m_spanTo, .ref m_register, .ref m_slot, .ref m_slots, .ref m_placesOf, .ref m_holds, .int 0, .ref m_code, .ref m_opsFrom, .ref m_opsOf, .int 0, .int 0, .ref m_first, .int 0, .ref m_memory, .ref m_end, .ref m_result, .ref m_steps, .ref m_made, .ref m_calls, .ref m_inFunc, .ref m_pc, .ref m_cell, .ref m_top, .ref m_inSlot, .ref m_passed, .ref m_passing, .ref m_toldBy]))]) [0] (by decide) rfl
      have h9 : (0 : Int32) = 0 := rfl
      exact W.iret (v := (0)) hx hb hr (fun t ht hW => ⟨⟨_, (), rfl, h9, pz_Bof hP9 hK hD9 ht hW⟩, hS.F ht⟩) hS.2.2 dX12_peek_47
    · refine lv_iload_n hx hb dX12_peek_10 rfl (lv_at hl 2 rfl) ?_
      by_cases c_5 : p1 < 0
      · have hPc := hP.sub (ws' := []) [] rfl
        have hDc := hD.sub (ws' := []) [] (by decide) rfl
        have hKc := hK.sub (tys' := [(cyI, .int)]) [0] rfl
        have hFc := va_free (wc := []) hD hS hA [] rfl
        refine va_calli (va_runS (As := [.int p1]) (rest := [.ref mo]) ⟨hx, hb, hml, hown, hts⟩ (c_X12_isCell l dC dI cyI s.heap.size p1) (va_cwS 1 hts gq_X12_peek_bad_X12_isCell_317 rfl rfl rfl (by decide +kernel) ⟨Nat.le_of_ble_eq_true rfl, Nat.le_of_ble_eq_true rfl⟩) ⟨pz_blind, pz_to hPc hKc hDc hNW⟩ rfl rfl hl.1 rfl (lv_room (Nat.le_of_ble_eq_true rfl)) dX12_peek_11 (by decide)) hS (fun q _ h => hFc q h) hFc (fun r_6 u t H1 locs ht hvm hw hB hz1 hk1 hS => ?_)
        have hP1 : va_P (dC, dI) vwCl [] H1 := pz_Pn
        have hD1 : va_D (va_A [] s.heap.size) [] := pz_Dn
        obtain ⟨hP, hD⟩ := va_join (wr := [(mo, .inr (11, [.int 0, .int 0, .ref m_args, .ref m_locals, .ref m_wordsFrom, .ref m_words, .int 0, .ref m_op, .ref m_num, .ref m_depth, .int 0, .ref m_gone, .int 0, .ref m_does, .ref m_with, .ref m_value, .ref m_told, .ref m_became, .ref m_ahead, .ref m_begins, .ref m_copy, .ref m_live, .int 0, .ref m_spanFrom, .ref m_spanTo, .ref m_register, .ref m_slot, .ref m_slots, .ref m_placesOf, .ref m_holds, .int 0, .ref m_code, .ref m_opsFrom, .ref m_opsOf, .int 0, .int 0, .ref m_first, .int 0, .ref m_memory, .ref m_end, .ref m_result, .ref m_steps, .ref m_made, .ref m_calls, .ref m_inFunc, .ref m_pc, .ref m_cell, .ref m_top, .ref m_inSlot, .ref m_passed, .ref m_passing, .ref m_toldBy]))]) (w1 := []) hP hD [] [0] rfl rfl (by decide) (by decide) hk1 hFc hP1 hD1
        generalize H1 = H at hP hS ⊢
        have hP : va_P (dC, dI) vwCl [(mo, .inr (11, [.int 0, .int 0, .ref m_args, .ref m_locals, .ref m_wordsFrom, .ref m_words, .int 0, .ref m_op, .ref m_num, .ref m_depth, .int 0, .ref m_gone, .int 0, .ref m_does, .ref m_with, .ref m_value, .ref m_told, .ref m_became, .ref m_ahead, .ref m_begins, .ref m_copy, .ref m_live, .int 0, .ref m_spanFrom, .ref m_spanTo, .ref m_register, .ref m_slot, .ref m_slots, .ref m_placesOf, .ref m_holds, .int 0, .ref m_code, .ref m_opsFrom, .ref m_opsOf, .int 0, .int 0, .ref m_first, .int 0, .ref m_memory, .ref m_end, .ref m_result, .ref m_steps, .ref m_made, .ref m_calls, .ref m_inFunc, .ref m_pc, .ref m_cell, .ref m_top, .ref m_inSlot, .ref m_passed, .ref m_passing, .ref m_toldBy]))] H := hP
        have hD : va_D A [(mo, .inr (11, [.int 0, .int 0, .ref m_args, .ref m_locals, .ref m_wordsFrom, .ref m_words, .int 0, .ref m_op, .ref m_num, .ref m_depth, .int 0, .ref m_gone, .int 0, .ref m_does, .ref m_with, .ref m_value, .ref m_told, .ref m_became, .ref m_ahead, .ref m_begins, .ref m_copy, .ref m_live, .int 0, .ref m_spanFrom, .ref m_spanTo, .ref m_register, .ref m_slot, .ref m_slots, .ref m_placesOf, .ref m_holds, .int 0, .ref m_code, .ref m_opsFrom, .ref m_opsOf, .int 0, .int 0, .ref m_first, .int 0, .ref m_memory, .ref m_end, .ref m_result, .ref m_steps, .ref m_made, .ref m_calls, .ref m_inFunc, .ref m_pc, .ref m_cell, .ref m_top, .ref m_inSlot, .ref m_passed, .ref m_passing, .ref m_toldBy]))] := hD
        have er_6 : r_6 = fz_cell p1 := hw
        have er_6 : r_6 = 0 := by rw [er_6, fz_cell, if_pos c_5]
        subst er_6
        refine lv_if_eq (tgt := 21) hx hb dX12_peek_14 (by decide) (fun _ => ?_) (fun h => absurd h (by decide))
        refine lv_iconst (v := 1) hx hb dX12_peek_21 (by decide) ?_
        refine va_put (D := (dC, dI)) (ci := 11) (v := .int 1) (ty := .int) (C := RX12) (T := TX12) (N := 52) hx hb hts hiX12 tyX12 tyX12_ok nmX12 hown hK hP hD hS 0 rfl rfl 0 (by decide) (hts (.fieldLink RX12 137 "RegisterMillModel" "thrown" "I") (by decide +kernel)) (fun _ h9 => h9) rfl (by decide +kernel) rfl rfl (Nat.le_of_ble_eq_true rfl) dX12_peek_22 (fun H locs hP hD hS => ?_)
        have hP : va_P (dC, dI) vwCl [(mo, .inr (11, [.int 1, .int 0, .ref m_args, .ref m_locals, .ref m_wordsFrom, .ref m_words, .int 0, .ref m_op, .ref m_num, .ref m_depth, .int 0, .ref m_gone, .int 0, .ref m_does, .ref m_with, .ref m_value, .ref m_told, .ref m_became, .ref m_ahead, .ref m_begins, .ref m_copy, .ref m_live, .int 0, .ref m_spanFrom, .ref m_spanTo, .ref m_register, .ref m_slot, .ref m_slots, .ref m_placesOf, .ref m_holds, .int 0, .ref m_code, .ref m_opsFrom, .ref m_opsOf, .int 0, .int 0, .ref m_first, .int 0, .ref m_memory, .ref m_end, .ref m_result, .ref m_steps, .ref m_made, .ref m_calls, .ref m_inFunc, .ref m_pc, .ref m_cell, .ref m_top, .ref m_inSlot, .ref m_passed, .ref m_passing, .ref m_toldBy]))] H := hP
        have hD : va_D A [(mo, .inr (11, [.int 1, .int 0, .ref m_args, .ref m_locals, .ref m_wordsFrom, .ref m_words, .int 0, .ref m_op, .ref m_num, .ref m_depth, .int 0, .ref m_gone, .int 0, .ref m_does, .ref m_with, .ref m_value, .ref m_told, .ref m_became, .ref m_ahead, .ref m_begins, .ref m_copy, .ref m_live, .int 0, .ref m_spanFrom, .ref m_spanTo, .ref m_register, .ref m_slot, .ref m_slots, .ref m_placesOf, .ref m_holds, .int 0, .ref m_code, .ref m_opsFrom, .ref m_opsOf, .int 0, .int 0, .ref m_first, .int 0, .ref m_memory, .ref m_end, .ref m_result, .ref m_steps, .ref m_made, .ref m_calls, .ref m_inFunc, .ref m_pc, .ref m_cell, .ref m_top, .ref m_inSlot, .ref m_passed, .ref m_passing, .ref m_toldBy]))] := hD
        refine lv_aload_n hx hb dX12_peek_25 rfl (lv_at hl 0 rfl) ?_
        refine va_get (D := (dC, dI)) (ci := 11) (v := .int 1) (C := RX12) (T := TX12) (N := 52) hx hb hts hiX12 hown hK hP 0 rfl rfl 0 (by decide) (hts (.fieldLink RX12 137 "RegisterMillModel" "thrown" "I") (by decide +kernel)) (fun _ h9 => h9) rfl dX12_peek_26 ?_
        refine lv_if_le (tgt := 36) hx hb dX12_peek_29 (by decide) (fun h => absurd h (by decide)) (fun _ => ?_)
        refine lv_iconst (v := 0) hx hb dX12_peek_32 (by decide) ?_
        refine lv_goto (tgt := 47) hx hb dX12_peek_33 (by decide) ?_
        have hP9 := hP.sub (ws' := [(mo, .inr (11, [.int 1, .int 0, .ref m_args, .ref m_locals, .ref m_wordsFrom, .ref m_words, .int 0, .ref m_op, .ref m_num, .ref m_depth, .int 0, .ref m_gone, .int 0, .ref m_does, .ref m_with, .ref m_value, .ref m_told, .ref m_became, .ref m_ahead, .ref m_begins, .ref m_copy, .ref m_live, .int 0, .ref m_spanFrom, .ref m_spanTo, .ref m_register, .ref m_slot, .ref m_slots, .ref m_placesOf, .ref m_holds, .int 0, .ref m_code, .ref m_opsFrom, .ref m_opsOf, .int 0, .int 0, .ref m_first, .int 0, .ref m_memory, .ref m_end, .ref m_result, .ref m_steps, .ref m_made, .ref m_calls, .ref m_inFunc, .ref m_pc, .ref m_cell, .ref m_top, .ref m_inSlot, .ref m_passed, .ref m_passing, .ref m_toldBy]))]) [0] rfl
        have hD9 := hD.sub (ws' := [(mo, .inr (11, [.int 1, .int 0, .ref m_args, .ref m_locals, .ref m_wordsFrom, .ref m_words, .int 0, .ref m_op, .ref m_num, .ref m_depth, .int 0, .ref m_gone, .int 0, .ref m_does, .ref m_with, .ref m_value, .ref m_told, .ref m_became, .ref m_ahead, .ref m_begins, .ref m_copy, .ref m_live, .int 0, .ref m_spanFrom, .ref m_spanTo, .ref m_register, .ref m_slot, .ref m_slots, .ref m_placesOf, .ref m_holds, .int 0, .ref m_code, .ref m_opsFrom, .ref m_opsOf, .int 0, .int 0, .ref m_first, .int 0, .ref m_memory, .ref m_end, .ref m_result, .ref m_steps, .ref m_made, .ref m_calls, .ref m_inFunc, .ref m_pc, .ref m_cell, .ref m_top, .ref m_inSlot, .ref m_passed, .ref m_passing, .ref m_toldBy]))]) [0] (by decide) rfl
        have h9 : (0 : Int32) = 0 := rfl
        exact W.iret (v := (0)) hx hb hr (fun t ht hW => ⟨⟨_, (), rfl, h9, pz_Bof hP9 hK hD9 ht hW⟩, hS.F ht⟩) hS.2.2 dX12_peek_47
      · by_cases c_9 : 64 ≤ p1
        · have hPc := hP.sub (ws' := []) [] rfl
          have hDc := hD.sub (ws' := []) [] (by decide) rfl
          have hKc := hK.sub (tys' := [(cyI, .int)]) [0] rfl
          have hFc := va_free (wc := []) hD hS hA [] rfl
          refine va_calli (va_runS (As := [.int p1]) (rest := [.ref mo]) ⟨hx, hb, hml, hown, hts⟩ (c_X12_isCell l dC dI cyI s.heap.size p1) (va_cwS 1 hts gq_X12_peek_bad_X12_isCell_317 rfl rfl rfl (by decide +kernel) ⟨Nat.le_of_ble_eq_true rfl, Nat.le_of_ble_eq_true rfl⟩) ⟨pz_blind, pz_to hPc hKc hDc hNW⟩ rfl rfl hl.1 rfl (lv_room (Nat.le_of_ble_eq_true rfl)) dX12_peek_11 (by decide)) hS (fun q _ h => hFc q h) hFc (fun r_10 u t H1 locs ht hvm hw hB hz1 hk1 hS => ?_)
          have hP1 : va_P (dC, dI) vwCl [] H1 := pz_Pn
          have hD1 : va_D (va_A [] s.heap.size) [] := pz_Dn
          obtain ⟨hP, hD⟩ := va_join (wr := [(mo, .inr (11, [.int 0, .int 0, .ref m_args, .ref m_locals, .ref m_wordsFrom, .ref m_words, .int 0, .ref m_op, .ref m_num, .ref m_depth, .int 0, .ref m_gone, .int 0, .ref m_does, .ref m_with, .ref m_value, .ref m_told, .ref m_became, .ref m_ahead, .ref m_begins, .ref m_copy, .ref m_live, .int 0, .ref m_spanFrom, .ref m_spanTo, .ref m_register, .ref m_slot, .ref m_slots, .ref m_placesOf, .ref m_holds, .int 0, .ref m_code, .ref m_opsFrom, .ref m_opsOf, .int 0, .int 0, .ref m_first, .int 0, .ref m_memory, .ref m_end, .ref m_result, .ref m_steps, .ref m_made, .ref m_calls, .ref m_inFunc, .ref m_pc, .ref m_cell, .ref m_top, .ref m_inSlot, .ref m_passed, .ref m_passing, .ref m_toldBy]))]) (w1 := []) hP hD [] [0] rfl rfl (by decide) (by decide) hk1 hFc hP1 hD1
          generalize H1 = H at hP hS ⊢
          have hP : va_P (dC, dI) vwCl [(mo, .inr (11, [.int 0, .int 0, .ref m_args, .ref m_locals, .ref m_wordsFrom, .ref m_words, .int 0, .ref m_op, .ref m_num, .ref m_depth, .int 0, .ref m_gone, .int 0, .ref m_does, .ref m_with, .ref m_value, .ref m_told, .ref m_became, .ref m_ahead, .ref m_begins, .ref m_copy, .ref m_live, .int 0, .ref m_spanFrom, .ref m_spanTo, .ref m_register, .ref m_slot, .ref m_slots, .ref m_placesOf, .ref m_holds, .int 0, .ref m_code, .ref m_opsFrom, .ref m_opsOf, .int 0, .int 0, .ref m_first, .int 0, .ref m_memory, .ref m_end, .ref m_result, .ref m_steps, .ref m_made, .ref m_calls, .ref m_inFunc, .ref m_pc, .ref m_cell, .ref m_top, .ref m_inSlot, .ref m_passed, .ref m_passing, .ref m_toldBy]))] H := hP
          have hD : va_D A [(mo, .inr (11, [.int 0, .int 0, .ref m_args, .ref m_locals, .ref m_wordsFrom, .ref m_words, .int 0, .ref m_op, .ref m_num, .ref m_depth, .int 0, .ref m_gone, .int 0, .ref m_does, .ref m_with, .ref m_value, .ref m_told, .ref m_became, .ref m_ahead, .ref m_begins, .ref m_copy, .ref m_live, .int 0, .ref m_spanFrom, .ref m_spanTo, .ref m_register, .ref m_slot, .ref m_slots, .ref m_placesOf, .ref m_holds, .int 0, .ref m_code, .ref m_opsFrom, .ref m_opsOf, .int 0, .int 0, .ref m_first, .int 0, .ref m_memory, .ref m_end, .ref m_result, .ref m_steps, .ref m_made, .ref m_calls, .ref m_inFunc, .ref m_pc, .ref m_cell, .ref m_top, .ref m_inSlot, .ref m_passed, .ref m_passing, .ref m_toldBy]))] := hD
          have er_10 : r_10 = fz_cell p1 := hw
          have er_10 : r_10 = 0 := by rw [er_10, fz_cell, if_neg c_5, if_pos c_9]
          subst er_10
          refine lv_if_eq (tgt := 21) hx hb dX12_peek_14 (by decide) (fun _ => ?_) (fun h => absurd h (by decide))
          refine lv_iconst (v := 1) hx hb dX12_peek_21 (by decide) ?_
          refine va_put (D := (dC, dI)) (ci := 11) (v := .int 1) (ty := .int) (C := RX12) (T := TX12) (N := 52) hx hb hts hiX12 tyX12 tyX12_ok nmX12 hown hK hP hD hS 0 rfl rfl 0 (by decide) (hts (.fieldLink RX12 137 "RegisterMillModel" "thrown" "I") (by decide +kernel)) (fun _ h9 => h9) rfl (by decide +kernel) rfl rfl (Nat.le_of_ble_eq_true rfl) dX12_peek_22 (fun H locs hP hD hS => ?_)
          have hP : va_P (dC, dI) vwCl [(mo, .inr (11, [.int 1, .int 0, .ref m_args, .ref m_locals, .ref m_wordsFrom, .ref m_words, .int 0, .ref m_op, .ref m_num, .ref m_depth, .int 0, .ref m_gone, .int 0, .ref m_does, .ref m_with, .ref m_value, .ref m_told, .ref m_became, .ref m_ahead, .ref m_begins, .ref m_copy, .ref m_live, .int 0, .ref m_spanFrom, .ref m_spanTo, .ref m_register, .ref m_slot, .ref m_slots, .ref m_placesOf, .ref m_holds, .int 0, .ref m_code, .ref m_opsFrom, .ref m_opsOf, .int 0, .int 0, .ref m_first, .int 0, .ref m_memory, .ref m_end, .ref m_result, .ref m_steps, .ref m_made, .ref m_calls, .ref m_inFunc, .ref m_pc, .ref m_cell, .ref m_top, .ref m_inSlot, .ref m_passed, .ref m_passing, .ref m_toldBy]))] H := hP
          have hD : va_D A [(mo, .inr (11, [.int 1, .int 0, .ref m_args, .ref m_locals, .ref m_wordsFrom, .ref m_words, .int 0, .ref m_op, .ref m_num, .ref m_depth, .int 0, .ref m_gone, .int 0, .ref m_does, .ref m_with, .ref m_value, .ref m_told, .ref m_became, .ref m_ahead, .ref m_begins, .ref m_copy, .ref m_live, .int 0, .ref m_spanFrom, .ref m_spanTo, .ref m_register, .ref m_slot, .ref m_slots, .ref m_placesOf, .ref m_holds, .int 0, .ref m_code, .ref m_opsFrom, .ref m_opsOf, .int 0, .int 0, .ref m_first, .int 0, .ref m_memory, .ref m_end, .ref m_result, .ref m_steps, .ref m_made, .ref m_calls, .ref m_inFunc, .ref m_pc, .ref m_cell, .ref m_top, .ref m_inSlot, .ref m_passed, .ref m_passing, .ref m_toldBy]))] := hD
          refine lv_aload_n hx hb dX12_peek_25 rfl (lv_at hl 0 rfl) ?_
          refine va_get (D := (dC, dI)) (ci := 11) (v := .int 1) (C := RX12) (T := TX12) (N := 52) hx hb hts hiX12 hown hK hP 0 rfl rfl 0 (by decide) (hts (.fieldLink RX12 137 "RegisterMillModel" "thrown" "I") (by decide +kernel)) (fun _ h9 => h9) rfl dX12_peek_26 ?_
          refine lv_if_le (tgt := 36) hx hb dX12_peek_29 (by decide) (fun h => absurd h (by decide)) (fun _ => ?_)
          refine lv_iconst (v := 0) hx hb dX12_peek_32 (by decide) ?_
          refine lv_goto (tgt := 47) hx hb dX12_peek_33 (by decide) ?_
          have hP9 := hP.sub (ws' := [(mo, .inr (11, [.int 1, .int 0, .ref m_args, .ref m_locals, .ref m_wordsFrom, .ref m_words, .int 0, .ref m_op, .ref m_num, .ref m_depth, .int 0, .ref m_gone, .int 0, .ref m_does, .ref m_with, .ref m_value, .ref m_told, .ref m_became, .ref m_ahead, .ref m_begins, .ref m_copy, .ref m_live, .int 0, .ref m_spanFrom, .ref m_spanTo, .ref m_register, .ref m_slot, .ref m_slots, .ref m_placesOf, .ref m_holds, .int 0, .ref m_code, .ref m_opsFrom, .ref m_opsOf, .int 0, .int 0, .ref m_first, .int 0, .ref m_memory, .ref m_end, .ref m_result, .ref m_steps, .ref m_made, .ref m_calls, .ref m_inFunc, .ref m_pc, .ref m_cell, .ref m_top, .ref m_inSlot, .ref m_passed, .ref m_passing, .ref m_toldBy]))]) [0] rfl
          have hD9 := hD.sub (ws' := [(mo, .inr (11, [.int 1, .int 0, .ref m_args, .ref m_locals, .ref m_wordsFrom, .ref m_words, .int 0, .ref m_op, .ref m_num, .ref m_depth, .int 0, .ref m_gone, .int 0, .ref m_does, .ref m_with, .ref m_value, .ref m_told, .ref m_became, .ref m_ahead, .ref m_begins, .ref m_copy, .ref m_live, .int 0, .ref m_spanFrom, .ref m_spanTo, .ref m_register, .ref m_slot, .ref m_slots, .ref m_placesOf, .ref m_holds, .int 0, .ref m_code, .ref m_opsFrom, .ref m_opsOf, .int 0, .int 0, .ref m_first, .int 0, .ref m_memory, .ref m_end, .ref m_result, .ref m_steps, .ref m_made, .ref m_calls, .ref m_inFunc, .ref m_pc, .ref m_cell, .ref m_top, .ref m_inSlot, .ref m_passed, .ref m_passing, .ref m_toldBy]))]) [0] (by decide) rfl
          have h9 : (0 : Int32) = 0 := rfl
          exact W.iret (v := (0)) hx hb hr (fun t ht hW => ⟨⟨_, (), rfl, h9, pz_Bof hP9 hK hD9 ht hW⟩, hS.F ht⟩) hS.2.2 dX12_peek_47
        · exact (hbad.elim c_1 (fun q => q.elim (pz_2n c_3) (fun q => q.elim c_5 c_9))).elim

def wq_L_op : List Cond := .codeWith yL_op cL_op 6 (some .int) [(0, 12, 15, 13)] :: (([.code yX11_op cX11_op 4 (some .int), .code yX11_isTurned cX11_isTurned 2 (some .boolean), .fieldLink RX11 28 "RegisterMill" "turner" "LRegisterMill$Turner;", .fieldLink RX11 90 "RegisterMill$Turner" "registers" "I", .methodLink RX11 119 yX11_isTurned, .instanceMethod yX11_isTurned, .selects RX11 yX11_isTurned yX11_isTurned, .initialized RX11, .classLink RX11 125 "java/util/NoSuchElementException", .initialized "java/util/NoSuchElementException", .methodLink RL 7 yX11_op, .instanceMethod yX11_op, .selects RX11 yX11_op yX11_op, .classLink RL 13 "java/util/NoSuchElementException"] ++ wsX110 ++ wsX90) ++ vzS)
theorem gzS_wq_L_op : GoodIn wq_L_op vzS := goodIn_sub (fun w h => List.mem_cons_of_mem _ (List.mem_append_right _ h)) gz_good
set_option maxRecDepth 20000 in
theorem gq_L_op_X11_op_7 : GoodIn wq_L_op (wsV RL 7 RX11 yX11_op wq_X11_op) := gz_app (goodIn_r ([.methodLink RL 7 yX11_op, .instanceMethod yX11_op, .selects RX11 yX11_op yX11_op, .initialized RX11] ++ (.code yX11_op cX11_op 4 (some .int) :: ([.code yX11_isTurned cX11_isTurned 2 (some .boolean), .fieldLink RX11 28 "RegisterMill" "turner" "LRegisterMill$Turner;", .fieldLink RX11 90 "RegisterMill$Turner" "registers" "I", .methodLink RX11 119 yX11_isTurned, .instanceMethod yX11_isTurned, .selects RX11 yX11_isTurned yX11_isTurned, .initialized RX11, .classLink RX11 125 "java/util/NoSuchElementException", .initialized "java/util/NoSuchElementException"] ++ wsX110 ++ wsX90))) [11, 12, 13, 8, 1, 2, 3, 4, 5, 6, 7, 8, 9, 10, 15, 16, 17, 18, 19, 20, 21, 22, 23, 24, 25, 26, 27] (by decide +kernel) (by decide +kernel)) gzS_wq_L_op
set_option maxHeartbeats 4000000 in
set_option maxRecDepth 100000 in
/-- the law: op throws -/
theorem c_L_op (l : Launch) (dC : Nat → ClassId) (dI : Nat → Nat → Nat) (cyI : ClassId) (sz : Nat) (h0 : Nat) (pr : Nat) (ck : Nat) (tu : Nat) (sm : Nat) (rm : Nat) (t_places : Nat) (t_live : Nat) (t_homes : Nat) (t_code : Nat) (t_writer : Nat) (t_placeCounts : Nat) (p0 : Int32) (p1 : Int32) (p2 : Int32) (ou : Nat) (hst : l.stackTraces = false) (sa sb : Nat) : Met l yL_op wq_L_op ({ frames := 7, cells := 1, slots := 6, locals := 113 }) (va_Pc [.ref h0, .int p0, .int p1, .int p2, .ref ou] (tp_pre dC dI [(cyI, .int)] [(h0, .inr (10, [.ref pr, .ref ck, .ref tu, .ref sm, .ref rm])), (tu, .inr (8, [.ref pr, .ref t_places, .ref t_live, .ref t_homes, .ref t_code, .ref t_writer, .ref t_placeCounts, .int 0]))] sa sb sz)) (va_Qi (S := Unit) (fun (r : Int32) _ => r = 1) (fun _ _ => True) (va_A [(h0, .inr (10, [.ref pr, .ref ck, .ref tu, .ref sm, .ref rm])), (tu, .inr (8, [.ref pr, .ref t_places, .ref t_live, .ref t_homes, .ref t_code, .ref t_writer, .ref t_placeCounts, .int 0]))] sz)) 1 6 (va_A [(h0, .inr (10, [.ref pr, .ref ck, .ref tu, .ref sm, .ref rm])), (tu, .inr (8, [.ref pr, .ref t_places, .ref t_live, .ref t_homes, .ref t_code, .ref t_writer, .ref t_placeCounts, .int 0]))] sz) := by
  refine va_MetW (hh := [(0, 12, 15, 13)]) (cc := cL_op) (maxL := 6) (ret := (some .int)) (by decide) rfl ?_
  intro p e s m args below meth c s₁ B hml hv
  obtain ⟨rfl, ⟨hsz, hP, hK, hD0, hNW⟩, hZ⟩ := hv
  have hx := B.exec
  have hb := B.bytes
  have hr := B.returns
  have hts := atoms_spec (ws := wq_L_op) B.pre
  have hown : s.vm.findClass RL = some m.cls := findClass_of_methodNamed B.named
  have hlocks := B.notSynchronized
  have htab : c.exceptionTable.toList = tableOf [(0, 12, 15, 13)] := vx_table (x := yL_op) B (hts _ List.mem_cons_self)
  have hiX11 : ∀ w ∈ wsX110, w ∈ wq_L_op := by decide +kernel
  have hiX9 : ∀ w ∈ wsX90, w ∈ wq_L_op := by decide +kernel
  subst hsz
  have hD := hD0.self (sz := s.heap.size)
  generalize hAe : va_A [(h0, .inr (10, [.ref pr, .ref ck, .ref tu, .ref sm, .ref rm])), (tu, .inr (8, [.ref pr, .ref t_places, .ref t_live, .ref t_homes, .ref t_code, .ref t_writer, .ref t_placeCounts, .int 0]))] s.heap.size = A at hD ⊢ hZ
  have hA : ∀ q : Nat, s.heap.size ≤ q → A q := fun q h => by rw [← hAe]; exact Or.inr h
  have hS : va_S A s.heap s.heap [] := va_S.rf
  have hl := lv_entry ([.ref h0, .int p0, .int p1, .int p2, .ref ou]) (n := 6) (Nat.le_of_ble_eq_true rfl)
  rw [lg_entry_eq]
  generalize (lg_sl ([.ref h0, .int p0, .int p1, .int p2, .ref ou]) ++ List.replicate (6 - (lg_sl ([.ref h0, .int p0, .int p1, .int p2, .ref ou])).length) Slot.unset).toArray = ls at hl ⊢
  have hl : lv_has ls 6 [(0, .ref h0), (1, .int p0), (2, .int p1), (3, .int p2), (4, .ref ou)] := hl
  refine lv_aload hx hb dL_op_0 (lv_at hl 4 rfl) ?_
  refine lv_iconst (v := 0) hx hb dL_op_2 (by decide) ?_
  refine lv_aload_n hx hb dL_op_3 rfl (lv_at hl 0 rfl) ?_
  refine lv_iload_n hx hb dL_op_4 rfl (lv_at hl 1 rfl) ?_
  refine lv_iload_n hx hb dL_op_5 rfl (lv_at hl 2 rfl) ?_
  refine lv_iload_n hx hb dL_op_6 rfl (lv_at hl 3 rfl) ?_
  have hPc := hP.sub (ws' := [(h0, .inr (10, [.ref pr, .ref ck, .ref tu, .ref sm, .ref rm])), (tu, .inr (8, [.ref pr, .ref t_places, .ref t_live, .ref t_homes, .ref t_code, .ref t_writer, .ref t_placeCounts, .int 0]))]) [0, 1] rfl
  have hDc := hD.sub (ws' := [(h0, .inr (10, [.ref pr, .ref ck, .ref tu, .ref sm, .ref rm])), (tu, .inr (8, [.ref pr, .ref t_places, .ref t_live, .ref t_homes, .ref t_code, .ref t_writer, .ref t_placeCounts, .int 0]))]) [0, 1] (by decide) rfl
  have hKc := hK.sub (tys' := [(cyI, .int)]) [0] rfl
  have hFc := va_free (wc := [(h0, .inr (10, [.ref pr, .ref ck, .ref tu, .ref sm, .ref rm])), (tu, .inr (8, [.ref pr, .ref t_places, .ref t_live, .ref t_homes, .ref t_code, .ref t_writer, .ref t_placeCounts, .int 0]))]) hD hS hA [0, 1] rfl
  refine vx_calli (vx_runV (As := [.int p0, .int p1, .int p2]) (rest := [.int 0, .ref ou]) ⟨hx, hb, hml, hown, hts⟩ (c_X11_op l dC dI cyI s.heap.size h0 pr ck tu sm rm t_places t_live t_homes t_code t_writer t_placeCounts p0 p1 p2 hst sa sb) (cwV 3 hts gq_L_op_X11_op_7 rfl rfl rfl (by decide +kernel) ⟨Nat.le_of_ble_eq_true rfl, Nat.le_of_ble_eq_true rfl⟩) ⟨tp_blind, va_recv hKc hPc (ci := 10) (q0 := 0) rfl rfl, tp_to hPc hKc hDc hNW (hZ.kept (fun a h1 h2 => hS.2.1 a h1 h2)) hFc⟩ rfl rfl hl.1 rfl (lv_room (Nat.le_of_ble_eq_true rfl)) dL_op_7 (by decide)) hS (fun q _ h => hFc q h) hFc (fun q _ h => hFc q h) (fun E ce q9 u t H locs ht hvm hpx hB hz1 hk1 hS hce hcv hcl => ?_) (fun r u t H locs ht hvm hw hB hz1 hk1 hS => False.elim hw)
  have hB : E = "java/util/NoSuchElementException" := hB
  subst hB
  refine vx_widen (k := 1) (n := 6) (by omega) (by omega) ?_
  refine mz_catch (own := RL) (name := "java/util/NoSuchElementException") hown ⟨0, 12, 15, 13⟩ htab (by decide) (by decide) (hts (.classLink RL 13 "java/util/NoSuchElementException") (by decide +kernel)) (va_Nw.use rfl hZ.1.2.2.2) hce hcv hcl ?_
  refine W.eq (g2 := F0 m 15 ls [.ref q9]) rfl ?_
  refine lv_astore (lv' := [(5, .ref q9), (0, .ref h0), (1, .int p0), (2, .int p1), (3, .int p2), (4, .ref ou)]) hx hb dL_op_15 hl (by decide) rfl (fun ls hl => ?_)
  refine lv_iconst (v := 1) hx hb dL_op_17 (by decide) ?_
  refine W.widen (k := 1) (n := 6) (by decide) (by decide) ?_
  have h9 : (1 : Int32) = 1 := rfl
  exact W.iret (v := (1)) hx hb hr (fun t ht hW => ⟨⟨_, (), rfl, h9, trivial⟩, hS.F ht⟩) hS.2.2 dL_op_18

def wq_L_peek_bad : List Cond := .codeWith yL_peek cL_peek 5 (some .int) [(0, 10, 13, 13)] :: (([.code yX11_peek cX11_peek 3 (some .int), .classLink RX11 125 "java/util/NoSuchElementException", .initialized "java/util/NoSuchElementException", .methodLink RL 15 yX11_peek, .instanceMethod yX11_peek, .selects RX11 yX11_peek yX11_peek, .initialized RX11, .classLink RL 13 "java/util/NoSuchElementException"]) ++ vzS)
theorem gzS_wq_L_peek_bad : GoodIn wq_L_peek_bad vzS := goodIn_sub (fun w h => List.mem_cons_of_mem _ (List.mem_append_right _ h)) gz_good
set_option maxRecDepth 20000 in
theorem gq_L_peek_bad_X11_peek_bad_15 : GoodIn wq_L_peek_bad (wsV RL 15 RX11 yX11_peek wq_X11_peek_bad) := gz_app (goodIn_r ([.methodLink RL 15 yX11_peek, .instanceMethod yX11_peek, .selects RX11 yX11_peek yX11_peek, .initialized RX11] ++ (.code yX11_peek cX11_peek 3 (some .int) :: ([.classLink RX11 125 "java/util/NoSuchElementException", .initialized "java/util/NoSuchElementException"]))) [4, 5, 6, 7, 1, 2, 3] (by decide +kernel) (by decide +kernel)) gzS_wq_L_peek_bad
set_option maxHeartbeats 4000000 in
set_option maxRecDepth 100000 in
/-- the law: peek throws -/
theorem c_L_peek_bad (l : Launch) (dC : Nat → ClassId) (dI : Nat → Nat → Nat) (cyI : ClassId) (sz : Nat) (h0 : Nat) (pr : Nat) (ck : Nat) (tu : Nat) (sm : Nat) (rm : Nat) (p0 : Int32) (p1 : Int32) (ou : Nat) (hst : l.stackTraces = false) (sa sb : Nat) (hbad : fz_bad p0 p1) : Met l yL_peek wq_L_peek_bad ({ frames := 7, cells := 1, slots := 6, locals := 112 }) (va_Pc [.ref h0, .int p0, .int p1, .ref ou] (tp_pre dC dI [(cyI, .int)] [(h0, .inr (10, [.ref pr, .ref ck, .ref tu, .ref sm, .ref rm]))] sa sb sz)) (va_Qi (S := Unit) (fun (r : Int32) _ => r = 1) (fun _ _ => True) (va_A [(h0, .inr (10, [.ref pr, .ref ck, .ref tu, .ref sm, .ref rm]))] sz)) 1 6 (va_A [(h0, .inr (10, [.ref pr, .ref ck, .ref tu, .ref sm, .ref rm]))] sz) := by
  refine va_MetW (hh := [(0, 10, 13, 13)]) (cc := cL_peek) (maxL := 5) (ret := (some .int)) (by decide) rfl ?_
  intro p e s m args below meth c s₁ B hml hv
  obtain ⟨rfl, ⟨hsz, hP, hK, hD0, hNW⟩, hZ⟩ := hv
  have hx := B.exec
  have hb := B.bytes
  have hr := B.returns
  have hts := atoms_spec (ws := wq_L_peek_bad) B.pre
  have hown : s.vm.findClass RL = some m.cls := findClass_of_methodNamed B.named
  have hlocks := B.notSynchronized
  have htab : c.exceptionTable.toList = tableOf [(0, 10, 13, 13)] := vx_table (x := yL_peek) B (hts _ List.mem_cons_self)
  subst hsz
  have hD := hD0.self (sz := s.heap.size)
  generalize hAe : va_A [(h0, .inr (10, [.ref pr, .ref ck, .ref tu, .ref sm, .ref rm]))] s.heap.size = A at hD ⊢ hZ
  have hA : ∀ q : Nat, s.heap.size ≤ q → A q := fun q h => by rw [← hAe]; exact Or.inr h
  have hS : va_S A s.heap s.heap [] := va_S.rf
  have hl := lv_entry ([.ref h0, .int p0, .int p1, .ref ou]) (n := 5) (Nat.le_of_ble_eq_true rfl)
  rw [lg_entry_eq]
  generalize (lg_sl ([.ref h0, .int p0, .int p1, .ref ou]) ++ List.replicate (5 - (lg_sl ([.ref h0, .int p0, .int p1, .ref ou])).length) Slot.unset).toArray = ls at hl ⊢
  have hl : lv_has ls 5 [(0, .ref h0), (1, .int p0), (2, .int p1), (3, .ref ou)] := hl
  refine lv_aload_n hx hb dL_peek_0 rfl (lv_at hl 3 rfl) ?_
  refine lv_iconst (v := 0) hx hb dL_peek_1 (by decide) ?_
  refine lv_aload_n hx hb dL_peek_2 rfl (lv_at hl 0 rfl) ?_
  refine lv_iload_n hx hb dL_peek_3 rfl (lv_at hl 1 rfl) ?_
  refine lv_iload_n hx hb dL_peek_4 rfl (lv_at hl 2 rfl) ?_
  have hPc := hP.sub (ws' := [(h0, .inr (10, [.ref pr, .ref ck, .ref tu, .ref sm, .ref rm]))]) [0] rfl
  have hDc := hD.sub (ws' := [(h0, .inr (10, [.ref pr, .ref ck, .ref tu, .ref sm, .ref rm]))]) [0] (by decide) rfl
  have hKc := hK.sub (tys' := [(cyI, .int)]) [0] rfl
  have hFc := va_free (wc := [(h0, .inr (10, [.ref pr, .ref ck, .ref tu, .ref sm, .ref rm]))]) hD hS hA [0] rfl
  refine vx_calli (vx_runV (As := [.int p0, .int p1]) (rest := [.int 0, .ref ou]) ⟨hx, hb, hml, hown, hts⟩ (c_X11_peek_bad l dC dI cyI s.heap.size h0 pr ck tu sm rm p0 p1 hst sa sb hbad) (cwV 2 hts gq_L_peek_bad_X11_peek_bad_15 rfl rfl rfl (by decide +kernel) ⟨Nat.le_of_ble_eq_true rfl, Nat.le_of_ble_eq_true rfl⟩) ⟨tp_blind, va_recv hKc hPc (ci := 10) (q0 := 0) rfl rfl, tp_to hPc hKc hDc hNW (hZ.kept (fun a h1 h2 => hS.2.1 a h1 h2)) hFc⟩ rfl rfl hl.1 rfl (lv_room (Nat.le_of_ble_eq_true rfl)) dL_peek_5 (by decide)) hS (fun q _ h => hFc q h) hFc (fun q _ h => hFc q h) (fun E ce q9 u t H locs ht hvm hpx hB hz1 hk1 hS hce hcv hcl => ?_) (fun r u t H locs ht hvm hw hB hz1 hk1 hS => False.elim hw)
  have hB : E = "java/util/NoSuchElementException" := hB
  subst hB
  refine vx_widen (k := 1) (n := 6) (by omega) (by omega) ?_
  refine mz_catch (own := RL) (name := "java/util/NoSuchElementException") hown ⟨0, 10, 13, 13⟩ htab (by decide) (by decide) (hts (.classLink RL 13 "java/util/NoSuchElementException") (by decide +kernel)) (va_Nw.use rfl hZ.1.2.2.2) hce hcv hcl ?_
  refine W.eq (g2 := F0 m 13 ls [.ref q9]) rfl ?_
  refine lv_astore (lv' := [(4, .ref q9), (0, .ref h0), (1, .int p0), (2, .int p1), (3, .ref ou)]) hx hb dL_peek_13 hl (by decide) rfl (fun ls hl => ?_)
  refine lv_iconst (v := 1) hx hb dL_peek_15 (by decide) ?_
  refine W.widen (k := 1) (n := 6) (by decide) (by decide) ?_
  have h9 : (1 : Int32) = 1 := rfl
  exact W.iret (v := (1)) hx hb hr (fun t ht hW => ⟨⟨_, (), rfl, h9, trivial⟩, hS.F ht⟩) hS.2.2 dL_peek_16

def wq_L_peek_ok : List Cond := .codeWith yL_peek cL_peek 5 (some .int) [(0, 10, 13, 13)] :: ([.code yX11_peek cX11_peek 3 (some .int), .code yX11_machineOf cX11_machineOf 2 (some (.object "RegisterMill$Machine")), .fieldLink RX11 35 "RegisterMill" "stackMachine" "LRegisterMill$Machine;", .methodLink RX11 160 yX11_machineOf, .instanceMethod yX11_machineOf, .selects RX11 yX11_machineOf yX11_machineOf, .initialized RX11, .fieldLink RX11 96 "RegisterMill$Machine" "memory" "[I", .fieldLink RX11 48 "RegisterMill" "registerMachine" "LRegisterMill$Machine;", .methodLink RL 15 yX11_peek, .instanceMethod yX11_peek, .selects RX11 yX11_peek yX11_peek] ++ wsX110 ++ wsX80 ++ wsX70)
set_option maxRecDepth 20000 in
theorem gq_L_peek_ok_X11_peek_ok_15 : GoodIn wq_L_peek_ok (wsV RL 15 RX11 yX11_peek wq_X11_peek_ok) := goodIn_r _ [10, 11, 12, 7, 1, 2, 3, 4, 5, 6, 7, 8, 9, 13, 14, 15, 16, 17, 18, 19, 20, 21, 22, 23, 24, 25, 26, 27, 28, 29, 30, 31, 32, 33, 34, 35, 36, 37, 38, 39, 40, 41, 42, 43] (by decide +kernel) (by decide +kernel)
set_option maxHeartbeats 4000000 in
set_option maxRecDepth 100000 in
/-- the law: peek answers 0 -/
theorem c_L_peek_ok (l : Launch) (dC : Nat → ClassId) (dI : Nat → Nat → Nat) (cyI cyJ : ClassId) (sz : Nat) (h0 : Nat) (pr : Nat) (ck : Nat) (tu : Nat) (sm : Nat) (rm : Nat) (s_memory : Nat) (s_funcs : Nat) (s_nexts : Nat) (s_locals : Nat) (s_stack : Nat) (s_bottoms : Nat) (r_memory : Nat) (r_funcs : Nat) (r_nexts : Nat) (t_code : Nat) (r_registers : Nat) (r_slotCells : Nat) (r_passed : Nat) (ou : Nat) (p0 : Int32) (p1 : Int32) (g_1 : ¬ p0 < 0) (g_2 : ¬ 1 < p0) (g_3 : ¬ p1 < 0) (g_4 : ¬ 64 ≤ p1) : Met l yL_peek wq_L_peek_ok ({ frames := 2, cells := 0, slots := 0, locals := 43 }) (va_Pc [.ref h0, .int p0, .int p1, .ref ou] (pz_pre dC dI [(cyI, .int), (cyJ, .long)] [(h0, .inr (10, [.ref pr, .ref ck, .ref tu, .ref sm, .ref rm])), (sm, .inr (7, [.ref s_memory, .ref s_funcs, .ref s_nexts, .int 0, .int 0, .int 0, .int 0, .int 0, .ref pr, .ref s_locals, .ref s_stack, .ref s_bottoms, .int 0])), (s_memory, .inl (cyI, 64, .inl (fun _ => 0))), (rm, .inr (6, [.ref r_memory, .ref r_funcs, .ref r_nexts, .int 0, .int 0, .int 0, .int 0, .int 0, .ref t_code, .ref r_registers, .ref r_slotCells, .ref r_passed, .int 0])), (r_memory, .inl (cyI, 64, .inl (fun _ => 0))), (ou, .inl (cyJ, 1, .inr (.inl (fun _ => 0))))] sz)) (va_Qi (S := Unit) (fun (r : Int32) _ => r = 0) (fun _ t => pz_B dC dI [(cyI, .int), (cyJ, .long)] (va_A [(h0, .inr (10, [.ref pr, .ref ck, .ref tu, .ref sm, .ref rm])), (sm, .inr (7, [.ref s_memory, .ref s_funcs, .ref s_nexts, .int 0, .int 0, .int 0, .int 0, .int 0, .ref pr, .ref s_locals, .ref s_stack, .ref s_bottoms, .int 0])), (s_memory, .inl (cyI, 64, .inl (fun _ => 0))), (rm, .inr (6, [.ref r_memory, .ref r_funcs, .ref r_nexts, .int 0, .int 0, .int 0, .int 0, .int 0, .ref t_code, .ref r_registers, .ref r_slotCells, .ref r_passed, .int 0])), (r_memory, .inl (cyI, 64, .inl (fun _ => 0))), (ou, .inl (cyJ, 1, .inr (.inl (fun _ => 0))))] sz) [(ou, .inl (cyJ, 1, .inr (.inl (vp_updL (fun _ => 0) (Int32.toNatClampNeg 0) (Int32.toInt64 0)))))] t) (va_A [(h0, .inr (10, [.ref pr, .ref ck, .ref tu, .ref sm, .ref rm])), (sm, .inr (7, [.ref s_memory, .ref s_funcs, .ref s_nexts, .int 0, .int 0, .int 0, .int 0, .int 0, .ref pr, .ref s_locals, .ref s_stack, .ref s_bottoms, .int 0])), (s_memory, .inl (cyI, 64, .inl (fun _ => 0))), (rm, .inr (6, [.ref r_memory, .ref r_funcs, .ref r_nexts, .int 0, .int 0, .int 0, .int 0, .int 0, .ref t_code, .ref r_registers, .ref r_slotCells, .ref r_passed, .int 0])), (r_memory, .inl (cyI, 64, .inl (fun _ => 0))), (ou, .inl (cyJ, 1, .inr (.inl (fun _ => 0))))] sz)) 0 0 (va_A [(h0, .inr (10, [.ref pr, .ref ck, .ref tu, .ref sm, .ref rm])), (sm, .inr (7, [.ref s_memory, .ref s_funcs, .ref s_nexts, .int 0, .int 0, .int 0, .int 0, .int 0, .ref pr, .ref s_locals, .ref s_stack, .ref s_bottoms, .int 0])), (s_memory, .inl (cyI, 64, .inl (fun _ => 0))), (rm, .inr (6, [.ref r_memory, .ref r_funcs, .ref r_nexts, .int 0, .int 0, .int 0, .int 0, .int 0, .ref t_code, .ref r_registers, .ref r_slotCells, .ref r_passed, .int 0])), (r_memory, .inl (cyI, 64, .inl (fun _ => 0))), (ou, .inl (cyJ, 1, .inr (.inl (fun _ => 0))))] sz) := by
  refine va_MetW (hh := [(0, 10, 13, 13)]) (cc := cL_peek) (maxL := 5) (ret := (some .int)) (by decide) rfl ?_
  intro p e s m args below meth c s₁ B hml hv
  obtain ⟨rfl, hsz, hP, hK, hD0, hNW⟩ := hv
  have hx := B.exec
  have hb := B.bytes
  have hr := B.returns
  have hts := atoms_spec (ws := wq_L_peek_ok) B.pre
  have hown : s.vm.findClass RL = some m.cls := findClass_of_methodNamed B.named
  have hlocks := B.notSynchronized
  have htab : c.exceptionTable.toList = tableOf [(0, 10, 13, 13)] := vx_table (x := yL_peek) B (hts _ List.mem_cons_self)
  have hiX11 : ∀ w ∈ wsX110, w ∈ wq_L_peek_ok := by decide +kernel
  have hiX8 : ∀ w ∈ wsX80, w ∈ wq_L_peek_ok := by decide +kernel
  have hiX7 : ∀ w ∈ wsX70, w ∈ wq_L_peek_ok := by decide +kernel
  subst hsz
  have hD := hD0.self (sz := s.heap.size)
  generalize hAe : va_A [(h0, .inr (10, [.ref pr, .ref ck, .ref tu, .ref sm, .ref rm])), (sm, .inr (7, [.ref s_memory, .ref s_funcs, .ref s_nexts, .int 0, .int 0, .int 0, .int 0, .int 0, .ref pr, .ref s_locals, .ref s_stack, .ref s_bottoms, .int 0])), (s_memory, .inl (cyI, 64, .inl (fun _ => 0))), (rm, .inr (6, [.ref r_memory, .ref r_funcs, .ref r_nexts, .int 0, .int 0, .int 0, .int 0, .int 0, .ref t_code, .ref r_registers, .ref r_slotCells, .ref r_passed, .int 0])), (r_memory, .inl (cyI, 64, .inl (fun _ => 0))), (ou, .inl (cyJ, 1, .inr (.inl (fun _ => 0))))] s.heap.size = A at hD ⊢
  have hA : ∀ q : Nat, s.heap.size ≤ q → A q := fun q h => by rw [← hAe]; exact Or.inr h
  have hS : va_S A s.heap s.heap [] := va_S.rf
  have hl := lv_entry ([.ref h0, .int p0, .int p1, .ref ou]) (n := 5) (Nat.le_of_ble_eq_true rfl)
  rw [lg_entry_eq]
  generalize (lg_sl ([.ref h0, .int p0, .int p1, .ref ou]) ++ List.replicate (5 - (lg_sl ([.ref h0, .int p0, .int p1, .ref ou])).length) Slot.unset).toArray = ls at hl ⊢
  have hl : lv_has ls 5 [(0, .ref h0), (1, .int p0), (2, .int p1), (3, .ref ou)] := hl
  refine lv_aload_n hx hb dL_peek_0 rfl (lv_at hl 3 rfl) ?_
  refine lv_iconst (v := 0) hx hb dL_peek_1 (by decide) ?_
  refine lv_aload_n hx hb dL_peek_2 rfl (lv_at hl 0 rfl) ?_
  refine lv_iload_n hx hb dL_peek_3 rfl (lv_at hl 1 rfl) ?_
  refine lv_iload_n hx hb dL_peek_4 rfl (lv_at hl 2 rfl) ?_
  have hPc := hP.sub (ws' := [(h0, .inr (10, [.ref pr, .ref ck, .ref tu, .ref sm, .ref rm])), (sm, .inr (7, [.ref s_memory, .ref s_funcs, .ref s_nexts, .int 0, .int 0, .int 0, .int 0, .int 0, .ref pr, .ref s_locals, .ref s_stack, .ref s_bottoms, .int 0])), (s_memory, .inl (cyI, 64, .inl (fun _ => 0))), (rm, .inr (6, [.ref r_memory, .ref r_funcs, .ref r_nexts, .int 0, .int 0, .int 0, .int 0, .int 0, .ref t_code, .ref r_registers, .ref r_slotCells, .ref r_passed, .int 0])), (r_memory, .inl (cyI, 64, .inl (fun _ => 0)))]) [0, 1, 2, 3, 4] rfl
  have hDc := hD.sub (ws' := [(h0, .inr (10, [.ref pr, .ref ck, .ref tu, .ref sm, .ref rm])), (sm, .inr (7, [.ref s_memory, .ref s_funcs, .ref s_nexts, .int 0, .int 0, .int 0, .int 0, .int 0, .ref pr, .ref s_locals, .ref s_stack, .ref s_bottoms, .int 0])), (s_memory, .inl (cyI, 64, .inl (fun _ => 0))), (rm, .inr (6, [.ref r_memory, .ref r_funcs, .ref r_nexts, .int 0, .int 0, .int 0, .int 0, .int 0, .ref t_code, .ref r_registers, .ref r_slotCells, .ref r_passed, .int 0])), (r_memory, .inl (cyI, 64, .inl (fun _ => 0)))]) [0, 1, 2, 3, 4] (by decide) rfl
  have hKc := hK.sub (tys' := [(cyI, .int)]) [0] rfl
  have hFc := va_free (wc := [(h0, .inr (10, [.ref pr, .ref ck, .ref tu, .ref sm, .ref rm])), (sm, .inr (7, [.ref s_memory, .ref s_funcs, .ref s_nexts, .int 0, .int 0, .int 0, .int 0, .int 0, .ref pr, .ref s_locals, .ref s_stack, .ref s_bottoms, .int 0])), (s_memory, .inl (cyI, 64, .inl (fun _ => 0))), (rm, .inr (6, [.ref r_memory, .ref r_funcs, .ref r_nexts, .int 0, .int 0, .int 0, .int 0, .int 0, .ref t_code, .ref r_registers, .ref r_slotCells, .ref r_passed, .int 0])), (r_memory, .inl (cyI, 64, .inl (fun _ => 0)))]) hD hS hA [0, 1, 2, 3, 4] rfl
  refine va_calli (va_runV (As := [.int p0, .int p1]) (rest := [.int 0, .ref ou]) ⟨hx, hb, hml, hown, hts⟩ (c_X11_peek_ok l dC dI cyI s.heap.size h0 pr ck tu sm rm s_memory s_funcs s_nexts s_locals s_stack s_bottoms r_memory r_funcs r_nexts t_code r_registers r_slotCells r_passed p0 p1 g_1 g_2 g_3 g_4) (cwV 2 hts gq_L_peek_ok_X11_peek_ok_15 rfl rfl rfl (by decide +kernel) ⟨Nat.le_of_ble_eq_true rfl, Nat.le_of_ble_eq_true rfl⟩) ⟨pz_blind, va_recv hKc hPc (ci := 10) (q0 := 0) rfl rfl, pz_to hPc hKc hDc hNW⟩ rfl rfl hl.1 rfl (lv_room (Nat.le_of_ble_eq_true rfl)) dL_peek_5 (by decide)) hS (fun q _ h => hFc q h) hFc (fun r_1 u t H1 locs ht hvm hw hB hz1 hk1 hS => ?_)
  have hP1 : va_P (dC, dI) vwCl [] H1 := pz_Pn
  have hD1 : va_D (va_A [(h0, .inr (10, [.ref pr, .ref ck, .ref tu, .ref sm, .ref rm])), (sm, .inr (7, [.ref s_memory, .ref s_funcs, .ref s_nexts, .int 0, .int 0, .int 0, .int 0, .int 0, .ref pr, .ref s_locals, .ref s_stack, .ref s_bottoms, .int 0])), (s_memory, .inl (cyI, 64, .inl (fun _ => 0))), (rm, .inr (6, [.ref r_memory, .ref r_funcs, .ref r_nexts, .int 0, .int 0, .int 0, .int 0, .int 0, .ref t_code, .ref r_registers, .ref r_slotCells, .ref r_passed, .int 0])), (r_memory, .inl (cyI, 64, .inl (fun _ => 0)))] s.heap.size) [] := pz_Dn
  obtain ⟨hP, hD⟩ := va_join (wr := [(ou, .inl (cyJ, 1, .inr (.inl (fun _ => 0))))]) (w1 := []) hP hD [0, 1, 2, 3, 4] [5] rfl rfl (by decide) (by decide) hk1 hFc hP1 hD1
  generalize H1 = H at hP hS ⊢
  have hP : va_P (dC, dI) vwCl [(ou, .inl (cyJ, 1, .inr (.inl (fun _ => 0))))] H := hP
  have hD : va_D A [(ou, .inl (cyJ, 1, .inr (.inl (fun _ => 0))))] := hD
  have er_1 : r_1 = 0 := hw
  subst er_1
  refine lv_i2l (v := Int32.toInt64 0) hx hb dL_peek_8 rfl ?_
  refine va_last hx hb hK hP hD hS 0 1 rfl rfl (by unfold vp_in; decide) dL_peek_9 (fun H locs hP hD hS => ?_)
  have hP : va_P (dC, dI) vwCl [(ou, .inl (cyJ, 1, .inr (.inl (vp_updL (fun _ => 0) (Int32.toNatClampNeg 0) (Int32.toInt64 0)))))] H := hP
  have hD : va_D A [(ou, .inl (cyJ, 1, .inr (.inl (vp_updL (fun _ => 0) (Int32.toNatClampNeg 0) (Int32.toInt64 0)))))] := hD
  refine lv_goto (tgt := 17) hx hb dL_peek_10 (by decide) ?_
  refine lv_iconst (v := 0) hx hb dL_peek_17 (by decide) ?_
  have hP9 := hP.sub (ws' := [(ou, .inl (cyJ, 1, .inr (.inl (vp_updL (fun _ => 0) (Int32.toNatClampNeg 0) (Int32.toInt64 0)))))]) [0] rfl
  have hD9 := hD.sub (ws' := [(ou, .inl (cyJ, 1, .inr (.inl (vp_updL (fun _ => 0) (Int32.toNatClampNeg 0) (Int32.toInt64 0)))))]) [0] (by decide) rfl
  have h9 : (0 : Int32) = 0 := rfl
  exact W.iret (v := (0)) hx hb hr (fun t ht hW => ⟨⟨_, (), rfl, h9, pz_Bof hP9 hK hD9 ht hW⟩, hS.F ht⟩) hS.2.2 dL_peek_18
