/-- a row with v in its first j places -/
def fl_to (v : Int32) (f : Nat → Int32) (j : Nat) : Nat → Int32 := fun i => if i < j then v else f i
theorem fl_to_0 (v : Int32) (f : Nat → Int32) : fl_to v f 0 = f := by
  funext i
  simp [fl_to]
theorem fl_to_s (v : Int32) (f : Nat → Int32) (j : Nat) : fl_to v f (j + 1) = upd (fl_to v f j) j v := by
  funext i
  by_cases h : i = j
  · subst h; simp [fl_to, upd]
  · by_cases h2 : i < j
    · simp [fl_to, upd, h, h2, Nat.lt_succ_of_lt h2]
    · simp [fl_to, upd, h, h2, show ¬ i < j + 1 by omega]

def wq_J7_fill_53178_g64 : List Cond := .code yJ7_fill_53178 cJ7_fill_53178 4 none :: ([])
set_option maxHeartbeats 4000000 in
set_option maxRecDepth 100000 in
theorem lp_J7_fill_53178_g64_5 {p : Program} {l : Launch} {e : Env} {R : Room} {s : State} {m : MethodId} {args : Array Value} {below : List Frame} {meth : Method} {c : Code} {cells slots : Nat} {Q : State → Prop} {A : Nat → Prop} {dC : Nat → ClassId} {dI : Nat → Nat → Nat} {cyI : ClassId} {a0 : Nat} {p0 : Int32} {fx : Nat → Int32}
    (hx : p.tables.exec = Jvm.exec) (hb : c.code = cJ7_fill_53178) (hown : s.vm.findClass RJ7 = some m.cls) (hts : ∀ w ∈ wq_J7_fill_53178_g64, w.before args s = true) (hK : va_K (dC, dI) vwCl [(cyI, .int)] s)
    (hexit : ∀ (H : Heap) (locs : List Loc), va_P (dC, dI) vwCl [(a0, .inl (cyI, 64, .inl (fl_to p0 fx 64)))] H → va_D A [(a0, .inl (cyI, 64, .inl (fl_to p0 fx 64)))] → va_S A s.heap H locs → ∀ ls : Array Slot, lv_has ls 4 [(0, .ref a0), (1, .int p0), (3, .int 64)] → W p l e R s m args below meth c H locs cells slots Q (F0 m 20 ls [])) :
    ∀ (k j : Nat), j ≤ 64 → 64 < j + k → ∀ (H : Heap) (locs : List Loc), va_P (dC, dI) vwCl [(a0, .inl (cyI, 64, .inl (fl_to p0 fx j)))] H → va_D A [(a0, .inl (cyI, 64, .inl (fl_to p0 fx j)))] → va_S A s.heap H locs → ∀ ls : Array Slot, lv_has ls 4 [(0, .ref a0), (1, .int p0), (2, .int (nI j)), (3, .int 64)] → W p l e R s m args below meth c H locs cells slots Q (F0 m 5 ls []) := by
  intro k
  induction k with
  | zero => intro j h1 h2; omega
  | succ k ih =>
    intro j hj hjk H locs hP hD hS ls hl
    refine lv_iload_n hx hb dJ7_fill_53178_5 rfl (lv_at hl 2 rfl) ?_
    refine lv_iload_n hx hb dJ7_fill_53178_6 rfl (lv_at hl 3 rfl) ?_
    refine lv_icmp_ge (tgt := 20) hx hb dJ7_fill_53178_7 (by decide) (fun h => ?_) (fun h => ?_)
    · have hge : 64 ≤ j := (nI_leI (by omega) (by omega)).mp (show nI 64 ≤ nI j from h)
      obtain rfl : j = 64 := by omega
      exact hexit _ _ hP hD hS ls (lv_sub hl [0, 1, 3] rfl)
    · have hlt : j < 64 := Nat.lt_of_not_le fun q => h (nI_le q (by omega))
      refine lv_aload_n hx hb dJ7_fill_53178_10 rfl (lv_at hl 0 rfl) ?_
      refine lv_iload_n hx hb dJ7_fill_53178_11 rfl (lv_at hl 2 rfl) ?_
      refine lv_iload_n hx hb dJ7_fill_53178_12 rfl (lv_at hl 1 rfl) ?_
      refine va_iast hx hb hK hP hD hS 0 0 rfl rfl (vp_in_nI (by omega) (by decide)) dJ7_fill_53178_13 (fun H locs hP hD hS => ?_)
      rw [nI_clamp (show j < 2 ^ 31 by omega)] at hP hD
      have hP : va_P (dC, dI) vwCl [(a0, .inl (cyI, 64, .inl (upd (fl_to p0 fx j) j p0)))] H := hP
      have hD : va_D A [(a0, .inl (cyI, 64, .inl (upd (fl_to p0 fx j) j p0)))] := hD
      refine lv_iinc (v := nI (j + 1)) (lv' := [(2, .int (nI (j + 1))), (0, .ref a0), (1, .int p0), (3, .int 64)]) hx hb dJ7_fill_53178_14 hl (k := 2) rfl (nI_1 j) (by decide) rfl (fun ls hl => ?_)
      refine lv_goto (tgt := 5) hx hb dJ7_fill_53178_17 (by decide) ?_
      exact ih (j + 1) (by omega) (by omega) _ _ (by rw [fl_to_s p0 fx j]; exact hP) (by rw [fl_to_s p0 fx j]; exact hD) hS ls (lv_sub hl [1, 2, 0, 3] rfl)
set_option maxHeartbeats 4000000 in
set_option maxRecDepth 100000 in
/-- Arrays.fill(row, v) -/
theorem c_J7_fill_53178_g64 (l : Launch) (dC : Nat → ClassId) (dI : Nat → Nat → Nat) (cyI : ClassId) (sz : Nat) (a0 : Nat) (p0 : Int32) (fx : Nat → Int32) : Met l yJ7_fill_53178 wq_J7_fill_53178_g64 ({ frames := 0, cells := 0, slots := 0, locals := 0 }) (va_Pc [.ref a0, .int p0] (pz_pre dC dI [(cyI, .int)] [(a0, .inl (cyI, 64, .inl fx))] sz)) (va_Qv (S := Unit) (fun _ => True) (fun _ t => pz_B dC dI [(cyI, .int)] (va_A [(a0, .inl (cyI, 64, .inl fx))] sz) [(a0, .inl (cyI, 64, .inl (fl_to p0 fx 64)))] t) (va_A [(a0, .inl (cyI, 64, .inl fx))] sz)) 0 0 (va_A [(a0, .inl (cyI, 64, .inl fx))] sz) := by
  refine Met.ofW (cc := cJ7_fill_53178) (maxL := 4) (ret := none) (by decide) rfl ?_
  intro p e s m args below meth c s₁ B hml hv
  obtain ⟨rfl, hsz, hP, hK, hD0, hNW⟩ := hv
  have hx := B.exec
  have hb := B.bytes
  have hr := B.returns
  have hts := atoms_spec (ws := wq_J7_fill_53178_g64) B.pre
  have hown : s.vm.findClass RJ7 = some m.cls := findClass_of_methodNamed B.named
  have hlocks := B.notSynchronized
  subst hsz
  have hD := hD0.self (sz := s.heap.size)
  generalize hAe : va_A [(a0, .inl (cyI, 64, .inl fx))] s.heap.size = A at hD ⊢
  have hA : ∀ q : Nat, s.heap.size ≤ q → A q := fun q h => by rw [← hAe]; exact Or.inr h
  have hS : va_S A s.heap s.heap [] := va_S.rf
  have hl := lv_entry ([.ref a0, .int p0]) (n := 4) (Nat.le_of_ble_eq_true rfl)
  rw [lg_entry_eq]
  generalize (lg_sl ([.ref a0, .int p0]) ++ List.replicate (4 - (lg_sl ([.ref a0, .int p0])).length) Slot.unset).toArray = ls at hl ⊢
  have hl : lv_has ls 4 [(0, .ref a0), (1, .int p0)] := hl
  refine lv_iconst (v := 0) hx hb dJ7_fill_53178_0 (by decide) ?_
  refine lv_istore_n (lv' := [(2, .int 0), (0, .ref a0), (1, .int p0)]) hx hb dJ7_fill_53178_1 rfl hl (by decide) rfl (fun ls hl => ?_)
  refine lv_aload_n hx hb dJ7_fill_53178_2 rfl (lv_at hl 1 rfl) ?_
  refine va_alen (v := 64) hx hb hK hP 0 0 rfl rfl (show Int32.ofNat 64 = 64 by decide) dJ7_fill_53178_3 ?_
  refine lv_istore_n (lv' := [(3, .int 64), (2, .int 0), (0, .ref a0), (1, .int p0)]) hx hb dJ7_fill_53178_4 rfl hl (by decide) rfl (fun ls hl => ?_)
  refine lp_J7_fill_53178_g64_5 hx hb hown hts hK (fun H locs hP hD hS ls hl => ?_) 65 0 (by decide) (by decide) _ _ (by rw [fl_to_0 p0 fx]; exact hP) (by rw [fl_to_0 p0 fx]; exact hD) hS ls (by rw [nI_0]; exact lv_sub hl [2, 3, 1, 0] rfl)
  have hP9 := hP.sub (ws' := [(a0, .inl (cyI, 64, .inl (fl_to p0 fx 64)))]) [0] rfl
  have hD9 := hD.sub (ws' := [(a0, .inl (cyI, 64, .inl (fl_to p0 fx 64)))]) [0] (by decide) rfl
  exact W.vret hx hb hr (fun t ht hW => ⟨⟨(), rfl, trivial, pz_Bof hP9 hK hD9 ht hW⟩, hS.F ht⟩) hS.2.2 dJ7_fill_53178_20

def wq_J7_fill_53178_g6 : List Cond := .code yJ7_fill_53178 cJ7_fill_53178 4 none :: ([])
set_option maxHeartbeats 4000000 in
set_option maxRecDepth 100000 in
theorem lp_J7_fill_53178_g6_5 {p : Program} {l : Launch} {e : Env} {R : Room} {s : State} {m : MethodId} {args : Array Value} {below : List Frame} {meth : Method} {c : Code} {cells slots : Nat} {Q : State → Prop} {A : Nat → Prop} {dC : Nat → ClassId} {dI : Nat → Nat → Nat} {cyI : ClassId} {a0 : Nat} {p0 : Int32} {fx : Nat → Int32}
    (hx : p.tables.exec = Jvm.exec) (hb : c.code = cJ7_fill_53178) (hown : s.vm.findClass RJ7 = some m.cls) (hts : ∀ w ∈ wq_J7_fill_53178_g6, w.before args s = true) (hK : va_K (dC, dI) vwCl [(cyI, .int)] s)
    (hexit : ∀ (H : Heap) (locs : List Loc), va_P (dC, dI) vwCl [(a0, .inl (cyI, 6, .inl (fl_to p0 fx 6)))] H → va_D A [(a0, .inl (cyI, 6, .inl (fl_to p0 fx 6)))] → va_S A s.heap H locs → ∀ ls : Array Slot, lv_has ls 4 [(0, .ref a0), (1, .int p0), (3, .int 6)] → W p l e R s m args below meth c H locs cells slots Q (F0 m 20 ls [])) :
    ∀ (k j : Nat), j ≤ 6 → 6 < j + k → ∀ (H : Heap) (locs : List Loc), va_P (dC, dI) vwCl [(a0, .inl (cyI, 6, .inl (fl_to p0 fx j)))] H → va_D A [(a0, .inl (cyI, 6, .inl (fl_to p0 fx j)))] → va_S A s.heap H locs → ∀ ls : Array Slot, lv_has ls 4 [(0, .ref a0), (1, .int p0), (2, .int (nI j)), (3, .int 6)] → W p l e R s m args below meth c H locs cells slots Q (F0 m 5 ls []) := by
  intro k
  induction k with
  | zero => intro j h1 h2; omega
  | succ k ih =>
    intro j hj hjk H locs hP hD hS ls hl
    refine lv_iload_n hx hb dJ7_fill_53178_5 rfl (lv_at hl 2 rfl) ?_
    refine lv_iload_n hx hb dJ7_fill_53178_6 rfl (lv_at hl 3 rfl) ?_
    refine lv_icmp_ge (tgt := 20) hx hb dJ7_fill_53178_7 (by decide) (fun h => ?_) (fun h => ?_)
    · have hge : 6 ≤ j := (nI_leI (by omega) (by omega)).mp (show nI 6 ≤ nI j from h)
      obtain rfl : j = 6 := by omega
      exact hexit _ _ hP hD hS ls (lv_sub hl [0, 1, 3] rfl)
    · have hlt : j < 6 := Nat.lt_of_not_le fun q => h (nI_le q (by omega))
      refine lv_aload_n hx hb dJ7_fill_53178_10 rfl (lv_at hl 0 rfl) ?_
      refine lv_iload_n hx hb dJ7_fill_53178_11 rfl (lv_at hl 2 rfl) ?_
      refine lv_iload_n hx hb dJ7_fill_53178_12 rfl (lv_at hl 1 rfl) ?_
      refine va_iast hx hb hK hP hD hS 0 0 rfl rfl (vp_in_nI (by omega) (by decide)) dJ7_fill_53178_13 (fun H locs hP hD hS => ?_)
      rw [nI_clamp (show j < 2 ^ 31 by omega)] at hP hD
      have hP : va_P (dC, dI) vwCl [(a0, .inl (cyI, 6, .inl (upd (fl_to p0 fx j) j p0)))] H := hP
      have hD : va_D A [(a0, .inl (cyI, 6, .inl (upd (fl_to p0 fx j) j p0)))] := hD
      refine lv_iinc (v := nI (j + 1)) (lv' := [(2, .int (nI (j + 1))), (0, .ref a0), (1, .int p0), (3, .int 6)]) hx hb dJ7_fill_53178_14 hl (k := 2) rfl (nI_1 j) (by decide) rfl (fun ls hl => ?_)
      refine lv_goto (tgt := 5) hx hb dJ7_fill_53178_17 (by decide) ?_
      exact ih (j + 1) (by omega) (by omega) _ _ (by rw [fl_to_s p0 fx j]; exact hP) (by rw [fl_to_s p0 fx j]; exact hD) hS ls (lv_sub hl [1, 2, 0, 3] rfl)
set_option maxHeartbeats 4000000 in
set_option maxRecDepth 100000 in
/-- Arrays.fill(row, v) -/
theorem c_J7_fill_53178_g6 (l : Launch) (dC : Nat → ClassId) (dI : Nat → Nat → Nat) (cyI : ClassId) (sz : Nat) (a0 : Nat) (p0 : Int32) (fx : Nat → Int32) : Met l yJ7_fill_53178 wq_J7_fill_53178_g6 ({ frames := 0, cells := 0, slots := 0, locals := 0 }) (va_Pc [.ref a0, .int p0] (pz_pre dC dI [(cyI, .int)] [(a0, .inl (cyI, 6, .inl fx))] sz)) (va_Qv (S := Unit) (fun _ => True) (fun _ t => pz_B dC dI [(cyI, .int)] (va_A [(a0, .inl (cyI, 6, .inl fx))] sz) [(a0, .inl (cyI, 6, .inl (fl_to p0 fx 6)))] t) (va_A [(a0, .inl (cyI, 6, .inl fx))] sz)) 0 0 (va_A [(a0, .inl (cyI, 6, .inl fx))] sz) := by
  refine Met.ofW (cc := cJ7_fill_53178) (maxL := 4) (ret := none) (by decide) rfl ?_
  intro p e s m args below meth c s₁ B hml hv
  obtain ⟨rfl, hsz, hP, hK, hD0, hNW⟩ := hv
  have hx := B.exec
  have hb := B.bytes
  have hr := B.returns
  have hts := atoms_spec (ws := wq_J7_fill_53178_g6) B.pre
  have hown : s.vm.findClass RJ7 = some m.cls := findClass_of_methodNamed B.named
  have hlocks := B.notSynchronized
  subst hsz
  have hD := hD0.self (sz := s.heap.size)
  generalize hAe : va_A [(a0, .inl (cyI, 6, .inl fx))] s.heap.size = A at hD ⊢
  have hA : ∀ q : Nat, s.heap.size ≤ q → A q := fun q h => by rw [← hAe]; exact Or.inr h
  have hS : va_S A s.heap s.heap [] := va_S.rf
  have hl := lv_entry ([.ref a0, .int p0]) (n := 4) (Nat.le_of_ble_eq_true rfl)
  rw [lg_entry_eq]
  generalize (lg_sl ([.ref a0, .int p0]) ++ List.replicate (4 - (lg_sl ([.ref a0, .int p0])).length) Slot.unset).toArray = ls at hl ⊢
  have hl : lv_has ls 4 [(0, .ref a0), (1, .int p0)] := hl
  refine lv_iconst (v := 0) hx hb dJ7_fill_53178_0 (by decide) ?_
  refine lv_istore_n (lv' := [(2, .int 0), (0, .ref a0), (1, .int p0)]) hx hb dJ7_fill_53178_1 rfl hl (by decide) rfl (fun ls hl => ?_)
  refine lv_aload_n hx hb dJ7_fill_53178_2 rfl (lv_at hl 1 rfl) ?_
  refine va_alen (v := 6) hx hb hK hP 0 0 rfl rfl (show Int32.ofNat 6 = 6 by decide) dJ7_fill_53178_3 ?_
  refine lv_istore_n (lv' := [(3, .int 6), (2, .int 0), (0, .ref a0), (1, .int p0)]) hx hb dJ7_fill_53178_4 rfl hl (by decide) rfl (fun ls hl => ?_)
  refine lp_J7_fill_53178_g6_5 hx hb hown hts hK (fun H locs hP hD hS ls hl => ?_) 7 0 (by decide) (by decide) _ _ (by rw [fl_to_0 p0 fx]; exact hP) (by rw [fl_to_0 p0 fx]; exact hD) hS ls (by rw [nI_0]; exact lv_sub hl [2, 3, 1, 0] rfl)
  have hP9 := hP.sub (ws' := [(a0, .inl (cyI, 6, .inl (fl_to p0 fx 6)))]) [0] rfl
  have hD9 := hD.sub (ws' := [(a0, .inl (cyI, 6, .inl (fl_to p0 fx 6)))]) [0] (by decide) rfl
  exact W.vret hx hb hr (fun t ht hW => ⟨⟨(), rfl, trivial, pz_Bof hP9 hK hD9 ht hW⟩, hS.F ht⟩) hS.2.2 dJ7_fill_53178_20

def wq_J7_fill_53178_g300 : List Cond := .code yJ7_fill_53178 cJ7_fill_53178 4 none :: ([])
set_option maxHeartbeats 4000000 in
set_option maxRecDepth 100000 in
theorem lp_J7_fill_53178_g300_5 {p : Program} {l : Launch} {e : Env} {R : Room} {s : State} {m : MethodId} {args : Array Value} {below : List Frame} {meth : Method} {c : Code} {cells slots : Nat} {Q : State → Prop} {A : Nat → Prop} {dC : Nat → ClassId} {dI : Nat → Nat → Nat} {cyI : ClassId} {a0 : Nat} {p0 : Int32} {fx : Nat → Int32}
    (hx : p.tables.exec = Jvm.exec) (hb : c.code = cJ7_fill_53178) (hown : s.vm.findClass RJ7 = some m.cls) (hts : ∀ w ∈ wq_J7_fill_53178_g300, w.before args s = true) (hK : va_K (dC, dI) vwCl [(cyI, .int)] s)
    (hexit : ∀ (H : Heap) (locs : List Loc), va_P (dC, dI) vwCl [(a0, .inl (cyI, 300, .inl (fl_to p0 fx 300)))] H → va_D A [(a0, .inl (cyI, 300, .inl (fl_to p0 fx 300)))] → va_S A s.heap H locs → ∀ ls : Array Slot, lv_has ls 4 [(0, .ref a0), (1, .int p0), (3, .int 300)] → W p l e R s m args below meth c H locs cells slots Q (F0 m 20 ls [])) :
    ∀ (k j : Nat), j ≤ 300 → 300 < j + k → ∀ (H : Heap) (locs : List Loc), va_P (dC, dI) vwCl [(a0, .inl (cyI, 300, .inl (fl_to p0 fx j)))] H → va_D A [(a0, .inl (cyI, 300, .inl (fl_to p0 fx j)))] → va_S A s.heap H locs → ∀ ls : Array Slot, lv_has ls 4 [(0, .ref a0), (1, .int p0), (2, .int (nI j)), (3, .int 300)] → W p l e R s m args below meth c H locs cells slots Q (F0 m 5 ls []) := by
  intro k
  induction k with
  | zero => intro j h1 h2; omega
  | succ k ih =>
    intro j hj hjk H locs hP hD hS ls hl
    refine lv_iload_n hx hb dJ7_fill_53178_5 rfl (lv_at hl 2 rfl) ?_
    refine lv_iload_n hx hb dJ7_fill_53178_6 rfl (lv_at hl 3 rfl) ?_
    refine lv_icmp_ge (tgt := 20) hx hb dJ7_fill_53178_7 (by decide) (fun h => ?_) (fun h => ?_)
    · have hge : 300 ≤ j := (nI_leI (by omega) (by omega)).mp (show nI 300 ≤ nI j from h)
      obtain rfl : j = 300 := by omega
      exact hexit _ _ hP hD hS ls (lv_sub hl [0, 1, 3] rfl)
    · have hlt : j < 300 := Nat.lt_of_not_le fun q => h (nI_le q (by omega))
      refine lv_aload_n hx hb dJ7_fill_53178_10 rfl (lv_at hl 0 rfl) ?_
      refine lv_iload_n hx hb dJ7_fill_53178_11 rfl (lv_at hl 2 rfl) ?_
      refine lv_iload_n hx hb dJ7_fill_53178_12 rfl (lv_at hl 1 rfl) ?_
      refine va_iast hx hb hK hP hD hS 0 0 rfl rfl (vp_in_nI (by omega) (by decide)) dJ7_fill_53178_13 (fun H locs hP hD hS => ?_)
      rw [nI_clamp (show j < 2 ^ 31 by omega)] at hP hD
      have hP : va_P (dC, dI) vwCl [(a0, .inl (cyI, 300, .inl (upd (fl_to p0 fx j) j p0)))] H := hP
      have hD : va_D A [(a0, .inl (cyI, 300, .inl (upd (fl_to p0 fx j) j p0)))] := hD
      refine lv_iinc (v := nI (j + 1)) (lv' := [(2, .int (nI (j + 1))), (0, .ref a0), (1, .int p0), (3, .int 300)]) hx hb dJ7_fill_53178_14 hl (k := 2) rfl (nI_1 j) (by decide) rfl (fun ls hl => ?_)
      refine lv_goto (tgt := 5) hx hb dJ7_fill_53178_17 (by decide) ?_
      exact ih (j + 1) (by omega) (by omega) _ _ (by rw [fl_to_s p0 fx j]; exact hP) (by rw [fl_to_s p0 fx j]; exact hD) hS ls (lv_sub hl [1, 2, 0, 3] rfl)
set_option maxHeartbeats 4000000 in
set_option maxRecDepth 100000 in
/-- Arrays.fill(row, v) -/
theorem c_J7_fill_53178_g300 (l : Launch) (dC : Nat → ClassId) (dI : Nat → Nat → Nat) (cyI : ClassId) (sz : Nat) (a0 : Nat) (p0 : Int32) (fx : Nat → Int32) : Met l yJ7_fill_53178 wq_J7_fill_53178_g300 ({ frames := 0, cells := 0, slots := 0, locals := 0 }) (va_Pc [.ref a0, .int p0] (pz_pre dC dI [(cyI, .int)] [(a0, .inl (cyI, 300, .inl fx))] sz)) (va_Qv (S := Unit) (fun _ => True) (fun _ t => pz_B dC dI [(cyI, .int)] (va_A [(a0, .inl (cyI, 300, .inl fx))] sz) [(a0, .inl (cyI, 300, .inl (fl_to p0 fx 300)))] t) (va_A [(a0, .inl (cyI, 300, .inl fx))] sz)) 0 0 (va_A [(a0, .inl (cyI, 300, .inl fx))] sz) := by
  refine Met.ofW (cc := cJ7_fill_53178) (maxL := 4) (ret := none) (by decide) rfl ?_
  intro p e s m args below meth c s₁ B hml hv
  obtain ⟨rfl, hsz, hP, hK, hD0, hNW⟩ := hv
  have hx := B.exec
  have hb := B.bytes
  have hr := B.returns
  have hts := atoms_spec (ws := wq_J7_fill_53178_g300) B.pre
  have hown : s.vm.findClass RJ7 = some m.cls := findClass_of_methodNamed B.named
  have hlocks := B.notSynchronized
  subst hsz
  have hD := hD0.self (sz := s.heap.size)
  generalize hAe : va_A [(a0, .inl (cyI, 300, .inl fx))] s.heap.size = A at hD ⊢
  have hA : ∀ q : Nat, s.heap.size ≤ q → A q := fun q h => by rw [← hAe]; exact Or.inr h
  have hS : va_S A s.heap s.heap [] := va_S.rf
  have hl := lv_entry ([.ref a0, .int p0]) (n := 4) (Nat.le_of_ble_eq_true rfl)
  rw [lg_entry_eq]
  generalize (lg_sl ([.ref a0, .int p0]) ++ List.replicate (4 - (lg_sl ([.ref a0, .int p0])).length) Slot.unset).toArray = ls at hl ⊢
  have hl : lv_has ls 4 [(0, .ref a0), (1, .int p0)] := hl
  refine lv_iconst (v := 0) hx hb dJ7_fill_53178_0 (by decide) ?_
  refine lv_istore_n (lv' := [(2, .int 0), (0, .ref a0), (1, .int p0)]) hx hb dJ7_fill_53178_1 rfl hl (by decide) rfl (fun ls hl => ?_)
  refine lv_aload_n hx hb dJ7_fill_53178_2 rfl (lv_at hl 1 rfl) ?_
  refine va_alen (v := 300) hx hb hK hP 0 0 rfl rfl (show Int32.ofNat 300 = 300 by decide) dJ7_fill_53178_3 ?_
  refine lv_istore_n (lv' := [(3, .int 300), (2, .int 0), (0, .ref a0), (1, .int p0)]) hx hb dJ7_fill_53178_4 rfl hl (by decide) rfl (fun ls hl => ?_)
  refine lp_J7_fill_53178_g300_5 hx hb hown hts hK (fun H locs hP hD hS ls hl => ?_) 301 0 (by decide) (by decide) _ _ (by rw [fl_to_0 p0 fx]; exact hP) (by rw [fl_to_0 p0 fx]; exact hD) hS ls (by rw [nI_0]; exact lv_sub hl [2, 3, 1, 0] rfl)
  have hP9 := hP.sub (ws' := [(a0, .inl (cyI, 300, .inl (fl_to p0 fx 300)))]) [0] rfl
  have hD9 := hD.sub (ws' := [(a0, .inl (cyI, 300, .inl (fl_to p0 fx 300)))]) [0] (by decide) rfl
  exact W.vret hx hb hr (fun t ht hW => ⟨⟨(), rfl, trivial, pz_Bof hP9 hK hD9 ht hW⟩, hS.F ht⟩) hS.2.2 dJ7_fill_53178_20

def wq_J7_fill_53178_g16 : List Cond := .code yJ7_fill_53178 cJ7_fill_53178 4 none :: ([])
set_option maxHeartbeats 4000000 in
set_option maxRecDepth 100000 in
theorem lp_J7_fill_53178_g16_5 {p : Program} {l : Launch} {e : Env} {R : Room} {s : State} {m : MethodId} {args : Array Value} {below : List Frame} {meth : Method} {c : Code} {cells slots : Nat} {Q : State → Prop} {A : Nat → Prop} {dC : Nat → ClassId} {dI : Nat → Nat → Nat} {cyI : ClassId} {a0 : Nat} {p0 : Int32} {fx : Nat → Int32}
    (hx : p.tables.exec = Jvm.exec) (hb : c.code = cJ7_fill_53178) (hown : s.vm.findClass RJ7 = some m.cls) (hts : ∀ w ∈ wq_J7_fill_53178_g16, w.before args s = true) (hK : va_K (dC, dI) vwCl [(cyI, .int)] s)
    (hexit : ∀ (H : Heap) (locs : List Loc), va_P (dC, dI) vwCl [(a0, .inl (cyI, 16, .inl (fl_to p0 fx 16)))] H → va_D A [(a0, .inl (cyI, 16, .inl (fl_to p0 fx 16)))] → va_S A s.heap H locs → ∀ ls : Array Slot, lv_has ls 4 [(0, .ref a0), (1, .int p0), (3, .int 16)] → W p l e R s m args below meth c H locs cells slots Q (F0 m 20 ls [])) :
    ∀ (k j : Nat), j ≤ 16 → 16 < j + k → ∀ (H : Heap) (locs : List Loc), va_P (dC, dI) vwCl [(a0, .inl (cyI, 16, .inl (fl_to p0 fx j)))] H → va_D A [(a0, .inl (cyI, 16, .inl (fl_to p0 fx j)))] → va_S A s.heap H locs → ∀ ls : Array Slot, lv_has ls 4 [(0, .ref a0), (1, .int p0), (2, .int (nI j)), (3, .int 16)] → W p l e R s m args below meth c H locs cells slots Q (F0 m 5 ls []) := by
  intro k
  induction k with
  | zero => intro j h1 h2; omega
  | succ k ih =>
    intro j hj hjk H locs hP hD hS ls hl
    refine lv_iload_n hx hb dJ7_fill_53178_5 rfl (lv_at hl 2 rfl) ?_
    refine lv_iload_n hx hb dJ7_fill_53178_6 rfl (lv_at hl 3 rfl) ?_
    refine lv_icmp_ge (tgt := 20) hx hb dJ7_fill_53178_7 (by decide) (fun h => ?_) (fun h => ?_)
    · have hge : 16 ≤ j := (nI_leI (by omega) (by omega)).mp (show nI 16 ≤ nI j from h)
      obtain rfl : j = 16 := by omega
      exact hexit _ _ hP hD hS ls (lv_sub hl [0, 1, 3] rfl)
    · have hlt : j < 16 := Nat.lt_of_not_le fun q => h (nI_le q (by omega))
      refine lv_aload_n hx hb dJ7_fill_53178_10 rfl (lv_at hl 0 rfl) ?_
      refine lv_iload_n hx hb dJ7_fill_53178_11 rfl (lv_at hl 2 rfl) ?_
      refine lv_iload_n hx hb dJ7_fill_53178_12 rfl (lv_at hl 1 rfl) ?_
      refine va_iast hx hb hK hP hD hS 0 0 rfl rfl (vp_in_nI (by omega) (by decide)) dJ7_fill_53178_13 (fun H locs hP hD hS => ?_)
      rw [nI_clamp (show j < 2 ^ 31 by omega)] at hP hD
      have hP : va_P (dC, dI) vwCl [(a0, .inl (cyI, 16, .inl (upd (fl_to p0 fx j) j p0)))] H := hP
      have hD : va_D A [(a0, .inl (cyI, 16, .inl (upd (fl_to p0 fx j) j p0)))] := hD
      refine lv_iinc (v := nI (j + 1)) (lv' := [(2, .int (nI (j + 1))), (0, .ref a0), (1, .int p0), (3, .int 16)]) hx hb dJ7_fill_53178_14 hl (k := 2) rfl (nI_1 j) (by decide) rfl (fun ls hl => ?_)
      refine lv_goto (tgt := 5) hx hb dJ7_fill_53178_17 (by decide) ?_
      exact ih (j + 1) (by omega) (by omega) _ _ (by rw [fl_to_s p0 fx j]; exact hP) (by rw [fl_to_s p0 fx j]; exact hD) hS ls (lv_sub hl [1, 2, 0, 3] rfl)
set_option maxHeartbeats 4000000 in
set_option maxRecDepth 100000 in
/-- Arrays.fill(row, v) -/
theorem c_J7_fill_53178_g16 (l : Launch) (dC : Nat → ClassId) (dI : Nat → Nat → Nat) (cyI : ClassId) (sz : Nat) (a0 : Nat) (p0 : Int32) (fx : Nat → Int32) : Met l yJ7_fill_53178 wq_J7_fill_53178_g16 ({ frames := 0, cells := 0, slots := 0, locals := 0 }) (va_Pc [.ref a0, .int p0] (pz_pre dC dI [(cyI, .int)] [(a0, .inl (cyI, 16, .inl fx))] sz)) (va_Qv (S := Unit) (fun _ => True) (fun _ t => pz_B dC dI [(cyI, .int)] (va_A [(a0, .inl (cyI, 16, .inl fx))] sz) [(a0, .inl (cyI, 16, .inl (fl_to p0 fx 16)))] t) (va_A [(a0, .inl (cyI, 16, .inl fx))] sz)) 0 0 (va_A [(a0, .inl (cyI, 16, .inl fx))] sz) := by
  refine Met.ofW (cc := cJ7_fill_53178) (maxL := 4) (ret := none) (by decide) rfl ?_
  intro p e s m args below meth c s₁ B hml hv
  obtain ⟨rfl, hsz, hP, hK, hD0, hNW⟩ := hv
  have hx := B.exec
  have hb := B.bytes
  have hr := B.returns
  have hts := atoms_spec (ws := wq_J7_fill_53178_g16) B.pre
  have hown : s.vm.findClass RJ7 = some m.cls := findClass_of_methodNamed B.named
  have hlocks := B.notSynchronized
  subst hsz
  have hD := hD0.self (sz := s.heap.size)
  generalize hAe : va_A [(a0, .inl (cyI, 16, .inl fx))] s.heap.size = A at hD ⊢
  have hA : ∀ q : Nat, s.heap.size ≤ q → A q := fun q h => by rw [← hAe]; exact Or.inr h
  have hS : va_S A s.heap s.heap [] := va_S.rf
  have hl := lv_entry ([.ref a0, .int p0]) (n := 4) (Nat.le_of_ble_eq_true rfl)
  rw [lg_entry_eq]
  generalize (lg_sl ([.ref a0, .int p0]) ++ List.replicate (4 - (lg_sl ([.ref a0, .int p0])).length) Slot.unset).toArray = ls at hl ⊢
  have hl : lv_has ls 4 [(0, .ref a0), (1, .int p0)] := hl
  refine lv_iconst (v := 0) hx hb dJ7_fill_53178_0 (by decide) ?_
  refine lv_istore_n (lv' := [(2, .int 0), (0, .ref a0), (1, .int p0)]) hx hb dJ7_fill_53178_1 rfl hl (by decide) rfl (fun ls hl => ?_)
  refine lv_aload_n hx hb dJ7_fill_53178_2 rfl (lv_at hl 1 rfl) ?_
  refine va_alen (v := 16) hx hb hK hP 0 0 rfl rfl (show Int32.ofNat 16 = 16 by decide) dJ7_fill_53178_3 ?_
  refine lv_istore_n (lv' := [(3, .int 16), (2, .int 0), (0, .ref a0), (1, .int p0)]) hx hb dJ7_fill_53178_4 rfl hl (by decide) rfl (fun ls hl => ?_)
  refine lp_J7_fill_53178_g16_5 hx hb hown hts hK (fun H locs hP hD hS ls hl => ?_) 17 0 (by decide) (by decide) _ _ (by rw [fl_to_0 p0 fx]; exact hP) (by rw [fl_to_0 p0 fx]; exact hD) hS ls (by rw [nI_0]; exact lv_sub hl [2, 3, 1, 0] rfl)
  have hP9 := hP.sub (ws' := [(a0, .inl (cyI, 16, .inl (fl_to p0 fx 16)))]) [0] rfl
  have hD9 := hD.sub (ws' := [(a0, .inl (cyI, 16, .inl (fl_to p0 fx 16)))]) [0] (by decide) rfl
  exact W.vret hx hb hr (fun t ht hW => ⟨⟨(), rfl, trivial, pz_Bof hP9 hK hD9 ht hW⟩, hS.F ht⟩) hS.2.2 dJ7_fill_53178_20
