/-- TAKES and PUTS -/
def tkL : List Int32 := [0, 0, 1, 2, 2, 2, 2, 2, 2, 1, 2, 1, 0, 1, 0, 1, 1, 2]
def ptL : List Int32 := [1, 1, 0, 1, 1, 1, 1, 1, 1, 2, 2, 0, 0, 0, 1, 0, 1, 0]
def tk (i : Nat) : Int32 := tkL.getD i 0
def pt (i : Nat) : Int32 := ptL.getD i 0
/-- what lies outside the world and is only read: texts, tables, links to nest mates -/
def xz (g : GG) (A : Nat → Prop) (U : State) (H : Heap) : Prop :=
  tz_pre A (gx g 0) (gx g 1) U H ∧ vk_R RX11 132 "an op has no such part" (gx g 2) U ∧ va_Nw (.methodLinkNest RX7 76 yX11_reckon "RegisterMill") U ∧ va_Nw (.methodLinkNest RX8 91 yX11_reckon "RegisterMill") U ∧
  va_Nw (.fieldLinkNest RX6 44 "RegisterMill" "TAKES" "[I" "RegisterMill") U ∧ va_Nw (.fieldLinkNest RX0 62 "RegisterMill" "PUTS" "[I" "RegisterMill") U ∧
  va_Z "RegisterMill" "TAKES" "[I" (.ref (gx g 3)) A U H ∧ va_T .int (gx g 3) 18 (fun j => .int (tk j)) A U H ∧ va_Z "RegisterMill" "PUTS" "[I" (.ref (gx g 4)) A U H ∧ va_T .int (gx g 4) 18 (fun j => .int (pt j)) A U H ∧
  va_Nw (.declares ⟨"RegisterMill$Machine", "step", "(II)V"⟩) U ∧ va_Nw (.declares ⟨"RegisterMill$Machine", "openRoom", "(II)V"⟩) U ∧ va_Nw (.declares ⟨"RegisterMill$Machine", "takeAnswer", "(I)V"⟩) U
theorem xz.kept {g : GG} {A : Nat → Prop} {U : State} {H H1 : Heap} (h : xz g A U H) (hq : ∀ a : Nat, a < H.size → ¬ A a → H1[a]? = H[a]?) : xz g A U H1 := by
  obtain ⟨h0, h1, h2, h3, h4, h5, h6, h7, h8, h9, k0, k1, k2⟩ := h
  exact ⟨h0.kept hq, h1, h2, h3, h4, h5, h6.kept hq, h7.kept hq, h8.kept hq, h9.kept hq, k0, k1, k2⟩
theorem xz.narrow {g : GG} {A B : Nat → Prop} {U : State} {H : Heap} (h : xz g A U H) (hq : ∀ q, B q → A q) : xz g B U H := by
  obtain ⟨h0, h1, h2, h3, h4, h5, h6, h7, h8, h9, k0, k1, k2⟩ := h
  exact ⟨h0.narrow hq, h1, h2, h3, h4, h5, h6.narrow hq, h7.narrow hq, h8.narrow hq, h9.narrow hq, k0, k1, k2⟩
theorem xz.warm {g : GG} {A : Nat → Prop} {s U : State} {H : Heap} (hW : s.WarmedH U.vm) (h : xz g A s H) : xz g A U H := by
  obtain ⟨h0, h1, h2, h3, h4, h5, h6, h7, h8, h9, k0, k1, k2⟩ := h
  exact ⟨h0.warm hW, h1.warm hW, va_Nw.warmM hW h2, va_Nw.warmM hW h3, va_Nw.warmF hW h4, va_Nw.warmF hW h5, h6.moved hW.alike, h7.moved hW.alike, h8.moved hW.alike, h9.moved hW.alike, va_Nw.warmD hW k0, va_Nw.warmD hW k1, va_Nw.warmD hW k2⟩
/-- a contract's start -/
def qpre (g : GG) (q n : Nat) (σ : Sg) (sz : Nat) : State → Prop := fun U => U.heap.size = sz ∧ va_P g.1 vwCl (wA g q n σ) U.heap ∧ va_K g.1 vwCl (gt g) U ∧ va_D (fun _ => True) (wA g q n σ) ∧ nw_all U ∧ xz g (va_A (wA g q n σ) sz) U U.heap
theorem q_blind {av : List Value} {g : GG} {q n : Nat} {σ : Sg} {sz : Nat} : FrameBlind (va_Pc av (qpre g q n σ sz)) := by
  intro a U g0 mk qq
  obtain ⟨q0, q1, qP, qK, qD, qN, qX⟩ := qq
  exact ⟨q0, q1, qP, va_K.moved (u := U) (U := U.calling g0 mk a) (Vm.Alike.refl U.vm) qK, qD, qN.call g0 mk a, xz.warm (s := U) (U := U.calling g0 mk a) (State.WarmedH.refl U) qX⟩
theorem q_free {g : GG} {q n : Nat} {σ : Sg} {A : Nat → Prop} {H0 H : Heap} {locs : List Loc} (hI : wI g q n σ A H0 H locs) (hA : ∀ x, H0.size ≤ x → A x) : ∀ x, va_A (wA g q n σ) H.size x → A x := by
  intro x h
  rcases h with ⟨k, e, h⟩ | h
  · exact hI.2.1.2 k _ h
  · exact hA x (Nat.le_trans hI.2.2.1 h)
theorem q_to {av : List Value} {g : GG} {q n : Nat} {σ : Sg} {A : Nat → Prop} {s : State} {H : Heap} {locs : List Loc} (hI : wI g q n σ A s.heap H locs) (hK : va_K g.1 vwCl (gt g) s) (hN : nw_all s) (hZ : xz g A s s.heap) (hA : ∀ x, s.heap.size ≤ x → A x) :
    ∀ U : State, U.heap = H → s.WarmedH U.vm → va_Pc av (qpre g q n σ H.size) av.toArray U :=
  fun U hU hW => ⟨rfl, by rw [hU], by rw [hU]; exact hI.1, va_K.moved hW.alike hK, hI.2.1.weaken (fun _ _ _ _ => trivial), hN.warm hW, by rw [hU]; exact ((hZ.kept (fun a h1 h2 => hI.2.2.2.1 a h1 h2)).narrow (q_free hI hA)).warm hW⟩
def qB (g : GG) (q n : Nat) (σ : Sg) (A : Nat → Prop) (t : State) : Prop := va_P g.1 vwCl (wA g q n σ) t.heap ∧ va_D A (wA g q n σ)
abbrev qR (fr lo : Nat) : Room := { frames := fr, cells := 0, slots := 0, locals := lo }
abbrev qQi (g : GG) (q n sz : Nat) (σ : Sg) (r : Int32) (σ' : Sg) : Array Value → State → Outcome → State → Prop := va_Qi (S := Unit) (fun r' _ => r' = r) (fun _ t => qB g q n σ' (va_A (wA g q n σ) sz) t) (va_A (wA g q n σ) sz)
abbrev qQv (g : GG) (q n sz : Nat) (σ σ' : Sg) : Array Value → State → Outcome → State → Prop := va_Qv (S := Unit) (fun _ => True) (fun _ t => qB g q n σ' (va_A (wA g q n σ) sz) t) (va_A (wA g q n σ) sz)
/-- the contract of a method that answers a number, of one that answers nothing -/
def CTi (l : Launch) (y : MethodName) (cd : ByteArray) (mL : Nat) (rt : Option FieldType) (fr lo : Nat) (g : GG) (q n : Nat) (as : List Value) (σ : Sg) (r : Int32) (σ' : Sg) : Prop :=
  ∀ sz, Met l y (.code y cd mL rt :: BIG) (qR fr lo) (va_Pc as (qpre g q n σ sz)) (qQi g q n sz σ r σ') 0 0 (va_A (wA g q n σ) sz)
def CTv (l : Launch) (y : MethodName) (cd : ByteArray) (mL : Nat) (rt : Option FieldType) (fr lo : Nat) (g : GG) (q n : Nat) (as : List Value) (σ σ' : Sg) : Prop :=
  ∀ sz, Met l y (.code y cd mL rt :: BIG) (qR fr lo) (va_Pc as (qpre g q n σ sz)) (qQv g q n sz σ σ') 0 0 (va_A (wA g q n σ) sz)
section KB
variable {p : Program} {l : Launch} {e : Env} {R : Room} {s : State} {m : MethodId} {args : Array Value} {below : List Frame} {meth : Method} {c : Code} {H : Heap} {locs : List Loc} {cells slots : Nat} {Q : State → Prop} {cc : ByteArray} {pc : Nat} {ls : Array Slot} {st0 rest : List Value} {A : Nat → Prop} {g : GG} {q n : Nat} {σ σ' : Sg} {r : Int32} {a0 : Array Value}
theorem k_i (hI : wI g q n σ A s.heap H locs) (hA : ∀ x, s.heap.size ≤ x → A x)
    (hr : va_Run p l e R s m args below meth c H locs cells slots 0 0 (F0 m pc ls st0) rest (qQi g q n H.size σ r σ' a0) (va_A (wA g q n σ) H.size))
    (kk : ∀ (H1 : Heap) (locs1 : List Loc), wI g q n σ' A s.heap H1 locs1 → W p l e R s m args below meth c H1 locs1 cells slots Q (F0 m (pc + 3) ls (.int r :: rest))) : W p l e R s m args below meth c H locs cells slots Q (F0 m pc ls st0) :=
  va_calli hr hI.2.2 (fun x _ h => q_free hI hA x h) (q_free hI hA) (fun r' u t H1 l1 ht hvm hw hB hz1 hk1 hS => by
    subst hw
    subst ht
    exact kk t.heap l1 ⟨hB.1, ⟨hB.2.1, fun k x hk => q_free hI hA _ (hB.2.2 k x hk)⟩, hS⟩)
theorem k_v (hI : wI g q n σ A s.heap H locs) (hA : ∀ x, s.heap.size ≤ x → A x)
    (hr : va_Run p l e R s m args below meth c H locs cells slots 0 0 (F0 m pc ls st0) rest (qQv g q n H.size σ σ' a0) (va_A (wA g q n σ) H.size))
    (kk : ∀ (H1 : Heap) (locs1 : List Loc), wI g q n σ' A s.heap H1 locs1 → W p l e R s m args below meth c H1 locs1 cells slots Q (F0 m (pc + 3) ls rest)) : W p l e R s m args below meth c H locs cells slots Q (F0 m pc ls st0) :=
  va_callv hr hI.2.2 (fun x _ h => q_free hI hA x h) (q_free hI hA) (fun u t H1 l1 ht hvm hw hB hz1 hk1 hS => by
    subst ht
    exact kk t.heap l1 ⟨hB.1, ⟨hB.2.1, fun k x hk => q_free hI hA _ (hB.2.2 k x hk)⟩, hS⟩)
end KB
/-- words of a call among BIG -/
theorem in_c {ws : List Cond} (h : ∀ w ∈ ws, w ∈ BIG) : GoodIn BIG ws := fun w hw => ⟨h w hw, BIG_good w (h w hw)⟩
theorem in_k {cw : Cond} (h : cw ∈ BIG) : ∀ w ∈ cw :: BIG, w ∈ BIG := nm_c h (fun _ h => h)
theorem in_V {own C : String} {idx : Nat} {y : MethodName} {cw : Cond} (h1 : Cond.methodLink own idx y ∈ BIG) (h2 : Cond.instanceMethod y ∈ BIG) (h3 : Cond.selects C y y ∈ BIG) (h4 : Cond.initialized C ∈ BIG) (h5 : cw ∈ BIG) : GoodIn BIG (wsV own idx C y (cw :: BIG)) := in_c (nm_c h1 (nm_c h2 (nm_c h3 (nm_c h4 (in_k h5)))))
theorem in_U {own C owner : String} {idx : Nat} {x y : MethodName} {cw : Cond} (h1 : Cond.methodLink own idx x ∈ BIG) (h2 : Cond.sameMethod x.cls owner x.name x.desc ∈ BIG) (h3 : Cond.selects C x y ∈ BIG) (h4 : Cond.instanceMethod y ∈ BIG) (h5 : Cond.initialized y.cls ∈ BIG) (h6 : cw ∈ BIG) : GoodIn BIG (va_wsU own idx C owner x y (cw :: BIG)) := in_c (nm_c h1 (nm_c h2 (nm_c h3 (nm_c h4 (nm_c h5 (in_k h6))))))
theorem in_O {own C owner : String} {idx : Nat} {x y : MethodName} {cw : Cond} (h1 : Cond.methodLink own idx x ∈ BIG) (h2 : Cond.sameMethod x.cls owner x.name x.desc ∈ BIG) (h0 : Cond.instanceMethod ⟨owner, x.name, x.desc⟩ ∈ BIG) (h3 : Cond.selects C x y ∈ BIG) (h4 : Cond.instanceMethod y ∈ BIG) (h5 : Cond.initialized y.cls ∈ BIG) (h6 : cw ∈ BIG) : GoodIn BIG (va_wsO own idx C owner x y (cw :: BIG)) := in_c (nm_c h1 (nm_c h2 (nm_c h0 (nm_c h3 (nm_c h4 (nm_c h5 (in_k h6)))))))
theorem in_S {own : String} {idx : Nat} {y : MethodName} {cw : Cond} (h1 : Cond.methodLink own idx y ∈ BIG) (h2 : Cond.static y ∈ BIG) (h3 : Cond.initialized y.cls ∈ BIG) (h4 : cw ∈ BIG) : GoodIn BIG (va_wsS own idx y (cw :: BIG)) := in_c (nm_c h1 (nm_c h2 (nm_c h3 (in_k h4))))
theorem in_SU {own : String} {idx : Nat} {y : MethodName} {cw : Cond} (h1 : Cond.methodLink own idx y ∈ BIG) (h2 : Cond.sameMethod y.cls y.cls y.name y.desc ∈ BIG) (h3 : Cond.superclass own y.cls ∈ BIG) (h4 : Cond.instanceMethod y ∈ BIG) (h5 : Cond.initialized y.cls ∈ BIG) (h6 : cw ∈ BIG) : GoodIn BIG (va_wsSU own idx y (cw :: BIG)) := in_c (nm_c h1 (nm_c h2 (nm_c h3 (nm_c h4 (nm_c h5 (in_k h6))))))
/-- what a walk stands on: the method's frame, the tables, and how it ends -/
def CXi (p : Program) (l : Launch) (e : Env) (R : Room) (s : State) (m : MethodId) (args : Array Value) (below : List Frame) (meth : Method) (c : Code) (cc : ByteArray) (nL : Nat) (own : String) (g : GG) (q n : Nat) (A : Nat → Prop) (Q : State → Prop) (out : Option (Int32 × Sg)) : Prop :=
  CallFix p m c cc nL s args BIG own ∧ va_K g.1 vwCl (gt g) s ∧ nw_all s ∧ xz g A s s.heap ∧ (∀ x, s.heap.size ≤ x → A x) ∧
  ∀ (H : Heap) (locs : List Loc) (ls : Array Slot) (σ1 : Sg) (v : Int32) (pc : Nat), some (v, σ1) = out → wI g q n σ1 A s.heap H locs → decode cc pc = .ok (.ireturn, 1) → W p l e R s m args below meth c H locs 0 0 Q (F0 m pc ls [.int v])
def CXz (p : Program) (l : Launch) (e : Env) (R : Room) (s : State) (m : MethodId) (args : Array Value) (below : List Frame) (meth : Method) (c : Code) (cc : ByteArray) (nL : Nat) (own : String) (g : GG) (q n : Nat) (A : Nat → Prop) (Q : State → Prop) (out : Option (Int32 × Sg)) : Prop :=
  CallFix p m c cc nL s args BIG own ∧ va_K g.1 vwCl (gt g) s ∧ nw_all s ∧ xz g A s s.heap ∧ (∀ x, s.heap.size ≤ x → A x) ∧
  ∀ (H : Heap) (locs : List Loc) (ls : Array Slot) (σ1 : Sg) (v : Int32) (pc : Nat), some (v, σ1) = out → wI g q n σ1 A s.heap H locs → (v = 0 ∨ v = 1) → decode cc pc = .ok (.ireturn, 1) → W p l e R s m args below meth c H locs 0 0 Q (F0 m pc ls [.int v])
def CXv (p : Program) (l : Launch) (e : Env) (R : Room) (s : State) (m : MethodId) (args : Array Value) (below : List Frame) (meth : Method) (c : Code) (cc : ByteArray) (nL : Nat) (own : String) (g : GG) (q n : Nat) (A : Nat → Prop) (Q : State → Prop) (out : Option (Int32 × Sg)) : Prop :=
  CallFix p m c cc nL s args BIG own ∧ va_K g.1 vwCl (gt g) s ∧ nw_all s ∧ xz g A s s.heap ∧ (∀ x, s.heap.size ≤ x → A x) ∧
  ∀ (H : Heap) (locs : List Loc) (ls : Array Slot) (σ1 : Sg) (pc : Nat), some (0, σ1) = out → wI g q n σ1 A s.heap H locs → decode cc pc = .ok (.return_, 1) → W p l e R s m args below meth c H locs 0 0 Q (F0 m pc ls [])
section KE
variable {l : Launch} {y : MethodName} {cd : ByteArray} {mL fr lo : Nat} {g : GG} {q n : Nat} {as : List Value} {σ σ' : Sg} {r : Int32}
theorem e_i (hy : plainName y.cls = true) (hlen : (lg_sl as).length ≤ mL)
    (body : ∀ (p : Program) (e : Env) (s : State) (m : MethodId) (args : Array Value) (below : List Frame) (meth : Method) (c : Code) (A : Nat → Prop) (Q : State → Prop) (ls : Array Slot), CXi p l e (qR fr lo) s m args below meth c cd mL y.cls g q n A Q (some (r, σ')) → lv_has ls mL (lv_args 0 as) → wI g q n σ A s.heap s.heap [] → W p l e (qR fr lo) s m args below meth c s.heap [] 0 0 Q (F0 m 0 ls [])) : CTi l y cd mL (some .int) fr lo g q n as σ r σ' := by
  intro sz
  refine Met.ofW (cc := cd) (maxL := mL) (ret := some .int) hy rfl ?_
  intro p e s m args below meth c s₁ B hml hv
  obtain ⟨rfl, hsz, hP, hK, hD0, hN, hZ⟩ := hv
  subst hsz
  have hx := B.exec
  have hb := B.bytes
  have hr := B.returns
  have hts := atoms_spec (ws := .code y cd mL (some .int) :: BIG) B.pre
  have hlocks := B.notSynchronized
  have hl := lv_entry as (n := mL) hlen
  rw [lg_entry_eq]
  generalize (lg_sl as ++ List.replicate (mL - (lg_sl as).length) Slot.unset).toArray = ls at hl ⊢
  exact body p e s m as.toArray below meth c (va_A (wA g q n σ) s.heap.size) _ ls ⟨⟨hx, hb, hml, findClass_of_methodNamed B.named, fun w h => hts w (List.mem_cons_of_mem _ h)⟩, hK, hN, hZ, fun x h => Or.inr h, fun H locs ls σ1 v pc hm hI hd => by
    cases hm
    exact W.iret (v := r) hx hb hr (fun t ht hW => ⟨⟨_, (), rfl, rfl, by rw [ht]; exact hI.1, hI.2.1⟩, hI.2.2.F ht⟩) hI.2.2.2.2 hd⟩ hl ⟨hP, hD0.self, va_S.rf⟩
theorem e_z (hy : plainName y.cls = true) (hlen : (lg_sl as).length ≤ mL)
    (body : ∀ (p : Program) (e : Env) (s : State) (m : MethodId) (args : Array Value) (below : List Frame) (meth : Method) (c : Code) (A : Nat → Prop) (Q : State → Prop) (ls : Array Slot), CXz p l e (qR fr lo) s m args below meth c cd mL y.cls g q n A Q (some (r, σ')) → lv_has ls mL (lv_args 0 as) → wI g q n σ A s.heap s.heap [] → W p l e (qR fr lo) s m args below meth c s.heap [] 0 0 Q (F0 m 0 ls [])) : CTi l y cd mL (some .boolean) fr lo g q n as σ r σ' := by
  intro sz
  refine Met.ofW (cc := cd) (maxL := mL) (ret := some .boolean) hy rfl ?_
  intro p e s m args below meth c s₁ B hml hv
  obtain ⟨rfl, hsz, hP, hK, hD0, hN, hZ⟩ := hv
  subst hsz
  have hx := B.exec
  have hb := B.bytes
  have hr := B.returns
  have hts := atoms_spec (ws := .code y cd mL (some .boolean) :: BIG) B.pre
  have hlocks := B.notSynchronized
  have hl := lv_entry as (n := mL) hlen
  rw [lg_entry_eq]
  generalize (lg_sl as ++ List.replicate (mL - (lg_sl as).length) Slot.unset).toArray = ls at hl ⊢
  exact body p e s m as.toArray below meth c (va_A (wA g q n σ) s.heap.size) _ ls ⟨⟨hx, hb, hml, findClass_of_methodNamed B.named, fun w h => hts w (List.mem_cons_of_mem _ h)⟩, hK, hN, hZ, fun x h => Or.inr h, fun H locs ls σ1 v pc hm hI h01 hd => by
    cases hm
    exact W.zret (v := r) hx hb hr (by rcases h01 with h | h <;> (rw [h]; decide)) (fun t ht hW => ⟨⟨_, (), rfl, rfl, by rw [ht]; exact hI.1, hI.2.1⟩, hI.2.2.F ht⟩) hI.2.2.2.2 hd⟩ hl ⟨hP, hD0.self, va_S.rf⟩
theorem e_v (hy : plainName y.cls = true) (hlen : (lg_sl as).length ≤ mL)
    (body : ∀ (p : Program) (e : Env) (s : State) (m : MethodId) (args : Array Value) (below : List Frame) (meth : Method) (c : Code) (A : Nat → Prop) (Q : State → Prop) (ls : Array Slot), CXv p l e (qR fr lo) s m args below meth c cd mL y.cls g q n A Q (some (r, σ')) → lv_has ls mL (lv_args 0 as) → wI g q n σ A s.heap s.heap [] → W p l e (qR fr lo) s m args below meth c s.heap [] 0 0 Q (F0 m 0 ls [])) : CTv l y cd mL none fr lo g q n as σ σ' := by
  intro sz
  refine Met.ofW (cc := cd) (maxL := mL) (ret := none) hy rfl ?_
  intro p e s m args below meth c s₁ B hml hv
  obtain ⟨rfl, hsz, hP, hK, hD0, hN, hZ⟩ := hv
  subst hsz
  have hx := B.exec
  have hb := B.bytes
  have hr := B.returns
  have hts := atoms_spec (ws := .code y cd mL none :: BIG) B.pre
  have hlocks := B.notSynchronized
  have hl := lv_entry as (n := mL) hlen
  rw [lg_entry_eq]
  generalize (lg_sl as ++ List.replicate (mL - (lg_sl as).length) Slot.unset).toArray = ls at hl ⊢
  exact body p e s m as.toArray below meth c (va_A (wA g q n σ) s.heap.size) _ ls ⟨⟨hx, hb, hml, findClass_of_methodNamed B.named, fun w h => hts w (List.mem_cons_of_mem _ h)⟩, hK, hN, hZ, fun x h => Or.inr h, fun H locs ls σ1 pc hm hI hd => by
    cases hm
    exact W.vret hx hb hr (fun t ht hW => ⟨⟨(), rfl, trivial, by rw [ht]; exact hI.1, hI.2.1⟩, hI.2.2.F ht⟩) hI.2.2.2.2 hd⟩ hl ⟨hP, hD0.self, va_S.rf⟩
end KE
/-- the pieces of the pictures: a guarded index, a call, an answer that is 0 or 1, a divisor -/
def gb {α : Type} (i : Int32) (n : Nat) (x : Option α) : Option α := bif decide (¬ (i < 0 ∨ n ≤ i.toNatClampNeg)) then x else none
theorem gb_some {α : Type} {i : Int32} {n : Nat} {x : Option α} {y : α} (h : gb i n x = some y) : vp_in i n ∧ x = some y := by
  unfold gb at h
  by_cases hi : ¬ (i < 0 ∨ n ≤ i.toNatClampNeg)
  · rw [decide_eq_true hi] at h
    exact ⟨hi, h⟩
  · rw [decide_eq_false hi] at h
    exact nomatch h
theorem gb_ok {α : Type} {i : Int32} {n : Nat} {x : Option α} (h : vp_in i n) : gb i n x = x := by
  unfold gb
  rw [decide_eq_true (show ¬ (i < 0 ∨ n ≤ i.toNatClampNeg) from h)]
  rfl
def bd {β : Type} (x : Option (Int32 × Sg)) (k : Int32 → Sg → Option β) : Option β := match x with
  | some o => k o.1 o.2
  | none => none
theorem bd_some {β : Type} {x : Option (Int32 × Sg)} {k : Int32 → Sg → Option β} {y : β} (h : bd x k = some y) : ∃ (r : Int32) (σ : Sg), x = some (r, σ) ∧ k r σ = some y := by
  cases x with
  | none => exact nomatch h
  | some o => exact ⟨o.1, o.2, rfl, h⟩
def g01 {α : Type} (v : Int32) (x : Option α) : Option α := bif decide (v = 0 ∨ v = 1) then x else none
theorem g01_some {α : Type} {v : Int32} {x : Option α} {y : α} (h : g01 v x = some y) : (v = 0 ∨ v = 1) ∧ x = some y := by
  unfold g01 at h
  by_cases hi : v = 0 ∨ v = 1
  · rw [decide_eq_true hi] at h
    exact ⟨hi, h⟩
  · rw [decide_eq_false hi] at h
    exact nomatch h
def gdz {α : Type} (v : Int32) (x : Option α) : Option α := bif decide (v = 0) then none else x
theorem gdz_some {α : Type} {v : Int32} {x : Option α} {y : α} (h : gdz v x = some y) : ¬ v = 0 ∧ x = some y := by
  unfold gdz at h
  by_cases hi : v = 0
  · rw [decide_eq_true hi] at h
    exact nomatch h
  · rw [decide_eq_false hi] at h
    exact ⟨hi, h⟩
theorem up_same (f : Nat → Int32) (i : Nat) (v : Int32) : upd f i v i = v := by simp [upd]
theorem ne_n {x : Int} : ∀ z ∈ ([] : List Int), ¬ x = z := fun z h => nomatch h
theorem ne_c {x a : Int} {l : List Int} (h : ¬ x = a) (k : ∀ z ∈ l, ¬ x = z) : ∀ z ∈ a :: l, ¬ x = z := fun z q => (List.mem_cons.mp q).elim (fun e => e ▸ h) (k z)
section SW
variable {p : Program} {l : Launch} {e : Env} {R : Room} {s : State} {m : MethodId} {args : Array Value} {below : List Frame} {meth : Method} {c : Code} {H : Heap} {locs : List Loc} {cells slots : Nat} {Q : State → Prop} {cc : ByteArray} {pc : Nat} {ls : Array Slot} {rest : List Value}
/-- a switch whose number is none of those that go elsewhere -/
theorem sw_d (hexec : p.tables.exec = Jvm.exec) (hb : c.code = cc) {dflt lo hi : Int} {offs : Array Int} {len : Nat} {x : Int32} {tgt : Nat} (cs : List Int) (hdg : decode cc pc = .ok (.tableswitch dflt lo hi offs, len)) (hsz : hi - lo + 1 = (offs.size : Int)) (hcs : ∀ k : Nat, k < offs.size → offs[k]? = some dflt ∨ (lo + (k : Int)) ∈ cs) (hne : ∀ z ∈ cs, ¬ x.toInt = z) (ht : (pc : Int) + dflt = (tgt : Int))
    (kk : W p l e R s m args below meth c H locs cells slots Q (F0 m tgt ls rest)) : W p l e R s m args below meth c H locs cells slots Q (F0 m pc ls (.int x :: rest)) := by
  by_cases h : x.toInt < lo ∨ hi < x.toInt
  · exact lv_tableOut hexec hb hdg h ht kk
  · have hk : (x.toInt - lo).toNat < offs.size := by omega
    rcases hcs _ hk with h1 | h1
    · exact lv_tableIn hexec hb hdg (fun q => h (Or.inl q)) (fun q => h (Or.inr q)) h1 ht kk
    · exact absurd (show x.toInt = lo + ((x.toInt - lo).toNat : Int) by omega) (hne _ h1)
end SW
