/-- a method whose answer is the address of a cell of the world -/
abbrev qQr (g : GG) (q n sz : Nat) (σ : Sg) (x : Nat) : Array Value → State → Outcome → State → Prop := va_Qr (S := Unit) (fun _ => True) (fun _ a t => a = x ∧ qB g q n σ (va_A (wA g q n σ) sz) t) (va_A (wA g q n σ) sz)
def CTr (l : Launch) (y : MethodName) (cd : ByteArray) (mL : Nat) (rt : Option FieldType) (fr lo : Nat) (g : GG) (q n : Nat) (as : List Value) (σ : Sg) (x : Nat) : Prop :=
  ∀ sz, Met l y (.code y cd mL rt :: BIG) (qR fr lo) (va_Pc as (qpre g q n σ sz)) (qQr g q n sz σ x) 0 0 (va_A (wA g q n σ) sz)
def CXr (p : Program) (l : Launch) (e : Env) (R : Room) (s : State) (m : MethodId) (args : Array Value) (below : List Frame) (meth : Method) (c : Code) (cc : ByteArray) (nL : Nat) (own : String) (g : GG) (q n : Nat) (σ : Sg) (A : Nat → Prop) (Q : State → Prop) (x : Nat) : Prop :=
  CallFix p m c cc nL s args BIG own ∧ va_K g.1 vwCl (gt g) s ∧ nw_all s ∧ xz g A s s.heap ∧ (∀ x, s.heap.size ≤ x → A x) ∧
  ∀ (H : Heap) (locs : List Loc) (ls : Array Slot) (pc : Nat), wI g q n σ A s.heap H locs → decode cc pc = .ok (.areturn, 1) → W p l e R s m args below meth c H locs 0 0 Q (F0 m pc ls [.ref x])
/-- the contract of a method behind which Code's row may be another, longer one: n' is its length, d what was made -/
abbrev qRc (fr lo d : Nat) : Room := { frames := fr, cells := d, slots := d, locals := lo }
abbrev qQm (g : GG) (q n sz : Nat) (σ σ' : Sg) (n' : Nat) : Array Value → State → Outcome → State → Prop := va_Qv (S := Nat) (fun _ => True) (fun q' t => qB g q' n' σ' (va_A (wA g q n σ) sz) t) (va_A (wA g q n σ) sz)
abbrev qQmi (g : GG) (q n sz : Nat) (σ : Sg) (r : Int32) (σ' : Sg) (n' : Nat) : Array Value → State → Outcome → State → Prop := va_Qi (S := Nat) (fun r' _ => r' = r) (fun q' t => qB g q' n' σ' (va_A (wA g q n σ) sz) t) (va_A (wA g q n σ) sz)
def CTm (l : Launch) (y : MethodName) (cd : ByteArray) (mL : Nat) (rt : Option FieldType) (fr lo : Nat) (g : GG) (q n : Nat) (as : List Value) (σ σ' : Sg) (n' d : Nat) : Prop :=
  ∀ sz, Met l y (.code y cd mL rt :: BIG) (qRc fr lo d) (va_Pc as (qpre g q n σ sz)) (qQm g q n sz σ σ' n') d d (va_A (wA g q n σ) sz)
def CTn (l : Launch) (y : MethodName) (cd : ByteArray) (mL : Nat) (rt : Option FieldType) (fr lo : Nat) (g : GG) (q n : Nat) (as : List Value) (σ : Sg) (r : Int32) (σ' : Sg) (n' d : Nat) : Prop :=
  ∀ sz, Met l y (.code y cd mL rt :: BIG) (qRc fr lo d) (va_Pc as (qpre g q n σ sz)) (qQmi g q n sz σ r σ' n') d d (va_A (wA g q n σ) sz)
def CXm (p : Program) (l : Launch) (e : Env) (R : Room) (s : State) (m : MethodId) (args : Array Value) (below : List Frame) (meth : Method) (c : Code) (cc : ByteArray) (nL : Nat) (own : String) (g : GG) (n' d : Nat) (A : Nat → Prop) (Q : State → Prop) (out : Option (Int32 × Sg)) : Prop :=
  CallFix p m c cc nL s args BIG own ∧ va_K g.1 vwCl (gt g) s ∧ nw_all s ∧ xz g A s s.heap ∧ (∀ x, s.heap.size ≤ x → A x) ∧
  ∀ (q1 : Nat) (H : Heap) (locs : List Loc) (ls : Array Slot) (σ1 : Sg) (pc : Nat), some (0, σ1) = out → wI g q1 n' σ1 A s.heap H locs → decode cc pc = .ok (.return_, 1) → W p l e R s m args below meth c H locs d d Q (F0 m pc ls [])
def CXn (p : Program) (l : Launch) (e : Env) (R : Room) (s : State) (m : MethodId) (args : Array Value) (below : List Frame) (meth : Method) (c : Code) (cc : ByteArray) (nL : Nat) (own : String) (g : GG) (n' d : Nat) (A : Nat → Prop) (Q : State → Prop) (out : Option (Int32 × Sg)) : Prop :=
  CallFix p m c cc nL s args BIG own ∧ va_K g.1 vwCl (gt g) s ∧ nw_all s ∧ xz g A s s.heap ∧ (∀ x, s.heap.size ≤ x → A x) ∧
  ∀ (q1 : Nat) (H : Heap) (locs : List Loc) (ls : Array Slot) (σ1 : Sg) (v : Int32) (pc : Nat), some (v, σ1) = out → wI g q1 n' σ1 A s.heap H locs → decode cc pc = .ok (.ireturn, 1) → W p l e R s m args below meth c H locs d d Q (F0 m pc ls [.int v])
section KR
variable {p : Program} {l : Launch} {e : Env} {R : Room} {s : State} {m : MethodId} {args : Array Value} {below : List Frame} {meth : Method} {c : Code} {H : Heap} {locs : List Loc} {cells slots : Nat} {Q : State → Prop} {cc : ByteArray} {pc : Nat} {ls : Array Slot} {st0 rest : List Value} {A : Nat → Prop} {g : GG} {q n : Nat} {σ σ' : Sg} {r : Int32} {a0 : Array Value}
theorem k_r {x : Nat} (hI : wI g q n σ A s.heap H locs) (hA : ∀ x, s.heap.size ≤ x → A x)
    (hr : va_Run p l e R s m args below meth c H locs cells slots 0 0 (F0 m pc ls st0) rest (qQr g q n H.size σ x a0) (va_A (wA g q n σ) H.size))
    (kk : ∀ (H1 : Heap) (locs1 : List Loc), wI g q n σ A s.heap H1 locs1 → W p l e R s m args below meth c H1 locs1 cells slots Q (F0 m (pc + 3) ls (.ref x :: rest))) : W p l e R s m args below meth c H locs cells slots Q (F0 m pc ls st0) :=
  va_callr hr hI.2.2 (fun x _ h => q_free hI hA x h) (q_free hI hA) (fun u ra t H1 l1 ht hvm hw hB hz1 hk1 hS => by
    obtain ⟨rfl, hB⟩ := hB
    subst ht
    exact kk t.heap l1 ⟨hB.1, ⟨hB.2.1, fun k x hk => q_free hI hA _ (hB.2.2 k x hk)⟩, hS⟩)
theorem k_m {n' d : Nat} (hI : wI g q n σ A s.heap H locs) (hA : ∀ x, s.heap.size ≤ x → A x)
    (hr : va_Run p l e R s m args below meth c H locs cells slots d d (F0 m pc ls st0) rest (qQm g q n H.size σ σ' n' a0) (va_A (wA g q n σ) H.size))
    (kk : ∀ (q' : Nat) (H1 : Heap) (locs1 : List Loc), wI g q' n' σ' A s.heap H1 locs1 → W p l e R s m args below meth c H1 locs1 (cells + d) (slots + d) Q (F0 m (pc + 3) ls rest)) : W p l e R s m args below meth c H locs cells slots Q (F0 m pc ls st0) :=
  va_callv hr hI.2.2 (fun x _ h => q_free hI hA x h) (q_free hI hA) (fun u t H1 l1 ht hvm hw hB hz1 hk1 hS => by
    subst ht
    exact kk u t.heap l1 ⟨hB.1, ⟨hB.2.1, fun k x hk => q_free hI hA _ (hB.2.2 k x hk)⟩, hS⟩)
theorem k_n {n' d : Nat} (hI : wI g q n σ A s.heap H locs) (hA : ∀ x, s.heap.size ≤ x → A x)
    (hr : va_Run p l e R s m args below meth c H locs cells slots d d (F0 m pc ls st0) rest (qQmi g q n H.size σ r σ' n' a0) (va_A (wA g q n σ) H.size))
    (kk : ∀ (q' : Nat) (H1 : Heap) (locs1 : List Loc), wI g q' n' σ' A s.heap H1 locs1 → W p l e R s m args below meth c H1 locs1 (cells + d) (slots + d) Q (F0 m (pc + 3) ls (.int r :: rest))) : W p l e R s m args below meth c H locs cells slots Q (F0 m pc ls st0) :=
  va_calli hr hI.2.2 (fun x _ h => q_free hI hA x h) (q_free hI hA) (fun r' u t H1 l1 ht hvm hw hB hz1 hk1 hS => by
    subst hw
    subst ht
    exact kk u t.heap l1 ⟨hB.1, ⟨hB.2.1, fun k x hk => q_free hI hA _ (hB.2.2 k x hk)⟩, hS⟩)
end KR
section KF
variable {l : Launch} {y : MethodName} {cd : ByteArray} {mL fr lo : Nat} {g : GG} {q n : Nat} {as : List Value} {σ σ' : Sg} {r : Int32}
theorem e_r {x : Nat} {C : String} (hy : plainName y.cls = true) (hlen : (lg_sl as).length ≤ mL)
    (body : ∀ (p : Program) (e : Env) (s : State) (m : MethodId) (args : Array Value) (below : List Frame) (meth : Method) (c : Code) (A : Nat → Prop) (Q : State → Prop) (ls : Array Slot), CXr p l e (qR fr lo) s m args below meth c cd mL y.cls g q n σ A Q x → lv_has ls mL (lv_args 0 as) → wI g q n σ A s.heap s.heap [] → W p l e (qR fr lo) s m args below meth c s.heap [] 0 0 Q (F0 m 0 ls [])) : CTr l y cd mL (some (.object C)) fr lo g q n as σ x := by
  intro sz
  refine Met.ofW (cc := cd) (maxL := mL) (ret := some (.object C)) hy rfl ?_
  intro p e s m args below meth c s₁ B hml hv
  obtain ⟨rfl, hsz, hP, hK, hD0, hN, hZ⟩ := hv
  subst hsz
  have hx := B.exec
  have hb := B.bytes
  have hr := B.returns
  have hts := atoms_spec (ws := .code y cd mL (some (.object C)) :: BIG) B.pre
  have hlocks := B.notSynchronized
  have hl := lv_entry as (n := mL) hlen
  rw [lg_entry_eq]
  generalize (lg_sl as ++ List.replicate (mL - (lg_sl as).length) Slot.unset).toArray = ls at hl ⊢
  exact body p e s m as.toArray below meth c (va_A (wA g q n σ) s.heap.size) _ ls ⟨⟨hx, hb, hml, findClass_of_methodNamed B.named, fun w h => hts w (List.mem_cons_of_mem _ h)⟩, hK, hN, hZ, fun x h => Or.inr h, fun H locs ls pc hI hd => W.aret (v := .ref x) hx hb hr (Or.inl ⟨_, rfl⟩) (Or.inr ⟨_, rfl⟩) (fun t ht hW => ⟨⟨(), x, rfl, trivial, rfl, by rw [ht]; exact hI.1, hI.2.1⟩, hI.2.2.F ht⟩) hI.2.2.2.2 hd⟩ hl ⟨hP, hD0.self, va_S.rf⟩
theorem e_m {n' d : Nat} (hy : plainName y.cls = true) (hlen : (lg_sl as).length ≤ mL)
    (body : ∀ (p : Program) (e : Env) (s : State) (m : MethodId) (args : Array Value) (below : List Frame) (meth : Method) (c : Code) (A : Nat → Prop) (Q : State → Prop) (ls : Array Slot), CXm p l e (qRc fr lo d) s m args below meth c cd mL y.cls g n' d A Q (some (r, σ')) → lv_has ls mL (lv_args 0 as) → wI g q n σ A s.heap s.heap [] → W p l e (qRc fr lo d) s m args below meth c s.heap [] 0 0 Q (F0 m 0 ls [])) : CTm l y cd mL none fr lo g q n as σ σ' n' d := by
  intro sz
  refine Met.ofW (cc := cd) (maxL := mL) (ret := none) hy rfl ?_
  intro p e s m args below meth c s₁ B hml hv
  obtain ⟨rfl, hsz, hP, hK, hD0, hN, hZ⟩ := hv
  subst hsz
  have hx := B.exec
  have hb := B.bytes
  have hr := B.returns
  have hts := atoms_spec (ws := .code y cd mL (none) :: BIG) B.pre
  have hlocks := B.notSynchronized
  have hl := lv_entry as (n := mL) hlen
  rw [lg_entry_eq]
  generalize (lg_sl as ++ List.replicate (mL - (lg_sl as).length) Slot.unset).toArray = ls at hl ⊢
  exact body p e s m as.toArray below meth c (va_A (wA g q n σ) s.heap.size) _ ls ⟨⟨hx, hb, hml, findClass_of_methodNamed B.named, fun w h => hts w (List.mem_cons_of_mem _ h)⟩, hK, hN, hZ, fun x h => Or.inr h, fun q1 H locs ls σ1 pc hm hI hd => by
    cases hm
    exact W.vret hx hb hr (fun t ht hW => ⟨⟨q1, rfl, trivial, by rw [ht]; exact hI.1, hI.2.1⟩, hI.2.2.F ht⟩) hI.2.2.2.2 hd⟩ hl ⟨hP, hD0.self, va_S.rf⟩
theorem e_n {n' d : Nat} (hy : plainName y.cls = true) (hlen : (lg_sl as).length ≤ mL)
    (body : ∀ (p : Program) (e : Env) (s : State) (m : MethodId) (args : Array Value) (below : List Frame) (meth : Method) (c : Code) (A : Nat → Prop) (Q : State → Prop) (ls : Array Slot), CXn p l e (qRc fr lo d) s m args below meth c cd mL y.cls g n' d A Q (some (r, σ')) → lv_has ls mL (lv_args 0 as) → wI g q n σ A s.heap s.heap [] → W p l e (qRc fr lo d) s m args below meth c s.heap [] 0 0 Q (F0 m 0 ls [])) : CTn l y cd mL (some .int) fr lo g q n as σ r σ' n' d := by
  intro sz
  refine Met.ofW (cc := cd) (maxL := mL) (ret := some .int) hy rfl ?_
  intro p e s m args below meth c s₁ B hml hv
  obtain ⟨rfl, hsz, hP, hK, hD0, hN, hZ⟩ := hv
  subst hsz
  have hx := B.exec
  have hb := B.bytes
  have hr := B.returns
  have hts := atoms_spec (ws := .code y cd mL (some .int) :: BIG) B.pre
  have hlocks := B.notSynchronized
  have hl := lv_entry as (n := mL) hlen
  rw [lg_entry_eq]
  generalize (lg_sl as ++ List.replicate (mL - (lg_sl as).length) Slot.unset).toArray = ls at hl ⊢
  exact body p e s m as.toArray below meth c (va_A (wA g q n σ) s.heap.size) _ ls ⟨⟨hx, hb, hml, findClass_of_methodNamed B.named, fun w h => hts w (List.mem_cons_of_mem _ h)⟩, hK, hN, hZ, fun x h => Or.inr h, fun q1 H locs ls σ1 v pc hm hI hd => by
    cases hm
    exact W.iret (v := r) hx hb hr (fun t ht hW => ⟨⟨_, q1, rfl, rfl, by rw [ht]; exact hI.1, hI.2.1⟩, hI.2.2.F ht⟩) hI.2.2.2.2 hd⟩ hl ⟨hP, hD0.self, va_S.rf⟩
end KF
/-- pictures of such methods -/
abbrev Mo : Type := Int32 × Sg × Nat × Nat
def mv (n d : Nat) (x : Option (Int32 × Sg)) : Option Mo := match x with
  | some o => some (o.1, o.2, n, d)
  | none => none
theorem mv_some {n d n' d' : Nat} {x : Option (Int32 × Sg)} {r : Int32} {σ' : Sg} (h : mv n d x = some (r, σ', n', d')) : n' = n ∧ d' = d ∧ x = some (r, σ') := by
  cases x with
  | none => exact nomatch h
  | some o =>
    have h : some (o.1, o.2, n, d) = some (r, σ', n', d') := h
    cases h
    exact ⟨rfl, rfl, rfl⟩
def bmv (x : Option Mo) (k : Int32 → Sg → Nat → Option (Int32 × Sg)) : Option Mo := match x with
  | some o => mv o.2.2.1 o.2.2.2 (k o.1 o.2.1 o.2.2.1)
  | none => none
theorem bmv_some {n' d' : Nat} {x : Option Mo} {k : Int32 → Sg → Nat → Option (Int32 × Sg)} {r' : Int32} {σ' : Sg} (h : bmv x k = some (r', σ', n', d')) : ∃ (r : Int32) (σ : Sg), x = some (r, σ, n', d') ∧ k r σ n' = some (r', σ') := by
  cases x with
  | none => exact nomatch h
  | some o =>
    obtain ⟨a, b, n1, d1⟩ := o
    obtain ⟨rfl, rfl, h3⟩ := mv_some (show mv n1 d1 (k a b n1) = some (r', σ', n', d') from h)
    exact ⟨a, b, rfl, h3⟩
/-- a longer row with the same beginning -/
def cpf (f : Nat → Int32) (n : Nat) : Nat → Int32 := fun i => if i < n then f i else 0
def gw (σ : Sg) (n : Nat) : Sg := fun c => bif Nat.beq c 42 then cpf (σ c) n else σ c
def gcp (n : Nat) (nl : Int32) : Bool := decide (n ≤ nl.toNatClampNeg ∧ ¬ nl < 0 ∧ ¬ nl = Int32.ofNat n ∧ nl.toNatClampNeg ≤ 100000000 ∧ n < 2 ^ 31 ∧ 1 ≤ nl.toNatClampNeg)
theorem cpf_eq (f : Nat → Int32) (n : Nat) : va_cpy f (fun _ => 0) 0 0 n = cpf f n := by
  funext k
  simp [va_cpy, cpf]
section CPY
set_option maxHeartbeats 4000000 in
set_option maxRecDepth 100000 in
/-- Arrays.copyOf(row, nl) for a longer one -/
theorem c_copyOf {l : Launch} {g : GG} {q n : Nat} {σ : Sg} {nl : Int32} (hg : gcp n nl = true) (sz : Nat) :
    Met l yJ7_copyOf_59c91 (.code yJ7_copyOf_59c91 cJ7_copyOf_59c91 3 (some (.array .int)) :: BIG) (qRc 1 60 nl.toNatClampNeg) (va_Pc [.ref q, .int nl] (qpre g q n σ sz))
      (va_Qr (S := Unit) (fun _ => True) (fun _ q' t => va_P g.1 vwCl (wA g q n σ ++ [(q', .inl (gI g, nl.toNatClampNeg, .inl (cpf (σ 42) n)))]) t.heap ∧ va_D (va_A (wA g q n σ) sz) (wA g q n σ ++ [(q', .inl (gI g, nl.toNatClampNeg, .inl (cpf (σ 42) n)))])) (va_A (wA g q n σ) sz)) nl.toNatClampNeg nl.toNatClampNeg (va_A (wA g q n σ) sz) := by
  obtain ⟨h1, h2, h3, h4, h5, h6⟩ := of_decide_eq_true hg
  refine Met.ofW (cc := cJ7_copyOf_59c91) (maxL := 3) (ret := some (.array .int)) (by decide) rfl ?_
  intro p e s m args below meth c s₁ B hml hv
  obtain ⟨rfl, hsz, hP, hK, hD0, hN, hZ⟩ := hv
  subst hsz
  have hx := B.exec
  have hb := B.bytes
  have hr := B.returns
  have hts := atoms_spec (ws := .code yJ7_copyOf_59c91 cJ7_copyOf_59c91 3 (some (.array .int)) :: BIG) B.pre
  have ht : ∀ w ∈ BIG, w.before [.ref q, .int nl].toArray s = true := fun w h => hts w (List.mem_cons_of_mem _ h)
  have hlocks := B.notSynchronized
  have hown : s.vm.findClass RJ7 = some m.cls := findClass_of_methodNamed B.named
  have hl := lv_entry [.ref q, .int nl] (n := 3) (Nat.le_of_ble_eq_true rfl)
  rw [lg_entry_eq]
  generalize (lg_sl [.ref q, .int nl] ++ List.replicate (3 - (lg_sl [.ref q, .int nl]).length) Slot.unset).toArray = ls at hl ⊢
  have hl : lv_has ls 3 [(0, .ref q), (1, .int nl)] := hl
  have hD : va_D (va_A (wA g q n σ) s.heap.size) (wA g q n σ) := hD0.self
  have hS : va_S (va_A (wA g q n σ) s.heap.size) s.heap s.heap [] := va_S.rf
  have hK2 : va_K g.1 vwCl ((gI g, .int) :: [(gZ g, .boolean), (gR g, .array .int), (gJ g, .long)]) s := hK
  have hcl : (Int32.ofNat n).toNatClampNeg = n := Int32.toNatClampNeg_ofNat_of_lt h5
  have hnn : ¬ Int32.ofNat n < 0 := fun hlt => by
    have q1 : (Int32.ofNat n).toInt < 0 := Int32.lt_iff_toInt_lt.mp hlt
    have q2 : (Int32.ofNat n).toNatClampNeg = 0 := by
      rw [← Int32.toNat_toInt]
      omega
    have q3 : n = 0 := hcl.symm.trans q2
    subst q3
    exact absurd hlt (by decide)
  have hnl : ¬ nl < Int32.ofNat n := fun hlt => by
    have q1 : nl.toInt < (Int32.ofNat n).toInt := Int32.lt_iff_toInt_lt.mp hlt
    have q2 : nl.toNatClampNeg = nl.toInt.toNat := (Int32.toNat_toInt nl).symm
    have q3 : n = (Int32.ofNat n).toInt.toNat := hcl.symm.trans (Int32.toNat_toInt _).symm
    have q4 : ¬ nl.toInt < 0 := fun h => h2 (Int32.lt_iff_toInt_lt.mpr h)
    omega
  refine lv_iload_n hx hb dJ7_copyOf_59c91_0 rfl (lv_at hl 1 rfl) ?_
  refine lv_aload_n hx hb dJ7_copyOf_59c91_1 rfl (lv_at hl 0 rfl) ?_
  refine va_alen (v := Int32.ofNat n) hx hb hK hP 42 0 rfl rfl rfl dJ7_copyOf_59c91_2 ?_
  refine lv_icmp_ne (tgt := 14) hx hb dJ7_copyOf_59c91_3 (by decide) (fun _ => ?_) (fun h => absurd h h3)
  refine lv_iload_n hx hb dJ7_copyOf_59c91_14 rfl (lv_at hl 1 rfl) ?_
  refine pz_newa hx hb (ht _ mw_66) hK2 hP hD hS (fun x h => Or.inr h) nl.toNatClampNeg h2 rfl (by omega) (show 0 + 1 ≤ nl.toNatClampNeg by omega) (show 0 + nl.toNatClampNeg ≤ nl.toNatClampNeg by omega) dJ7_copyOf_59c91_15 (fun q' H hP hD hS => ?_)
  refine W.widen (k := nl.toNatClampNeg) (n := nl.toNatClampNeg) (by omega) (by omega) ?_
  refine lv_astore_n (lv' := [(2, .ref q'), (0, .ref q), (1, .int nl)]) hx hb dJ7_copyOf_59c91_17 rfl hl (by decide) rfl (fun ls hl => ?_)
  refine lv_aload_n hx hb dJ7_copyOf_59c91_18 rfl (lv_at hl 1 rfl) ?_
  refine lv_iconst (v := 0) hx hb dJ7_copyOf_59c91_19 (by decide) ?_
  refine lv_aload_n hx hb dJ7_copyOf_59c91_20 rfl (lv_at hl 0 rfl) ?_
  refine lv_iconst (v := 0) hx hb dJ7_copyOf_59c91_21 (by decide) ?_
  refine lv_aload_n hx hb dJ7_copyOf_59c91_22 rfl (lv_at hl 1 rfl) ?_
  refine va_alen (v := Int32.ofNat n) hx hb hK hP 42 0 rfl rfl rfl dJ7_copyOf_59c91_23 ?_
  refine lv_iload_n hx hb dJ7_copyOf_59c91_24 rfl (lv_at hl 2 rfl) ?_
  refine va_mmin hx hb (hml.trans hl.1.symm) hown (ht _ mw_81) (ht _ mw_37) (ht _ mw_38) (show (Cond.code Lib.Math.min.name Lib.Math.min.code 2 (some .int)).before _ s = true from ht _ mw_1089) (Nat.le_of_ble_eq_true rfl) (Nat.le_of_ble_eq_true rfl) (Nat.le_refl _) (Nat.le_refl _) dJ7_copyOf_59c91_25 ?_
  rw [if_neg hnl]
  refine va_copyi hx hb (hml.trans hl.1.symm) hown (ht _ mw_1213) (ht _ mw_1215) (ht _ mw_1214) (ht _ mw_82) hK hP hD hS 42 103 0 0 rfl rfl rfl rfl rfl (by decide) (by decide) hnn (by rw [hcl]; exact Nat.le_of_eq (Nat.zero_add n)) (by rw [hcl]; show 0 + n ≤ _; omega) (fun i _ => rfl) (Nat.le_of_ble_eq_true rfl) (show 0 + (nativeFrameWords "java/lang/System" "arraycopy" 5 + 11) ≤ 60 by decide) dJ7_copyOf_59c91_28 (fun H locs hP hD hS => ?_)
  have e0 : va_cpy (σ 42) (fun _ => 0) (0 : Int32).toNatClampNeg (0 : Int32).toNatClampNeg (Int32.ofNat n).toNatClampNeg = cpf (σ 42) n := by rw [hcl]; exact cpf_eq (σ 42) n
  rw [e0] at hP hD
  refine lv_aload_n hx hb dJ7_copyOf_59c91_31 rfl (lv_at hl 0 rfl) ?_
  have hP : va_P g.1 vwCl (wA g q n σ ++ [(q', .inl (gI g, nl.toNatClampNeg, .inl (cpf (σ 42) n)))]) H := hP
  have hD : va_D (va_A (wA g q n σ) s.heap.size) (wA g q n σ ++ [(q', .inl (gI g, nl.toNatClampNeg, .inl (cpf (σ 42) n)))]) := hD
  exact W.aret (v := .ref q') hx hb hr (Or.inr ⟨_, rfl⟩) (Or.inr ⟨_, rfl⟩) (fun t ht hW => ⟨⟨(), q', rfl, trivial, by rw [ht]; exact hP, hD⟩, hS.F ht⟩) hS.2.2 dJ7_copyOf_59c91_32
end CPY
