section MC
variable {p : Program} {l : Launch} {e : Env} {R : Room} {s : State} {m : MethodId} {args : Array Value} {below : List Frame} {meth : Method} {c : Code} {H : Heap} {locs : List Loc} {cells slots : Nat} {Q : State → Prop} {pc : Nat} {ls : Array Slot} {rest : List Value}
/-- a step into a handler, where the search has noted a class -/
theorem mz_step {u : State} {a : Addr} {f : JFrame} {r : List Frame} {h : Nat} {vm' : Vm} (hfind : ∀ (K : Handler → Pre) (E : CtlPost) (d : Bool) (acts : List Action), wp (findHandler f a) K E e d acts u ↔ K (.found h) d acts (u.setVm vm')) :
    (stepThrowing e u a (.java f :: r)).Is ((u.setVm vm').setFrames (.java { f with pc := h, stack := [.ref a] } :: r)) [] := by
  simp only [stepThrowing, searchFrame, vmDo]
  generalize hr : Sem.go _ e false [] u = res
  obtain ⟨as, rfl, ha⟩ := Sem.eq_ok_of hr (a := Handler.found h) (s' := u.setVm vm') (acts' := []) (by simp [hfind _ _ _ _])
  exact ⟨rfl, ha⟩
/-- caught by the only row of this method's table -/
theorem mz_catch {own name E : String} {ce : Cell} {q : Addr} (hown : s.vm.findClass own = some m.cls) (x : ExceptionTableEntry) (htab : c.exceptionTable.toList = [x]) (hx : covers x pc = true) (h0 : x.catchType ≠ 0)
    (hlink : (Cond.classLink own x.catchType name).before args s = true) (hcast : (Cond.castable E name).before args s = true) (hcell : H[q]? = some ce) (hv : ce.vm = .none) (hcl : s.vm.findClass E = some ce.cls)
    (kk : W p l e R s m args below meth c H locs cells slots Q (F0 m x.handlerPc ls [.ref q])) : vx_W p l e R s m args below meth c H locs cells slots Q (F0 m pc ls rest) q := by
  intro T hT X
  have hpl : e.platform.magicAccessors = ({} : Platform).magicAccessors := by rw [X.admits.platform]
  obtain ⟨c3, c4, hc3, hc4, hasg⟩ := Cond.castable_spec hcast
  obtain rfl : ce.cls = c3 := Option.some.inj (hcl.symm.trans hc3)
  obtain ⟨c5, hc5, hcl5⟩ := Cond.classLink_spec hown hlink e.platform hpl
  obtain rfl : c4 = c5 := Option.some.inj (hc4.symm.trans hc5)
  obtain ⟨hg1, hW1, -⟩ := State.classEntry (e := e) X.warmed hcl5
  have hal := hW1.alike
  obtain ⟨k1, hk1⟩ := Vm.classAt_of_findClass hcl
  obtain ⟨k2, hk2⟩ := Vm.classAt_of_findClass hc4
  obtain ⟨k1', hk1', -⟩ := hal.2.2 _ _ hk1
  obtain ⟨k2', hk2', -⟩ := hal.2.2 _ _ hk2
  have hfit : (T.vm.noted m.cls x.catchType (.cls c4)).assignable ce.cls c4 = true := by rw [hal.assignable]; exact hasg
  obtain ⟨ha, ht⟩ := hg1.op (op := VmOp.resolveClass m.cls x.catchType) rfl
  have hobj : ∀ k, ce.vm ≠ .statics k := fun k h => by rw [hv] at h; cases h
  have hceT : T.heap[q]? = some ce := by rw [hT]; exact hcell
  have hx' := hx
  simp only [covers] at hx'
  have hfind : ∀ (K : Handler → Pre) (E : CtlPost) (d : Bool) (acts : List Action), wp (findHandler (F0 m pc ls rest) q) K E e d acts ((T.setTop (F0 m pc ls rest)).pushFrame (.throwing q)) ↔ K (.found x.handlerPc) d acts (((T.setTop (F0 m pc ls rest)).pushFrame (.throwing q)).setVm (T.vm.noted m.cls x.catchType (.cls c4))) := by
    intro K E d acts
    have hvmS : ((T.setTop (F0 m pc ls rest)).pushFrame (.throwing q)).vm = T.vm := throwing_vm T _ q
    have hhS : ((T.setTop (F0 m pc ls rest)).pushFrame (.throwing q)).heap = T.heap := throwing_heap T _ q
    rw [W.findHandler_eq (meth := meth) (code := c) (by rw [hvmS]; exact X.method') X.code, htab]
    simp [findHandler.go, hx', h0, ha, ht, hvmS, hhS, hceT, hobj, hk1', hk2', hfit, VmOp.dirties, VmOp.acts]
  obtain ⟨t, st, hQ⟩ := kk (T.setVm (T.vm.noted m.cls x.catchType (.cls c4))) hT (X.noted hW1)
  refine ⟨t, ?_, hQ⟩
  obtain ⟨hgo, hw⟩ := At.throwing (g := F0 m pc ls rest) X.here q
  refine Steps.head hgo hw ?_
  rw [stepThread_throwing (frames_entered X.here.top _), (mz_step (u := (T.setTop (F0 m pc ls rest)).pushFrame (.throwing q)) hfind).1]
  obtain ⟨g₀, hg⟩ := Option.isSome_iff_exists.mp X.here.top
  obtain ⟨r, hr⟩ := State.topJava?_eq_some.mp hg
  have hr' : (T.setVm (T.vm.noted m.cls x.catchType (.cls c4))).frames = .java g₀ :: r := hr
  rw [State.setTop_of_frames _ hr'] at st
  rw [hr]
  show Steps p.tables e below ((((T.setVm (T.vm.noted m.cls x.catchType (.cls c4))).setTop (F0 m pc ls rest)).pushFrame (.throwing q)).setFrames (.java (F0 m x.handlerPc ls [.ref q]) :: (Frame.java g₀ :: r).tail)) t
  rw [State.pushFrame, State.setFrames_setFrames, State.setTop_of_frames _ hr', State.setFrames_setFrames]
  exact st
end MC
abbrev nsE : String := "java/util/NoSuchElementException"
/-- the words of a throw: those that a contract's list may carry, and the others -/
abbrev vzS : List Cond := (vx_atS RX11 129 "java/util/NoSuchElementException" ["java/lang/RuntimeException", "java/lang/Exception"]).filter goodWord
def tzB : List Cond := [.declares ⟨"java/lang/RuntimeException", "<init>", "(Ljava/lang/String;)V"⟩, .declares ⟨"java/lang/Exception", "<init>", "(Ljava/lang/String;)V"⟩, .declares ⟨"java/lang/Throwable", "<init>", "(Ljava/lang/String;)V"⟩, .castable "java/util/NoSuchElementException" "java/util/NoSuchElementException"]
def tz_ok (U : State) : Prop := va_Nw (.declares ⟨"java/lang/RuntimeException", "<init>", "(Ljava/lang/String;)V"⟩) U ∧ va_Nw (.declares ⟨"java/lang/Exception", "<init>", "(Ljava/lang/String;)V"⟩) U ∧ va_Nw (.declares ⟨"java/lang/Throwable", "<init>", "(Ljava/lang/String;)V"⟩) U ∧ va_Nw (.castable "java/util/NoSuchElementException" "java/util/NoSuchElementException") U
theorem tz_ok.warm {s U : State} (hW : s.WarmedH U.vm) (h : tz_ok s) : tz_ok U := ⟨va_Nw.warmD hW h.1, va_Nw.warmD hW h.2.1, va_Nw.warmD hW h.2.2.1, va_Nw.warmC hW h.2.2.2⟩
theorem tz_bad : ∀ w ∈ (vx_atS RX11 129 "java/util/NoSuchElementException" ["java/lang/RuntimeException", "java/lang/Exception"]).filter (fun w => !goodWord w), w ∈ tzB := by decide +kernel
theorem tz_good : ∀ w ∈ Cond.classLink RX11 125 "java/util/NoSuchElementException" :: Cond.initialized "java/util/NoSuchElementException" :: vx_atS RX11 129 "java/util/NoSuchElementException" ["java/lang/RuntimeException", "java/lang/Exception"], vx_ot w = true := by decide +kernel
theorem tz_hat {args : Array Value} {s : State} (h1 : ∀ w ∈ vzS, w.before args s = true) (h : tz_ok s) : ∀ w ∈ vx_atS RX11 129 "java/util/NoSuchElementException" ["java/lang/RuntimeException", "java/lang/Exception"], w.before args s = true :=
  vx_hat h1 tz_bad (vx_c (va_Nw.use rfl h.1) (vx_c (va_Nw.use rfl h.2.1) (vx_c (va_Nw.use rfl h.2.2.1) (vx_c (va_Nw.use rfl h.2.2.2) vx_n))))
def tz_pre (A : Nat → Prop) (sa sb : Nat) (U : State) (H : Heap) : Prop := tz_ok U ∧ vx_Zq Bundle.tN "UNASSIGNED_STACK" Bundle.steD A U H ∧ vx_Zq Bundle.tN "SUPPRESSED_SENTINEL" Bundle.listD A U H ∧ vk_R RX11 127 "no such op" sa U ∧ vk_R RX11 166 "no such cell" sb U
theorem tz_pre.kept {A : Nat → Prop} {sa sb : Nat} {U : State} {H H1 : Heap} (h : tz_pre A sa sb U H) (hq : ∀ a : Nat, a < H.size → ¬ A a → H1[a]? = H[a]?) : tz_pre A sa sb U H1 := ⟨h.1, h.2.1.kept hq, h.2.2.1.kept hq, h.2.2.2⟩
theorem tz_pre.narrow {A B : Nat → Prop} {sa sb : Nat} {U : State} {H : Heap} (h : tz_pre A sa sb U H) (hq : ∀ q, B q → A q) : tz_pre B sa sb U H := ⟨h.1, h.2.1.narrow hq, h.2.2.1.narrow hq, h.2.2.2⟩
theorem tz_pre.warm {A : Nat → Prop} {sa sb : Nat} {s U : State} {H : Heap} (hW : s.WarmedH U.vm) (h : tz_pre A sa sb s H) : tz_pre A sa sb U H := ⟨h.1.warm hW, h.2.1.moved hW.alike, h.2.2.1.moved hW.alike, h.2.2.2.1.warm hW, h.2.2.2.2.warm hW⟩
def tp_pre (dC : Nat → ClassId) (dI : Nat → Nat → Nat) (tys : List (ClassId × FieldType)) (ws : va_W) (sa sb : Nat) (sz : Nat) : State → Prop := fun U => pz_pre dC dI tys ws sz U ∧ tz_pre (va_A ws sz) sa sb U U.heap
theorem tp_blind {av : List Value} {dC : Nat → ClassId} {dI : Nat → Nat → Nat} {tys : List (ClassId × FieldType)} {ws : va_W} {sa sb sz : Nat} : FrameBlind (va_Pc av (tp_pre dC dI tys ws sa sb sz)) := by
  intro a U g mk q
  obtain ⟨q0, q1, q2⟩ := q
  obtain ⟨h1, h2⟩ := pz_blind (av := av) a U g mk ⟨q0, q1⟩
  exact ⟨h1, h2, tz_pre.warm (s := U) (U := U.calling g mk a) (State.WarmedH.refl U) q2⟩
theorem tp_to {av : List Value} {dC : Nat → ClassId} {dI : Nat → Nat → Nat} {tys : List (ClassId × FieldType)} {ws : va_W} {A : Nat → Prop} {sa sb : Nat} {s : State} {H : Heap} (hP : va_P (dC, dI) vwCl ws H) (hK : va_K (dC, dI) vwCl tys s) (hD : va_D A ws) (hN : nw_all s) (hZ : tz_pre A sa sb s H) (hF : ∀ q, va_A ws H.size q → A q) :
    ∀ U : State, U.heap = H → s.WarmedH U.vm → va_Pc av (tp_pre dC dI tys ws sa sb H.size) av.toArray U :=
  fun U hU hW => ⟨rfl, (pz_to (av := av) hP hK hD hN U hU hW).2, by rw [hU]; exact (hZ.narrow hF).warm hW⟩
theorem gz_app {big h L : List Cond} {c : Cond} (h1 : GoodIn big (h ++ (c :: L))) (h2 : GoodIn big vzS) : GoodIn big (h ++ (c :: (L ++ vzS))) := by
  intro w hw
  rcases List.mem_append.mp hw with q | q
  · exact h1 w (List.mem_append_left _ q)
  · rcases List.mem_cons.mp q with q | q
    · exact h1 w (List.mem_append_right _ (q ▸ List.mem_cons_self))
    · rcases List.mem_append.mp q with q | q
      · exact h1 w (List.mem_append_right _ (List.mem_cons_of_mem _ q))
      · exact h2 w q
theorem gz_good : vzS.all goodWord = true := by decide +kernel
