theorem lw_PR {τ τ' : Sg} {F Wd : Nat} {ar lo st le : Nat → Nat} (h : Lw τ τ') (k : PR τ F Wd ar lo st le) : PR τ' F Wd ar lo st le := hr_PR ⟨fun c j _ q => h c j (by unfold Lc; omega), h 59 1 (by unfold Lc; omega), h 59 6 (by unfold Lc; omega)⟩ k
theorem lw_code {τ τ' : Sg} {F : Nat} (h : Lw τ τ') (k : ∀ g, g < F → ∃ S z, FCr τ F g S z) : ∀ g, g < F → ∃ S z, FCr τ' F g S z := fun g hg => by
  obtain ⟨S, z, q⟩ := k g hg
  exact ⟨S, z, fcr_same q (h _ _ (by unfold Lc; omega)) (h _ _ (by unfold Lc; omega)) (fun i _ => h _ _ (by unfold Lc; omega))⟩
theorem stepR_ok {N n : Nat} (hN : 1000 ≤ N) {σ : Sg} {F Wd : Nat} {ar lo st le : Nat → Nat} (hp : PR σ F Wd ar lo st le) (hF0 : 0 < F) (hcode : ∀ g, g < F → ∃ S z, FCr σ F g S z) {h : Nat} (hI : RIq σ F h) : Ok (f_X12_stepRegisters N n σ) (fun y => REq y.2 F ∧ Lw σ y.2) := by
  rw [rr_def]
  have g12 : ∀ y : Option (Int32 × Sg), gb 1 2 y = y := fun y => gb_nI (k := 1) (by decide) (by decide)
  have i1 : ix 1 = 1 := rfl
  rw [g12, i1, hI.1]
  refine ok_if (fun c => ?_) (fun c => ?_)
  · have hz : h = 0 := (nI_eq (a := h) (b := 0) (by have := hI.2.1; omega) (by decide)).mp c
    subst hz
    obtain ⟨S, z, q⟩ := hcode 0 hF0
    obtain ⟨τ', t1, t2, t3, -⟩ := enterR_ok (N := N) (n := n) hN hp hI hF0 (by decide) q.2.1 q.2.2.1 (by have := q.2.2.2.1; omega)
    rw [show f_X12_enters N n σ 1 0 = some (0, τ') from t1, bd_s]
    exact ok_mono (rR_ok hN (lw_PR t3 hp) (lw_code t3 hcode) t2) (fun y hy => ⟨hy.1, lw_trans t3 hy.2⟩)
  · obtain ⟨h', rfl⟩ : ∃ h', h = h' + 1 := ⟨h - 1, by have := Nat.pos_of_ne_zero (fun q : h = 0 => c (by rw [q]; rfl)); omega⟩
    exact rR_ok hN hp hcode hI
theorem runR_loop {N n : Nat} (hN : 1000 ≤ N) {σ0 : Sg} {F Wd : Nat} {ar lo st le : Nat → Nat} (hp : PR σ0 F Wd ar lo st le) (hF0 : 0 < F) (hcode : ∀ g, g < F → ∃ S z, FCr σ0 F g S z) {m : Nat} (hm : m ≤ 20000) :
    ∀ (k v : Nat) (σ : Sg), v ≤ m → m < v + k → Lw σ0 σ → REq σ F → Ok (lf_X12_run_2 N n 1 (nI m) (fun σ11 _ => gb 1 2 (some (σ11 89 (ix 1), σ11))) k σ (nI v)) (fun y => REq y.2 F ∧ Lw σ0 y.2) := by
  have g12 : ∀ y : Option (Int32 × Sg), gb 1 2 y = y := fun y => gb_nI (k := 1) (by decide) (by decide)
  intro k
  induction k with
  | zero => intro v σ h1 h2; omega
  | succ k ih =>
    intro v σ h1 h2 hw hE
    show Ok (lb_X12_run_2 N n 1 (nI m) _ (lf_X12_run_2 N n 1 (nI m) _ k) σ (nI v)) _
    unfold lb_X12_run_2
    have i1 : ix 1 = 1 := rfl
    rw [g12, i1]
    have done : Ok (gb 1 2 (some (σ 89 (ix 1), σ))) (fun y : Int32 × Sg => REq y.2 F ∧ Lw σ0 y.2) := by
      rw [g12]
      exact ok_ret ⟨hE, hw⟩
    refine ok_if (fun _ => done) (fun c => ok_if (fun c2 => ?_) (fun _ => done))
    rw [le_nn (by omega) (by omega)] at c
    rw [if_neg (by decide), ad_nl v 1]
    obtain ⟨h, hI⟩ := hE.resolve_left (fun q => q c2)
    refine ok_bd (stepR_ok hN (lw_PR hw hp) hF0 (lw_code hw hcode) hI) (fun r σ1 _ h3 => ?_)
    exact ih (v + 1) σ1 (by omega) (by omega) (lw_trans hw h3.2) h3.1
theorem rrunRegisters_ok {N n : Nat} (hN : 30000 ≤ N) {σ : Sg} {F Wd : Nat} {ar lo st le : Nat → Nat} (hp : PR σ F Wd ar lo st le) (hF0 : ¬ σ 59 37 = 0 → 0 < F) (hcode : ¬ σ 59 37 = 0 → ∀ g, g < F → ∃ S z, FCr σ F g S z) (hE : ¬ σ 59 37 = 0 → REq σ F) (x : Int32) : Ok (f_X12_runRegisters N n σ x) (fun y => (¬ σ 59 37 = 0 → REq y.2 F) ∧ Lw (sg σ 59 0 0) y.2) := by
  unfold f_X12_runRegisters
  have same : (¬ σ 59 37 = 0 → REq (sg σ 59 0 0) F) := fun q => by
    have e := hE q
    unfold REq RIq RFq at e ⊢
    simp (disch := decide) only [sg_c]
    exact e
  refine ok_if (fun _ => ok_ret ⟨same, lw_refl _⟩) (fun c1 => ok_if (fun _ => ok_ret ⟨same, lw_refl _⟩) (fun c2 => ok_if (fun c3 => ?_) (fun _ => ok_ret ⟨same, lw_refl _⟩)))
  obtain ⟨m, hm1, rfl⟩ : ∃ m, m ≤ 20000 ∧ x = nI m := by
    rcases cs_n x with q | ⟨m, hm, rfl⟩
    · exact absurd (Int32.lt_iff_toInt_lt.mpr (by
        have q1 := Int32.lt_iff_toInt_lt.mp q
        have q2 : (0 : Int32).toInt = 0 := by decide
        have q3 : (1 : Int32).toInt = 1 := by decide
        omega)) c2
    · rw [le_nl (k := 20000) (by omega) (by decide)] at c3
      exact ⟨m, c3, rfl⟩
  unfold f_X12_run
  refine ok_bd (P1 := fun y => REq y.2 F ∧ Lw (sg σ 59 0 0) y.2) ?_ (fun r σ1 _ h1 => ok_ret ⟨fun _ => h1.1, h1.2⟩)
  refine runR_loop (by omega) (pr_thrown hp 0) (hF0 c1) (fun g hg => ?_) hm1 N 0 _ (by omega) (by omega) (lw_refl _) (same c1)
  obtain ⟨S, z, q⟩ := hcode c1 g hg
  exact ⟨S, z, fcr_same q (sg_c (by decide)) (sg_c (by decide)) (fun i _ => sg_c (by decide))⟩
/-! what the stack machine's STEPS leave alone, read off the result -/
def Pc (x : Option (Int32 × Sg)) (Q : Int32 × Sg → Prop) : Prop := ∀ y, x = some y → Q y
theorem pc_ret {y : Int32 × Sg} {Q : Int32 × Sg → Prop} (h : Q y) : Pc (some y) Q := fun z e => by cases e; exact h
theorem pc_gb {a : Int32} {m : Nat} {x : Option (Int32 × Sg)} {Q : Int32 × Sg → Prop} (h : Pc x Q) : Pc (gb a m x) Q := fun y e => h y (gb_some e).2
theorem pc_gdz {a : Int32} {x : Option (Int32 × Sg)} {Q : Int32 × Sg → Prop} (h : Pc x Q) : Pc (gdz a x) Q := fun y e => h y (gdz_some e).2
theorem pc_if {c : Prop} {d : Decidable c} {a b : Option (Int32 × Sg)} {Q : Int32 × Sg → Prop} (h1 : c → Pc a Q) (h2 : ¬ c → Pc b Q) : Pc (@ite _ c d a b) Q := by
  by_cases e : c
  · rw [if_pos e]; exact h1 e
  · rw [if_neg e]; exact h2 e
theorem pc_bd {x : Option (Int32 × Sg)} {k : Int32 → Sg → Option (Int32 × Sg)} {Q R : Int32 × Sg → Prop} (h : Pc x R) (hk : ∀ r σ, R (r, σ) → Pc (k r σ) Q) : Pc (bd x k) Q := fun y e => by
  obtain ⟨r, σ, e1, e2⟩ := bd_some e
  exact hk r σ (h _ e1) y e2
/-- the register machine's own, and how many calls are nested in the stack machine -/
def Hc (c j : Nat) : Prop := c ≤ 87 ∨ (89 ≤ c ∧ c ≤ 93 ∧ j = 1) ∨ ((c = 94 ∨ c = 95) ∧ 30 ≤ j)
def HW (σ0 σ : Sg) : Prop := (∀ c j, Hc c j → σ c j = σ0 c j) ∧ ∃ h, h ≤ 30 ∧ σ 93 0 = nI h
def Ev (σ σ' : Sg) : Prop := ∀ c j, c ≤ 95 → c ≠ 88 → σ' c j = σ c j
theorem ev_hw {σ0 σ σ' : Sg} (h : HW σ0 σ) (e : Ev σ σ') : HW σ0 σ' := by
  obtain ⟨h1, n, h2, h3⟩ := h
  refine ⟨fun c j q => (e c j ?_ ?_).trans (h1 c j q), n, h2, (e 93 0 (by decide) (by decide)).trans h3⟩
  · unfold Hc at q; omega
  · unfold Hc at q; omega
theorem ev_trans {σ σ1 σ2 : Sg} (h : Ev σ σ1) (k : Ev σ1 σ2) : Ev σ σ2 := fun c j a b => (k c j a b).trans (h c j a b)
theorem ev_refl (σ : Sg) : Ev σ σ := fun _ _ _ _ => rfl
section PCC
variable {N n : Nat} {σ0 σ : Sg}
theorem pc_push (x : Int32) : Pc (f_X12_push N n σ x) (fun y => Ev σ y.2) := fun y e c j q1 q2 => fr_X12_push (r := y.1) (nt_mk (by simp <;> omega) (by simp <;> omega)) e
theorem pc_pop : Pc (f_X12_pop N n σ) (fun y => Ev σ y.2) := fun y e c j q1 q2 => fr_X12_pop (r := y.1) (nt_mk (by simp <;> omega) (by simp <;> omega)) e
theorem pc_swapTop : Pc (f_X12_swapTop N n σ) (fun y => Ev σ y.2) := fun y e c j q1 q2 => fr_X12_swapTop (r := y.1) (nt_mk (by simp <;> omega) (by simp <;> omega)) e
theorem pc_works (o a b : Int32) : Pc (f_X12_works N n σ o a b) (fun y => Ev σ y.2) := fun y e c j q1 q2 => fr_X12_works (r := y.1) rfl e
theorem pc_isCell (a : Int32) : Pc (f_X12_isCell N n σ a) (fun y => Ev σ y.2) := fun y e c j q1 q2 => fr_X12_isCell (r := y.1) rfl e
theorem pc_one {x : Option (Int32 × Sg)} {Q : Sg → Prop} (h : Pc x (fun y => Q y.2)) : Pc (bd x (fun _ σ1 => some ((0 : Int32), σ1))) (fun y => Q y.2) := pc_bd h (fun r σ1 q => pc_ret q)
theorem pc_ev {x : Option (Int32 × Sg)} (h : HW σ0 σ) (k : Pc x (fun y => Ev σ y.2)) : Pc x (fun y => HW σ0 y.2) := fun y e => ev_hw h (k y e)
theorem pc_ends (h : HW σ0 σ) (x : Int32) : Pc (f_X12_ends N n σ 0 x) (fun y => HW σ0 y.2) := by
  rw [show f_X12_ends N n σ 0 x = some (0, sg (sg σ 89 0 x) 93 0 0) from ends_eq (m := 0) (by decide) x]
  refine pc_ret ⟨fun c j q => ?_, 0, by decide, show sg (sg σ 89 0 x) 93 0 0 93 0 = nI 0 from sg_at _ _ _ _⟩
  show sg (sg σ 89 0 x) 93 0 0 c j = σ0 c j
  unfold Hc at q
  rw [sg_o (by omega), sg_o (by omega)]
  exact h.1 c j q
theorem pc_readStack (h : HW σ0 σ) : Pc (f_X12_readStack N n σ) (fun y => HW σ0 y.2) := by
  unfold f_X12_readStack
  refine pc_bd pc_pop (fun r1 σ1 e1 => pc_bd (pc_isCell _) (fun r2 σ2 e2 => ?_))
  have h2 : HW σ0 σ2 := ev_hw (ev_hw h e1) e2
  exact pc_if (fun _ => pc_one (pc_ends h2 3)) (fun _ => pc_gb (pc_one (Q := HW σ0) (pc_ev h2 (pc_push _))))
theorem pc_writeStack (h : HW σ0 σ) : Pc (f_X12_writeStack N n σ) (fun y => HW σ0 y.2) := by
  unfold f_X12_writeStack
  refine pc_bd pc_pop (fun r1 σ1 e1 => pc_bd pc_pop (fun r3 σ3 e3 => pc_bd (pc_isCell _) (fun r2 σ2 e2 => ?_)))
  have h2 : HW σ0 σ2 := ev_hw (ev_hw (ev_hw h e1) e3) e2
  exact pc_if (fun _ => pc_one (pc_ends h2 3)) (fun _ => pc_gb (pc_ret (ev_hw h2 (fun c j q1 q2 => sg_c q2))))
theorem pc_workStack (h : HW σ0 σ) (x : Int32) : Pc (f_X12_workStack N n σ x) (fun y => HW σ0 y.2) := by
  unfold f_X12_workStack
  refine pc_bd pc_pop (fun r1 σ1 e1 => pc_bd pc_pop (fun r3 σ3 e3 => ?_))
  have h2 : HW σ0 σ3 := ev_hw (ev_hw h e1) e3
  have w : Pc (bd (f_X12_works N n σ3 x r3 r1) (fun r8 σ9 => bd (f_X12_push N n σ9 r8) (fun _ σ12 => some ((0 : Int32), σ12)))) (fun y => HW σ0 y.2) := pc_bd (pc_works _ _ _) (fun r4 σ4 e4 => pc_one (Q := HW σ0) (pc_ev (ev_hw h2 e4) (pc_push _)))
  exact pc_if (fun _ => pc_if (fun _ => pc_one (pc_ends h2 2)) (fun _ => w)) (fun _ => w)
theorem pc_over {h : Nat} (hw : ∀ c j, Hc c j → σ c j = σ0 c j) (h93 : σ 93 0 = nI (h + 1)) (h30 : h < 30) (x : Int32) : Pc (f_X12_over N n σ 0 x) (fun y => HW σ0 y.2) := by
  unfold f_X12_over
  have i0 : ix 0 = 0 := rfl
  have e2 : nI (h + 1) - 1 = nI h := (sb_nl (k := 1) (show 1 ≤ h + 1 by omega)).trans (congrArg nI (show h + 1 - 1 = h by omega))
  rw [i0, h93, e2]
  have k1 : ∀ (d : Nat) (v : Int32), d = 90 ∨ d = 101 → HW σ0 (sg (sg σ 93 0 (nI h)) d 0 v) := fun d v hd => by
    refine ⟨fun c j q => ?_, h, by omega, ?_⟩
    · unfold Hc at q
      rw [sg_o (by omega), sg_o (by omega)]
      exact hw c j q
    · rw [sg_c (by omega), sg_at]
  refine pc_gb (pc_gb (pc_gb (pc_if (fun _ => pc_gb (pc_one (pc_ends (k1 90 x (Or.inl rfl)) 1))) (fun _ => pc_gb (pc_if (fun _ => ?_) (fun z => absurd rfl z))))))
  exact pc_one (Q := HW σ0) (pc_ev (k1 101 x (Or.inr rfl)) (pc_push _))
/-- nothing below 96 changes but what the head of a call is -/
theorem pc_e121 {σ1 : Sg} {u1 u2 u3 : Int32} {K : Sg → Int32 → Option (Int32 × Sg)} {Q : Int32 × Sg → Prop} (hK : ∀ σ x, Ev σ1 σ → Pc (K σ x) Q) : ∀ (k : Nat) (σ : Sg) (v : Int32), Ev σ1 σ → Pc (lf_X12_enters_121 N n u1 u2 u3 K k σ v) Q := by
  intro k
  induction k with
  | zero => intro σ v _ y e; exact nomatch e
  | succ k ih =>
    intro σ v hs
    show Pc (lb_X12_enters_121 N n u1 u2 u3 K (lf_X12_enters_121 N n u1 u2 u3 K k) σ v) Q
    unfold lb_X12_enters_121
    have go : ∀ i x, Ev σ1 (sg σ 99 i x) := fun i x c j q1 q2 => (sg_c (by omega)).trans (hs c j q1 q2)
    exact pc_if (fun _ => hK σ v hs) (fun _ => pc_gb (pc_if (fun _ => pc_gb (ih _ _ (go _ _))) (fun _ => pc_gb (pc_gb (ih _ _ (go _ _))))))
theorem pc_e49 {σ1 : Sg} {u1 u2 u3 : Int32} {K : Sg → Int32 → Option (Int32 × Sg)} {Q : Int32 × Sg → Prop} (hK : ∀ σ x, Ev σ1 σ → Pc (K σ x) Q) : ∀ (k : Nat) (σ : Sg) (v : Int32), Ev σ1 σ → Pc (lf_X12_enters_49 N n u1 u2 u3 K k σ v) Q := by
  intro k
  induction k with
  | zero => intro σ v _ y e; exact nomatch e
  | succ k ih =>
    intro σ v hs
    show Pc (lb_X12_enters_49 N n u1 u2 u3 K (lf_X12_enters_49 N n u1 u2 u3 K k) σ v) Q
    unfold lb_X12_enters_49
    have go : ∀ i x i' x', Ev σ1 (sg (sg σ 96 i x) 98 i' x') := fun i x i' x' c j q1 q2 => (sg_c (by omega)).trans ((sg_c (by omega)).trans (hs c j q1 q2))
    exact pc_if (fun _ => hK σ v hs) (fun _ => pc_if (fun _ => pc_gb (pc_if (fun _ => pc_gb (pc_gb (ih _ _ (go _ _ _ _)))) (fun _ => pc_gb (pc_gb (pc_gb (ih _ _ (go _ _ _ _))))))) (fun _ => pc_gb (pc_gb (ih _ _ (go _ _ _ _)))))
theorem pc_enters {h : Nat} (hw : ∀ c j, Hc c j → σ c j = σ0 c j) (h93 : σ 93 0 = nI h) (h30 : h < 30) (x : Int32) : Pc (f_X12_enters N n σ 0 x) (fun y => (∀ c j, Hc c j → y.2 c j = σ0 c j) ∧ y.2 93 0 = nI (h + 1)) := by
  unfold f_X12_enters
  have i0 : ix 0 = 0 := rfl
  have e30 : (30 : Int32) * 0 + nI h = nI h := by
    rw [show (30 : Int32) * 0 = nI 0 by decide, ad_nn, Nat.zero_add]
  rw [i0, h93, e30, ix_nI (k := h) (by omega), ad_nl h 1]
  obtain ⟨σ1, e1⟩ : ∃ z, z = sg (sg (sg (sg σ 93 0 (nI (h + OfNat.ofNat 1))) 92 0 (σ 92 0 + 1)) 94 h x) 95 h 0 := ⟨_, rfl⟩
  rw [← e1]
  have w1 : ∀ c j, Hc c j → σ1 c j = σ0 c j := fun c j q => by
    unfold Hc at q
    rw [e1, sg_o (by omega), sg_o (by omega), sg_o (by omega), sg_o (by omega)]
    exact hw c j q
  have k1 : σ1 93 0 = nI (h + 1) := by
    rw [e1, sg_c (by decide), sg_c (by decide), sg_c (by decide), sg_at]
  refine pc_gb (pc_gb (pc_gb (pc_gb (pc_gb (pc_gb (pc_gb (pc_e49 (σ1 := σ1) (fun σ2 x2 h2 => pc_e121 (σ1 := σ1) (fun σ3 x3 h3 => pc_gb (pc_gb (pc_ret ⟨fun c j q => ?_, ?_⟩))) N σ2 _ h2) N σ1 _ (ev_refl _))))))))
  · show sg σ3 97 h (σ3 61 (ix x)) c j = σ0 c j
    have q' := q
    unfold Hc at q'
    rw [sg_c (by omega), h3 c j (by omega) (by omega)]
    exact w1 c j q
  · show sg σ3 97 h (σ3 61 (ix x)) 93 0 = nI (h + 1)
    rw [sg_c (by decide), h3 93 0 (by decide) (by decide)]
    exact k1
theorem pc_c27 {σ1 : Sg} {u1 : Int32} {K : Sg → Int32 → Option (Int32 × Sg)} {Q : Int32 × Sg → Prop} (hK : ∀ σ x, Ev σ1 σ → Pc (K σ x) Q) : ∀ (k : Nat) (σ : Sg) (v : Int32), Ev σ1 σ → Pc (lf_X12_callStack_27 N n u1 K k σ v) Q := by
  intro k
  induction k with
  | zero => intro σ v _ y e; exact nomatch e
  | succ k ih =>
    intro σ v hs
    show Pc (lb_X12_callStack_27 N n u1 K (lf_X12_callStack_27 N n u1 K k) σ v) Q
    unfold lb_X12_callStack_27
    refine pc_if (fun _ => hK σ v hs) (fun _ => pc_bd pc_pop (fun r2 σ2 e2 => pc_gb (ih _ _ (fun c j q1 q2 => (sg_c (by omega)).trans ((e2 c j q1 q2).trans (hs c j q1 q2))))))
theorem pc_callStack (hw : HW σ0 σ) (x : Int32) : Pc (f_X12_callStack N n σ x) (fun y => HW σ0 y.2) := by
  unfold f_X12_callStack
  refine pc_gb (pc_if (fun _ => pc_one (pc_ends hw 4)) (fun c => pc_gb (pc_c27 (σ1 := σ) (fun σ2 x2 h2 => ?_) N σ _ (ev_refl _))))
  obtain ⟨w1, h, w2, w3⟩ := ev_hw hw h2
  have hh : h < 30 := by
    by_cases e : h = 30
    · exact absurd (by
        show σ 93 0 = 30
        rw [← h2 93 0 (by decide) (by decide), w3, e]; rfl) c
    · omega
  refine pc_bd (pc_enters w1 w3 hh _) (fun r σ3 h3 => pc_ret ⟨h3.1, h + 1, by omega, h3.2⟩)
theorem pc_rS {h : Nat} (hw : ∀ c j, Hc c j → σ c j = σ0 c j) (h93 : σ 93 0 = nI (h + 1)) (h30 : h < 30) : Pc (rS N n σ) (fun y => HW σ0 y.2) := by
  unfold rS
  have i0 : ix 0 = 0 := rfl
  have e2 : nI (h + 1) - 1 = nI h := (sb_nl (k := 1) (show 1 ≤ h + 1 by omega)).trans (congrArg nI (show h + 1 - 1 = h by omega))
  simp only [i0, h93, e2, ix_nI (show h < 2147483648 by omega)]
  obtain ⟨σ1, e1⟩ : ∃ q, q = sg (sg σ 95 h (σ 95 h + 1)) 91 0 (σ 91 0 + 1) := ⟨_, rfl⟩
  rw [← e1]
  have w1 : ∀ c j, Hc c j → σ1 c j = σ0 c j := fun c j q => by
    unfold Hc at q
    rw [e1, sg_o (by omega), sg_o (by omega)]
    exact hw c j q
  have k1 : σ1 93 0 = nI (h + 1) := by rw [e1, sg_c (by decide), sg_c (by decide)]; exact h93
  have hW : HW σ0 σ1 := ⟨w1, h + 1, by omega, k1⟩
  have ev96 : ∀ {τ : Sg} {d i : Nat} {x : Int32}, 96 ≤ d → Ev τ (sg τ d i x) := fun hd c j q1 q2 => sg_c (by omega)
  have s95 : ∀ {τ : Sg} {x : Int32}, HW σ0 τ → HW σ0 (sg τ 95 h x) := by
    intro τ x hh
    refine ⟨fun c j q => ?_, ?_⟩
    · have q' := q
      unfold Hc at q'
      rw [sg_o (by omega)]
      exact hh.1 c j q
    · obtain ⟨m, m1, m2⟩ := hh.2
      exact ⟨m, m1, (sg_c (by decide)).trans m2⟩
  refine pc_gb (pc_gb (pc_gb (pc_gb (pc_gb (pc_gb (pc_gb (pc_gb (pc_gb (pc_gb ?_)))))))))
  refine pc_if (fun _ => pc_one (Q := HW σ0) (pc_ev hW (pc_push _))) (fun _ => ?_)
  refine pc_if (fun _ => pc_gb (pc_one (Q := HW σ0) (pc_ev hW (pc_push _)))) (fun _ => ?_)
  refine pc_if (fun _ => pc_bd pc_pop (fun r2 σ2 h2 => pc_gb (pc_ret (ev_hw (ev_hw hW h2) (ev96 (by decide)))))) (fun _ => ?_)
  refine pc_if (fun _ => pc_gb (pc_gb (pc_one (Q := HW σ0) (pc_ev hW (pc_push _))))) (fun _ => ?_)
  refine pc_if (fun _ => pc_one (Q := HW σ0) (pc_ev hW pc_swapTop)) (fun _ => ?_)
  refine pc_if (fun _ => pc_gb (pc_gb (pc_ret (ev_hw hW (ev96 (by decide)))))) (fun _ => ?_)
  refine pc_if (fun _ => pc_gb (pc_ret (s95 hW))) (fun _ => ?_)
  refine pc_if (fun _ => pc_bd pc_pop (fun r2 σ2 h2 => pc_if (fun _ => pc_gb (pc_ret (s95 (ev_hw hW h2)))) (fun _ => pc_gb (pc_gb (pc_ret (s95 (ev_hw hW h2))))))) (fun _ => ?_)
  refine pc_if (fun _ => pc_one (pc_callStack hW _)) (fun _ => ?_)
  refine pc_if (fun _ => pc_bd pc_pop (fun r2 σ2 h2 => pc_one (pc_over (ev_hw hW h2).1 ((h2 93 0 (by decide) (by decide)).trans k1) h30 _))) (fun _ => ?_)
  refine pc_if (fun _ => pc_one (pc_readStack hW)) (fun _ => ?_)
  refine pc_if (fun _ => pc_one (pc_writeStack hW)) (fun _ => ?_)
  exact pc_gb (pc_one (pc_workStack hW _))
theorem pc_stepStack (hw : HW σ0 σ) : Pc (f_X12_stepStack N n σ) (fun y => HW σ0 y.2) := by
  rw [rs_def]
  obtain ⟨w1, h, w2, w3⟩ := hw
  have i0 : ix 0 = 0 := rfl
  rw [i0, w3]
  refine pc_gb (pc_if (fun c => ?_) (fun c => ?_))
  · have hz : h = 0 := (nI_eq (a := h) (b := 0) (by omega) (by decide)).mp c
    subst hz
    exact pc_bd (pc_enters w1 w3 (by decide) 0) (fun r σ1 h1 => pc_rS h1.1 h1.2 (by decide))
  · obtain ⟨h', rfl⟩ : ∃ h', h = h' + 1 := ⟨h - 1, by have := Nat.pos_of_ne_zero (fun q : h = 0 => c (by rw [q]; rfl)); omega⟩
    exact pc_rS w1 w3 (by omega)
theorem pc_run0 {u2 : Int32} : ∀ (k : Nat) (σ : Sg) (v : Int32), HW σ0 σ → Pc (lf_X12_run_2 N n 0 u2 (fun σ11 _ => gb 0 2 (some (σ11 89 (ix 0), σ11))) k σ v) (fun y => HW σ0 y.2) := by
  intro k
  induction k with
  | zero => intro σ v _ y e; exact nomatch e
  | succ k ih =>
    intro σ v hs
    show Pc (lb_X12_run_2 N n 0 u2 _ (lf_X12_run_2 N n 0 u2 _ k) σ v) _
    unfold lb_X12_run_2
    exact pc_if (fun _ => pc_gb (pc_ret hs)) (fun _ => pc_gb (pc_if (fun _ => pc_if (fun _ => pc_bd (pc_stepStack hs) (fun r σ1 h1 => ih _ _ h1)) (fun z => absurd rfl z)) (fun _ => pc_gb (pc_ret hs))))
theorem pc_runStack (x : Int32) (hw : HW (sg σ 59 0 0) (sg σ 59 0 0)) : Pc (f_X12_runStack N n σ x) (fun y => HW (sg σ 59 0 0) y.2) := by
  unfold f_X12_runStack
  refine pc_if (fun _ => pc_ret hw) (fun _ => pc_if (fun _ => pc_ret hw) (fun _ => pc_if (fun _ => ?_) (fun _ => pc_ret hw)))
  unfold f_X12_run
  exact pc_bd (pc_run0 N _ _ hw) (fun r σ1 h1 => pc_ret h1)
end PCC
