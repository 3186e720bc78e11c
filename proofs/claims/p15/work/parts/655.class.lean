/-! the whole class: what holds between calls -/
def SE0 (σ : Sg) : Prop := σ 45 7 = nI 0 ∧ σ 45 12 = nI 0
theorem se0_SE {σ : Sg} (h : SE0 σ) (F : Nat) (st le : Nat → Nat) : SE F st le σ :=
  Or.inr ⟨0, fun _ => 0, fun _ => 0, fun _ => 0, 0, h.1, by omega, h.2, fun r hr => by omega, fun r hr => by omega, fun q => by omega, fun _ => rfl, by omega⟩
theorem se_same {σ σ' : Sg} {F : Nat} {st le : Nat → Nat} (h : SE F st le σ) (e8 : ∀ j, σ' 8 j = σ 8 j) (e45 : ∀ j, σ' 45 j = σ 45 j) (e47 : ∀ j, σ' 47 j = σ 47 j) (e48 : ∀ j, σ' 48 j = σ 48 j) (e51 : ∀ j, σ' 51 j = σ 51 j) : SE F st le σ' := by
  unfold SE SI at h ⊢
  simp only [e8, e45, e47, e48, e51]
  exact h
theorem re_same {σ σ' : Sg} {F : Nat} (h : RE σ F) (e41 : ∀ j, σ' 41 j = σ 41 j) (e52 : ∀ j, σ' 52 j = σ 52 j) (e54 : ∀ j, σ' 54 j = σ 54 j) (e55 : ∀ j, σ' 55 j = σ 55 j) : RE σ' F := by
  unfold RE RI RF at h ⊢
  simp only [e41, e52, e54, e55]
  exact h
def KX (σ : Sg) (n : Nat) : Prop := ∃ F Wd, ∃ ar lo st le : Nat → Nat, PI σ F Wd ar lo st le ∧ (σ 1 9 = 0 ∨ σ 1 9 = 1) ∧ (σ 1 9 = 1 → 0 < F ∧ (∀ f, f < F → 0 < le f) ∧ ∀ f, f < F → WF σ F ar lo st le f) ∧ (σ 1 9 = 0 → SE0 σ) ∧ (σ 1 9 = 1 → SE F st le σ) ∧ CO σ ∧ (¬ σ 11 7 = 0 → σ 1 9 = 1 ∧ (∀ g, g < F → ∃ S z, FC σ n F g S z) ∧ RE σ F) ∧ 2000 ≤ n ∧ n ≤ 95200
/-- the program as it was; the machines' state is given anew -/
theorem kx_mk {σ σ' : Sg} {n : Nat} (h : KX σ n) (eP : ∀ c j, c ≤ 8 → σ' c j = σ c j) (e11 : σ' 11 7 = σ 11 7) (e28 : ∀ j, σ' 28 j = σ 28 j) (eC : ∀ c j, 40 ≤ c → c ≤ 42 → σ' c j = σ c j) (h0 : σ 1 9 = 0 → SE0 σ → SE0 σ') (h1 : ∀ F Wd, ∀ ar lo st le : Nat → Nat, PI σ F Wd ar lo st le → σ 1 9 = 1 → 0 < F → (∀ f, f < F → 0 < le f) → (∀ f, f < F → WF σ F ar lo st le f) → SE F st le σ → SE F st le σ') (h2 : ∀ F, F ≤ 12 → 0 < F → ¬ σ 11 7 = 0 → (∀ g, g < F → ∃ S z, FC σ n F g S z) → RE σ F → RE σ' F) : KX σ' n := by
  obtain ⟨F, Wd, ar, lo, st, le, hp, h01, hW, hS0, hS, hC, hT, hn1, hn2⟩ := h
  have hg : Pg σ σ' := fun c j _ b => eP c j b
  have e19 : σ' 1 9 = σ 1 9 := eP 1 9 (by decide)
  refine ⟨F, Wd, ar, lo, st, le, pg_PI hg hp, by rw [e19]; exact h01, fun q => ?_, fun q => h0 (e19.symm.trans q) (hS0 (e19.symm.trans q)), fun q => ?_, fun v hv => by rw [e28]; exact hC v hv, fun q => ?_, hn1, hn2⟩
  · obtain ⟨w1, w2, w3⟩ := hW (e19.symm.trans q)
    exact ⟨w1, w2, fun f hf => pg_WF hg (w3 f hf)⟩
  · obtain ⟨w1, w2, w3⟩ := hW (e19.symm.trans q)
    exact h1 F Wd ar lo st le hp (e19.symm.trans q) w1 w2 w3 (hS (e19.symm.trans q))
  · rw [e11] at q
    obtain ⟨t1, t2, t3⟩ := hT q
    refine ⟨e19.trans t1, fun g hg => ?_, h2 F hp.2.1 (hW t1).1 q t2 t3⟩
    obtain ⟨S, z, f1⟩ := t2 g hg
    exact ⟨S, z, fc_eq f1 eC⟩
theorem kx_same {σ σ' : Sg} {n : Nat} (h : KX σ n) (e : ∀ c j, c ≤ 58 → c ≠ 46 → c ≠ 53 → σ' c j = σ c j) : KX σ' n :=
  kx_mk h (fun c j q => e c j (by omega) (by omega) (by omega)) (e 11 7 (by decide) (by decide) (by decide)) (fun j => e 28 j (by decide) (by decide) (by decide)) (fun c j _ q => e c j (by omega) (by omega) (by omega)) (fun _ q => ⟨(e 45 7 (by decide) (by decide) (by decide)).trans q.1, (e 45 12 (by decide) (by decide) (by decide)).trans q.2⟩)
    (fun F Wd ar lo st le _ _ _ _ _ q => se_same q (fun j => e 8 j (by decide) (by decide) (by decide)) (fun j => e 45 j (by decide) (by decide) (by decide)) (fun j => e 47 j (by decide) (by decide) (by decide)) (fun j => e 48 j (by decide) (by decide) (by decide)) (fun j => e 51 j (by decide) (by decide) (by decide)))
    (fun F _ _ _ _ q => re_same q (fun j => e 41 j (by decide) (by decide) (by decide)) (fun j => e 52 j (by decide) (by decide) (by decide)) (fun j => e 54 j (by decide) (by decide) (by decide)) (fun j => e 55 j (by decide) (by decide) (by decide)))
theorem kx_CI {σ : Sg} {n : Nat} (h : KX σ n) : CI σ := by
  obtain ⟨F, Wd, ar, lo, st, le, hp, h01, hW, -⟩ := h
  exact ⟨F, Wd, ar, lo, st, le, hp, h01, hW⟩
/-- a call that may change the program only while it isn't checked -/
theorem kx_prog {σ σ' : Sg} {n : Nat} (h : KX σ n) (hC : CI σ') (h1 : σ 1 9 = 1 → σ' = σ) (e : ∀ c j, 11 ≤ c → σ' c j = σ c j) : KX σ' n := by
  have h0 := h
  obtain ⟨F, Wd, ar, lo, st, le, hp, h01, hW, hS0, hS, hCO, hT, hn1, hn2⟩ := h
  rcases h01 with q | q
  · obtain ⟨F', Wd', ar', lo', st', le', hp', h01', hW'⟩ := hC
    have s0 : SE0 σ' := ⟨(e 45 7 (by decide)).trans (hS0 q).1, (e 45 12 (by decide)).trans (hS0 q).2⟩
    refine ⟨F', Wd', ar', lo', st', le', hp', h01', hW', fun _ => s0, fun _ => se0_SE s0 _ _ _, fun v hv => by rw [e 28 v (by decide)]; exact hCO v hv, fun z => ?_, hn1, hn2⟩
    rw [e 11 7 (by decide)] at z
    exact absurd (q.symm.trans (hT z).1) (by decide)
  · rw [h1 q]; exact h0
theorem xfunc_ok {N n : Nat} {σ : Sg} (h : KX σ n) (x y : Int32) : Ok (f_X11_func N n σ x y) (fun z => KX z.2 n ∧ ∀ c j, 58 < c → z.2 c j = σ c j) := by
  obtain ⟨⟨r, σ1⟩, e, hC⟩ := func_ok (N := N) (n := n) (kx_CI h) x y
  refine ⟨(r, σ1), e, kx_prog h hC (fun q => ?_) (fun c j q => fr_X11_func (nt_lo (m := 11) (by decide) (by decide) q) e), fun c j q => fr_X11_func (nt_lo (m := 59) (by decide) (by decide) q) e⟩
  have hh : Ok (f_X11_func N n σ x y) (fun z => z.2 = σ) := by
    unfold f_X11_func
    exact ok_if (fun _ => ok_ret rfl) (fun _ => ok_if (fun _ => ok_ret rfl) (fun _ => ok_if (fun _ => ok_ret rfl) (fun _ => ok_if (fun _ => ok_ret rfl) (fun _ => ok_if (fun z => absurd (q.symm.trans z) (by decide)) (fun _ => ok_ret rfl)))))
  obtain ⟨y', e', h'⟩ := hh
  rw [e] at e'
  cases e'
  exact h'
theorem xword_ok {N n : Nat} {σ : Sg} (h : KX σ n) (x y : Int32) : Ok (f_X11_word N n σ x y) (fun z => KX z.2 n ∧ ∀ c j, 58 < c → z.2 c j = σ c j) := by
  obtain ⟨⟨r, σ1⟩, e, hC⟩ := word_ok (N := N) (n := n) (kx_CI h) x y
  refine ⟨(r, σ1), e, kx_prog h hC (fun q => ?_) (fun c j q => fr_X11_word (nt_lo (m := 11) (by decide) (by decide) q) e), fun c j q => fr_X11_word (nt_lo (m := 59) (by decide) (by decide) q) e⟩
  have hh : Ok (f_X11_word N n σ x y) (fun z => z.2 = σ) := by
    unfold f_X11_word
    exact ok_if (fun _ => ok_ret rfl) (fun _ => ok_if (fun z => absurd (q.symm.trans z) (by decide)) (fun _ => ok_ret rfl))
  obtain ⟨y', e', h'⟩ := hh
  rw [e] at e'
  cases e'
  exact h'
theorem xcheck_ok {N n : Nat} (hN : 1000 ≤ N) {σ : Sg} (h : KX σ n) : Ok (f_X11_check N n σ) (fun z => KX z.2 n ∧ ∀ c j, 58 < c → z.2 c j = σ c j) := by
  obtain ⟨⟨r, σ1⟩, e, hC⟩ := check_ok (N := N) (n := n) hN (kx_CI h)
  refine ⟨(r, σ1), e, kx_prog h hC (fun q => ?_) (fun c j q => fr_X11_check (nt_lo (m := 11) (by decide) (by decide) q) e), fun c j q => fr_X11_check (nt_lo (m := 59) (by decide) (by decide) q) e⟩
  have hh : Ok (f_X11_check N n σ) (fun z => z.2 = σ) := by
    unfold f_X11_check
    exact ok_if (fun z => absurd (q.symm.trans z) (by decide)) (fun _ => ok_ret rfl)
  obtain ⟨y', e', h'⟩ := hh
  rw [e] at e'
  cases e'
  exact h'
theorem begins_ok {N n : Nat} (hN : 1000 ≤ N) {σ : Sg} : Ok (f_X11_beginMachines N n σ) (fun y => SE0 y.2 ∧ ∀ F, RE y.2 F) := by
  unfold f_X11_beginMachines
  have h8 : Ok (f_X8_begin N n σ) (fun y => SE0 y.2) := by
    unfold f_X8_begin f_X4_begin_X8
    rw [bd_s]
    exact ok_ret ⟨rfl, rfl⟩
  refine ok_bd h8 (fun r σ1 _ h1 => ?_)
  obtain ⟨⟨r2, σ2⟩, e2, -⟩ := begin7_ok (N := N) (n := n) hN (σ := σ1) 0
  rw [e2, bd_s]
  refine ok_ret ⟨⟨(fr_X7_begin rfl e2).trans h1.1, (fr_X7_begin rfl e2).trans h1.2⟩, fun F => ?_⟩
  obtain ⟨⟨r3, σ3⟩, e3, h3⟩ := begin7_ok (N := N) (n := n) hN (σ := σ1) F
  rw [e2] at e3
  cases e3
  exact h3
theorem xagain_ok {N n : Nat} (hN : 1000 ≤ N) {σ : Sg} (h : KX σ n) : Ok (f_X11_again N n σ) (fun z => KX z.2 n ∧ ∀ c j, 58 < c → z.2 c j = σ c j) := by
  unfold f_X11_again
  refine ok_if (fun _ => ok_ret ⟨h, fun _ _ _ => rfl⟩) (fun _ => ok_bd (begins_ok hN) (fun r σ1 e h1 => ok_ret ⟨?_, fun c j q => fr_X11_beginMachines (nt_lo (m := 59) (by decide) (by decide) q) e⟩))
  have fr : ∀ c j, c ≤ 44 → σ1 c j = σ c j := fun c j q => fr_X11_beginMachines (nt_hi (m := 44) (by decide) (by decide) q) e
  exact kx_mk h (fun c j q => fr c j (by omega)) (fr 11 7 (by decide)) (fun j => fr 28 j (by decide)) (fun c j _ q => fr c j (by omega)) (fun _ _ => h1.1) (fun F Wd ar lo st le _ _ _ _ _ _ => se0_SE h1.1 _ _ _) (fun F _ _ _ _ _ => h1.2 F)
theorem xclear_ok {N n : Nat} (hN : 1000 ≤ N) {σ : Sg} (h : KX σ n) : Ok (f_X11_clear N n σ) (fun z => KX z.2 n ∧ ∀ c j, 58 < c → z.2 c j = σ c j) := by
  obtain ⟨F, Wd, ar, lo, st, le, hp, h01, hW, hS0, hS, hCO, hT, hn1, hn2⟩ := h
  have main : Ok (f_X11_clear N n σ) (fun z => SE0 z.2 ∧ z.2 1 7 = nI 0 ∧ z.2 1 8 = nI 0 ∧ z.2 1 9 = 0 ∧ z.2 11 7 = 0) := by
    unfold f_X11_clear f_X6_empty
    rw [bd_s]
    refine ok_bd (begins_ok hN) (fun r1 σ1 e1 h1 => ok_bd (fill46_ok hN 0) (fun r2 σ2 e2 h2 => ok_bd (fill53_ok hN 0) (fun r3 σ3 e3 h3 => ok_ret ?_)))
    have f2 : ∀ c j, c ≠ 46 → c ≠ 53 → σ3 c j = σ1 c j := fun c j a b => (h3.1 c j b).trans (h2.1 c j a)
    have f1 : ∀ c j, c ≤ 44 → σ1 c j = _ := fun c j q => fr_X11_beginMachines (nt_hi (m := 44) (by decide) (by decide) q) e1
    refine ⟨⟨(f2 45 7 (by decide) (by decide)).trans h1.1.1, (f2 45 12 (by decide) (by decide)).trans h1.1.2⟩, ?_, ?_, ?_, ?_⟩
    · exact (f2 1 7 (by decide) (by decide)).trans ((f1 1 7 (by decide)).trans rfl)
    · exact (f2 1 8 (by decide) (by decide)).trans ((f1 1 8 (by decide)).trans rfl)
    · exact (f2 1 9 (by decide) (by decide)).trans ((f1 1 9 (by decide)).trans rfl)
    · exact (f2 11 7 (by decide) (by decide)).trans ((f1 11 7 (by decide)).trans rfl)
  obtain ⟨⟨r, σ1⟩, e, m1, m2, m3, m4, m5⟩ := main
  have m5 : σ1 11 7 = 0 := m5
  refine ⟨(r, σ1), e, ⟨0, 0, ar, lo, st, le, ⟨m2, by omega, m3, by omega, fun f hf => by omega, fun f hf => by omega, fun f hf => by omega, fun f hf => by omega, fun f hf => by omega, fun f g _ hg => by omega, fun q => by omega⟩, Or.inl m4, fun q => absurd ((show σ1 1 9 = 0 from m4).symm.trans q) (by decide), fun _ => m1, fun _ => se0_SE m1 _ _ _, fun v hv => ?_, fun q => absurd m5 q, hn1, hn2⟩, fun c j q => fr_X11_clear (nt_lo (m := 59) (by decide) (by decide) q) e⟩
  show σ1 28 v = _ ∨ Bl (σ1 28 v) 22
  rw [show σ1 28 v = σ 28 v from fr_X11_clear rfl e]
  exact hCO v hv
theorem xrunStack_ok {N n : Nat} (hN : 30000 ≤ N) {σ : Sg} (h : KX σ n) (x : Int32) : Ok (f_X11_runStack N n σ x) (fun z => KX z.2 n ∧ ∀ c j, 58 < c → z.2 c j = σ c j) := by
  have h0 := h
  obtain ⟨F, Wd, ar, lo, st, le, hp, h01, hW, hS0, hS, hCO, hT, hn1, hn2⟩ := h
  rcases h01 with q | q
  · unfold f_X11_runStack
    exact ok_if (fun _ => ok_ret ⟨h0, fun _ _ _ => rfl⟩) (fun z => absurd q z)
  · obtain ⟨⟨r, σ1⟩, e, hE⟩ := runStack_ok (N := N) (n := n) hN hp hW (Or.inr q) (hS q) x
    have fr : ∀ c j, c ≤ 44 → σ1 c j = σ c j := fun c j q => fr_X11_runStack (nt_hi (m := 44) (by decide) (by decide) q) e
    have fr2 : ∀ c j, 52 ≤ c → σ1 c j = σ c j := fun c j q => fr_X11_runStack (nt_lo (m := 52) (by decide) (by decide) q) e
    have hg : Pg σ σ1 := fun c j _ b => fr c j (by omega)
    have e19 : σ1 1 9 = σ 1 9 := fr 1 9 (by decide)
    refine ⟨(r, σ1), e, ⟨F, Wd, ar, lo, st, le, pg_PI hg hp, Or.inr (e19.trans q), fun _ => ?_, fun z => absurd ((e19.trans q).symm.trans z) (by decide), fun _ => hE, fun v hv => ?_, fun z => ?_, hn1, hn2⟩, fun c j z => fr2 c j (by omega)⟩
    · obtain ⟨w1, w2, w3⟩ := hW q
      exact ⟨w1, w2, fun f hf => pg_WF hg (w3 f hf)⟩
    · show σ1 28 v = _ ∨ Bl (σ1 28 v) 22
      rw [fr 28 v (by decide)]; exact hCO v hv
    · have z : ¬ σ1 11 7 = 0 := z
      rw [fr 11 7 (by decide)] at z
      obtain ⟨t1, t2, t3⟩ := hT z
      refine ⟨e19.trans q, fun g hg2 => ?_, re_same t3 (fun j => fr 41 j (by decide)) (fun j => fr2 52 j (by decide)) (fun j => fr2 54 j (by decide)) (fun j => fr2 55 j (by decide))⟩
      obtain ⟨S, z2, f1⟩ := t2 g hg2
      exact ⟨S, z2, fc_eq f1 (fun c j _ b => fr c j (by omega))⟩
theorem xrunRegisters_ok {N n : Nat} (hN : 30000 ≤ N) {σ : Sg} (h : KX σ n) (x : Int32) : Ok (f_X11_runRegisters N n σ x) (fun z => KX z.2 n ∧ ∀ c j, 58 < c → z.2 c j = σ c j) := by
  have h0 := h
  obtain ⟨F, Wd, ar, lo, st, le, hp, h01, hW, hS0, hS, hCO, hT, hn1, hn2⟩ := h
  by_cases z : σ 11 7 = 0
  · unfold f_X11_runRegisters
    exact ok_if (fun _ => ok_ret ⟨h0, fun _ _ _ => rfl⟩) (fun q => absurd z q)
  · obtain ⟨t1, t2, t3⟩ := hT z
    obtain ⟨w1, w2, w3⟩ := hW t1
    have main : Ok (f_X11_runRegisters N n σ x) (fun y => RE y.2 F) := by
      unfold f_X11_runRegisters
      refine ok_if (fun _ => ok_ret t3) (fun _ => ok_if (fun _ => ok_ret t3) (fun c2 => ?_))
      rcases cs_n x with q | ⟨m, hm, rfl⟩
      · exact absurd (Int32.lt_iff_toInt_lt.mpr (by
          have q1 := Int32.lt_iff_toInt_lt.mp q
          have q2 : (0 : Int32).toInt = 0 := by decide
          have q3 : (1 : Int32).toInt = 1 := by decide
          omega)) c2
      · have e20 : (nI m ≤ 20000) = (m ≤ 20000) := le_nl (k := 20000) (by omega) (by decide)
        refine ok_if (fun c3 => ?_) (fun _ => ok_ret t3)
        rw [e20] at c3
        unfold f_X4_goOn_X7
        exact ok_bd (goOn7_ok (by omega) w1 hp.2.1 hn2 c3 N 0 σ (by omega) (by omega) t2 t3) (fun r σ1 _ h1 => ok_ret h1)
    obtain ⟨⟨r, σ1⟩, e, hE⟩ := main
    have fr : ∀ c j, c ≤ 51 → σ1 c j = σ c j := fun c j q => fr_X11_runRegisters (nt_hi (m := 51) (by decide) (by decide) q) e
    have hg : Pg σ σ1 := fun c j _ b => fr c j (by omega)
    have e19 : σ1 1 9 = σ 1 9 := fr 1 9 (by decide)
    refine ⟨(r, σ1), e, ⟨F, Wd, ar, lo, st, le, pg_PI hg hp, Or.inr (e19.trans t1), fun _ => ⟨w1, w2, fun f hf => pg_WF hg (w3 f hf)⟩, fun z => absurd ((e19.trans t1).symm.trans z) (by decide), fun _ => se_same (hS t1) (fun j => fr 8 j (by decide)) (fun j => fr 45 j (by decide)) (fun j => fr 47 j (by decide)) (fun j => fr 48 j (by decide)) (fun j => fr 51 j (by decide)), fun v hv => ?_, fun _ => ⟨e19.trans t1, fun g hg2 => ?_, hE⟩, hn1, hn2⟩, fun c j z => fr_X11_runRegisters (nt_lo (m := 59) (by decide) (by decide) z) e⟩
    · show σ1 28 v = _ ∨ Bl (σ1 28 v) 22
      rw [fr 28 v (by decide)]; exact hCO v hv
    · obtain ⟨S, z2, f1⟩ := t2 g hg2
      exact ⟨S, z2, fc_eq f1 (fun c j _ b => fr c j (by omega))⟩
theorem xcell_ok {N n : Nat} {σ : Sg} (h : KX σ n) (x y : Int32) : Ok (f_X11_cell N n σ x y) (fun z => (z.1 = if x < 0 then 0 else if x < 64 then 1 else 0) ∧ KX z.2 n ∧ ∀ c j, 58 < c → z.2 c j = σ c j) := by
  obtain ⟨⟨r, σ1⟩, e, h1, h2⟩ := cell_ok (N := N) (n := n) (σ := σ) x y
  exact ⟨(r, σ1), e, h1, kx_same h (fun c j _ q1 q2 => h2 c j q1 q2), fun c j q => h2 c j (by omega) (by omega)⟩
theorem xturned_ok {N n : Nat} {σ : Sg} {F Wd : Nat} {ar lo st le : Nat → Nat} (hp : PI σ F Wd ar lo st le) (x : Int32) : Ok (f_X11_isTurned N n σ x) (fun z => z.2 = σ ∧ (z.1 = 0 ∨ (¬ σ 11 7 = 0 ∧ ∃ f, f < F ∧ x = nI f))) := by
  unfold f_X11_isTurned
  refine ok_if (fun _ => ok_ret ⟨rfl, Or.inl rfl⟩) (fun c => ?_)
  rcases hasFunc_ok (N := N) (n := n) hp x with ⟨f, hf, rfl, e⟩ | e
  · rw [e, bd_s]
    exact ok_if (fun _ => ok_ret ⟨rfl, Or.inl rfl⟩) (fun _ => ok_ret ⟨rfl, Or.inr ⟨c, f, hf, rfl⟩⟩)
  · rw [e, bd_s, if_pos rfl]
    exact ok_ret ⟨rfl, Or.inl rfl⟩
theorem xsize_ok {N n : Nat} {σ : Sg} (h : KX σ n) (x : Int32) : Ok (f_X11_size N n σ x) (fun z => z.2 = σ) := by
  obtain ⟨F, Wd, ar, lo, st, le, hp, -⟩ := h
  unfold f_X11_size
  refine ok_bd (xturned_ok hp x) (fun r σ1 _ h1 => ?_)
  obtain ⟨rfl, h1⟩ := h1
  refine ok_if (fun _ => ok_ret rfl) (fun c => ?_)
  obtain ⟨-, f, hf, rfl⟩ := h1.resolve_left c
  rw [gb_nI (show f < 12 by have := hp.2.1; omega) (by decide)]
  exact ok_ret rfl
theorem xslots_ok {N n : Nat} {σ : Sg} (h : KX σ n) (x : Int32) : Ok (f_X11_slots N n σ x) (fun z => z.2 = σ) := by
  obtain ⟨F, Wd, ar, lo, st, le, hp, -⟩ := h
  unfold f_X11_slots
  refine ok_bd (xturned_ok hp x) (fun r σ1 _ h1 => ?_)
  obtain ⟨rfl, h1⟩ := h1
  refine ok_if (fun _ => ok_ret rfl) (fun c => ?_)
  obtain ⟨-, f, hf, rfl⟩ := h1.resolve_left c
  rw [gb_nI (show f < 12 by have := hp.2.1; omega) (by decide)]
  exact ok_ret rfl
theorem xplaces_ok {N n : Nat} {σ : Sg} (h : KX σ n) (x : Int32) : Ok (f_X11_places N n σ x) (fun z => z.2 = σ) := by
  obtain ⟨F, Wd, ar, lo, st, le, hp, -⟩ := h
  unfold f_X11_places
  refine ok_bd (xturned_ok hp x) (fun r σ1 _ h1 => ?_)
  obtain ⟨rfl, h1⟩ := h1
  refine ok_if (fun _ => ok_ret rfl) (fun c => ?_)
  obtain ⟨-, f, hf, rfl⟩ := h1.resolve_left c
  rw [gb_nI (show f < 12 by have := hp.2.1; omega) (by decide)]
  exact ok_ret rfl
theorem xvalue_ok {N n : Nat} {σ : Sg} (h : KX σ n) (x y w : Int32) : Ok (f_X11_value N n σ x y w) (fun z => z.2 = σ) := by
  obtain ⟨F, Wd, ar, lo, st, le, hp, -⟩ := h
  unfold f_X11_value
  refine ok_bd (xturned_ok hp x) (fun r σ1 _ h1 => ?_)
  obtain ⟨hs, h1⟩ := h1
  have hs : σ1 = σ := hs
  subst hs
  refine ok_if (fun _ => ok_ret rfl) (fun c => ok_if (fun _ => ok_ret rfl) (fun c2 => ?_))
  obtain ⟨-, f, hf, rfl⟩ := h1.resolve_left c
  obtain ⟨g1, g2, g3, g4, g5, g6, g7, g8, g9, -⟩ := hp
  have q9 := g9 f hf
  rw [gb_nI (show f < 12 by omega) (by decide), ix_nI (k := f) (by omega), g6 f hf, ad_nl (lo f) 12]
  refine ok_if (fun c3 => ?_) (fun _ => ok_ret rfl)
  rcases cs_n y with q | ⟨v, hv, rfl⟩
  · exact absurd q c2
  · rw [lt_nn (by omega) (by show lo f + 12 < _; omega)] at c3
    have c3 : v < lo f + 12 := c3
    unfold f_X2_tell
    rw [ml_nl f 22, ad_nn]
    have e : f * OfNat.ofNat 22 = f * 22 := rfl
    have hg : ∀ yy : Option (Int32 × Sg), gb (nI (f * 22 + v)) 264 yy = yy := fun yy => gb_nI (show f * 22 + v < 264 by omega) (by decide)
    rw [e]
    simp only [hg]
    refine ok_bd (P1 := fun z => z.2 = σ1) ?_ (fun r σ2 _ h2 => ok_ret h2)
    exact ok_if (fun _ => ok_ret rfl) (fun _ => ok_if (fun _ => ok_ret rfl) (fun _ => ok_if (fun _ => ok_ret rfl) (fun _ => ok_if (fun _ => ok_ret rfl) (fun _ => ok_ret rfl))))
theorem xlook_ok {N n : Nat} {σ : Sg} (x y : Int32) : Ok (f_X11_look N n σ x y) (fun z => z.2 = σ) := by
  unfold f_X11_look f_X4_tell_X8 f_X4_tell_X7
  refine ok_if (fun _ => ok_ret rfl) (fun _ => ok_if (fun _ => ok_if (fun _ => ok_bd (P1 := fun z => z.2 = σ) ?_ (fun r σ2 _ h2 => ok_ret h2)) (fun _ => ok_bd (P1 := fun z => z.2 = σ) ?_ (fun r σ2 _ h2 => ok_ret h2))) (fun _ => ok_ret rfl))
  · exact ok_if (fun _ => ok_ret rfl) (fun _ => ok_if (fun _ => ok_ret rfl) (fun _ => ok_if (fun _ => ok_ret rfl) (fun _ => ok_if (fun _ => ok_ret rfl) (fun _ => ok_if (fun _ => ok_ret rfl) (fun _ => ok_ret rfl)))))
  · exact ok_if (fun _ => ok_ret rfl) (fun _ => ok_if (fun _ => ok_ret rfl) (fun _ => ok_if (fun _ => ok_ret rfl) (fun _ => ok_if (fun _ => ok_ret rfl) (fun _ => ok_if (fun _ => ok_ret rfl) (fun _ => ok_ret rfl)))))
theorem xcount_ok {N n : Nat} {σ : Sg} (x : Int32) : Ok (f_X11_count N n σ x) (fun z => z.2 = σ) := by
  unfold f_X11_count
  exact ok_if (fun _ => ok_ret rfl) (fun _ => ok_if (fun _ => ok_ret rfl) (fun _ => ok_if (fun _ => ok_if (fun _ => ok_ret rfl) (fun _ => ok_ret rfl)) (fun _ => ok_if (fun _ => ok_ret rfl) (fun _ => ok_if (fun _ => ok_if (fun _ => ok_ret rfl) (fun _ => ok_ret rfl)) (fun _ => ok_ret rfl)))))
/-- op and peek answer, or throw -/
theorem xop_ok {N n : Nat} {σ : Sg} (h : KX σ n) (x y w : Int32) : (∃ r, f_X11_op N n σ x y w = some (r, σ)) ∨ (f_X11_op N n σ x y w = none ∧ t_X11_op N n σ x y w = some (0, σ)) := by
  obtain ⟨F, Wd, ar, lo, st, le, hp, h01, hW, hS0, hS, hCO, hT, hn1, hn2⟩ := h
  unfold f_X11_op t_X11_op
  obtain ⟨⟨r, σ1⟩, e, h1, h2⟩ := xturned_ok (N := N) (n := n) hp x
  have h1 : σ1 = σ := h1
  subst h1
  have h2 : r = 0 ∨ (¬ σ1 11 7 = 0 ∧ ∃ f, f < F ∧ x = nI f) := h2
  rw [e, bd_s, bd_s]
  by_cases c : r = 0
  · rw [if_pos c, if_pos c]; exact Or.inr ⟨rfl, rfl⟩
  · rw [if_neg c, if_neg c]
    by_cases c2 : y < 0
    · rw [if_pos c2, if_pos c2]; exact Or.inr ⟨rfl, rfl⟩
    · rw [if_neg c2, if_neg c2]
      obtain ⟨t1, f, hf, rfl⟩ := h2.resolve_left c
      have hF := hp.2.1
      obtain ⟨-, t2, -⟩ := hT t1
      obtain ⟨S, z, fc⟩ := t2 f hf
      rw [gb_nI (show f < 12 by omega) (by decide), gb_nI (show f < 12 by omega) (by decide), ix_nI (k := f) (by omega), fc.2.1]
      by_cases c3 : y < nI z
      · rw [if_pos c3, if_pos c3]
        by_cases c4 : w < 0
        · rw [if_pos c4, if_pos c4]; exact Or.inr ⟨rfl, rfl⟩
        · rw [if_neg c4, if_neg c4]
          by_cases c5 : w < 5
          · rw [if_pos c5, if_pos c5]
            rcases cs_n y with q | ⟨a, ha, rfl⟩
            · exact absurd q c2
            · rcases cs_n w with q | ⟨b, hb, rfl⟩
              · exact absurd q c4
              · have hz := fc.2.2.2.1
                rw [lt_nn (by omega) (by omega)] at c3
                rw [lt_nl (k := 5) (by omega) (by decide)] at c5
                have c5 : b < 5 := c5
                rw [part_eq (w := b) rfl (by omega) fc.1 (by omega) hn2, bd_s]
                exact Or.inl ⟨_, rfl⟩
          · rw [if_neg c5, if_neg c5]; exact Or.inr ⟨rfl, rfl⟩
      · rw [if_neg c3, if_neg c3]; exact Or.inr ⟨rfl, rfl⟩
theorem xpeek_ok {N n : Nat} {σ : Sg} (x y : Int32) : (∃ r, f_X11_peek N n σ x y = some (r, σ)) ∨ (f_X11_peek N n σ x y = none ∧ t_X11_peek N n σ x y = some (0, σ)) := by
  unfold f_X11_peek t_X11_peek
  by_cases c1 : x < 0
  · rw [if_pos c1, if_pos c1]; exact Or.inr ⟨rfl, rfl⟩
  · rw [if_neg c1, if_neg c1]
    by_cases c2 : 1 < x
    · rw [if_pos c2, if_pos c2]; exact Or.inr ⟨rfl, rfl⟩
    · rw [if_neg c2, if_neg c2]
      by_cases c3 : y < 0
      · rw [if_pos c3, if_pos c3]; exact Or.inr ⟨rfl, rfl⟩
      · rw [if_neg c3, if_neg c3]
        by_cases c4 : y < 64
        · rw [if_pos c4]
          rcases cs_n y with q | ⟨b, hb, rfl⟩
          · exact absurd q c3
          · rw [lt_nl (k := 64) (by omega) (by decide)] at c4
            have c4 : b < 64 := c4
            rw [gb_nI c4 (by decide), gb_nI c4 (by decide)]
            by_cases c5 : x = 0
            · rw [if_pos c5]; exact Or.inl ⟨_, rfl⟩
            · rw [if_neg c5]; exact Or.inl ⟨_, rfl⟩
        · rw [if_neg c4, if_neg c4]; exact Or.inr ⟨rfl, rfl⟩
theorem xturn_ok {N n : Nat} (hN : 100000 ≤ N) {σ : Sg} (h : KX σ n) (x : Int32) : ∃ r σ' n' d, f_X11_turn N n σ x = some (r, σ', n', d) ∧ KX σ' n' ∧ 2 * n + d ≤ 2 * n' ∧ ∀ c j, 58 < c → σ' c j = σ c j := by
  have h0 := h
  obtain ⟨F, Wd, ar, lo, st, le, hp, h01, hW, hS0, hS, hCO, hT, hn1, hn2⟩ := h
  unfold f_X11_turn
  by_cases c1 : σ 1 9 = 0
  · rw [if_pos c1]; exact ⟨_, σ, n, 0, rfl, h0, by omega, fun _ _ _ => rfl⟩
  · rw [if_neg c1]
    by_cases c2 : x < 3
    · rw [if_pos c2]; exact ⟨_, σ, n, 0, rfl, h0, by omega, fun _ _ _ => rfl⟩
    · rw [if_neg c2]
      by_cases c3 : x ≤ 16
      · rw [if_pos c3]
        have q19 := h01.resolve_left c1
        obtain ⟨w1, w2, w3⟩ := hW q19
        obtain ⟨R, hR1, hR2, rfl⟩ : ∃ R, 1 ≤ R ∧ R ≤ 14 ∧ x = nI (R + 2) := by
          rcases cs_n x with q | ⟨m, hm, rfl⟩
          · exact absurd (Int32.lt_iff_toInt_lt.mpr (by
              have q1 := Int32.lt_iff_toInt_lt.mp q
              have q2 : (0 : Int32).toInt = 0 := by decide
              have q3 : (3 : Int32).toInt = 3 := by decide
              omega)) c2
          · rw [lt_nl (k := 3) (by omega) (by decide)] at c2
            rw [le_nl (k := 16) (by omega) (by decide)] at c3
            have c2 : ¬ m < 3 := c2
            have c3 : m ≤ 16 := c3
            exact ⟨m - 2, by omega, by omega, congrArg nI (by omega)⟩
        unfold f_X9_begin
        rw [bd_s]
        obtain ⟨σ1, e1⟩ : ∃ z, z = sg (sg σ 11 7 (nI (R + 2))) 39 2 0 := ⟨_, rfl⟩
        rw [← e1]
        have o1 : ∀ c j, ¬ (c = 11 ∧ j = 7) → c ≠ 39 → σ1 c j = σ c j := fun c j a b => by rw [e1, sg_c b, sg_o (by omega)]
        have hg1 : Pg σ σ1 := fun c j _ b => o1 c j (by omega) (by omega)
        have e11 : σ1 11 7 = nI (R + 2) := by rw [e1, sg_c (by decide)]; exact sg_at _ _ _ _
        have e39 : σ1 39 2 = nI 0 := by rw [e1]; exact sg_at _ _ _ _
        obtain ⟨σ2, n2, d2, t2, l1, l2, l3, l4, l5, l6, l7, l8⟩ := turn_loop (N := N) hN (pg_PI hg1 hp) w2 (fun f hf => pg_WF hg1 (w3 f hf)) (R := R) (n0 := n) hR1 hR2 e11 N 0 σ1 n 0 0 (by omega) (by have := hp.2.1; omega) (fun _ _ _ => rfl) (fun v hv => by rw [o1 28 v (by omega) (by decide)]; exact hCO v hv) e39 (by omega) (by omega) (by omega) hn2 (by omega) (Nat.le_refl _) (fun g hg => by omega)
        rw [show (0 : Int32) = nI 0 from rfl, l1]
        obtain ⟨⟨r3, σ3⟩, e3, b1, b2⟩ := begins_ok (N := N) (n := n2) (by omega) (σ := σ2)
        have b1 : SE0 σ3 := b1
        have b2 : ∀ F, RE σ3 F := b2
        show ∃ r σ' n' d, mv n2 d2 (bd (f_X11_beginMachines N n2 σ2) (fun r9 σ10 => some (σ10 39 2, σ10))) = some (r, σ', n', d) ∧ _
        rw [e3, bd_s]
        have fr : ∀ c j, c ≤ 44 → σ3 c j = σ2 c j := fun c j q => fr_X11_beginMachines (nt_hi (m := 44) (by decide) (by decide) q) e3
        have frh : ∀ c j, 58 < c → σ3 c j = σ2 c j := fun c j q => fr_X11_beginMachines (nt_lo (m := 59) (by decide) (by decide) q) e3
        have hg3 : Pg σ σ3 := fun c j a b => (fr c j (by omega)).trans ((l8 c j (by omega)).trans (hg1 c j a b))
        have e19 : σ3 1 9 = 1 := (hg3 1 9 (by decide) (by decide)).trans q19
        refine ⟨_, σ3, n2, d2, rfl, ⟨F, Wd, ar, lo, st, le, pg_PI hg3 hp, Or.inr e19, fun _ => ⟨w1, w2, fun f hf => pg_WF hg3 (w3 f hf)⟩, fun q => absurd (e19.symm.trans q) (by decide), fun _ => se0_SE b1 _ _ _, fun v hv => by rw [fr 28 v (by decide)]; exact l6 v hv, fun _ => ⟨e19, fun g hg => ?_, b2 F⟩, by omega, l3⟩, l4, fun c j q => (frh c j q).trans ((l8 c j (by omega)).trans (o1 c j (by omega) (by omega)))⟩
        obtain ⟨S, z, f1, -⟩ := l7 g hg
        exact ⟨S, z, fc_eq f1 (fun c j _ b => fr c j (by omega))⟩
      · rw [if_neg c3]; exact ⟨_, σ, n, 0, rfl, h0, by omega, fun _ _ _ => rfl⟩
