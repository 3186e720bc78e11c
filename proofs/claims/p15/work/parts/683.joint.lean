/-! both sides together: σ has the class's cells, τ the reference's -/
def MZ (σ : Sg) : Prop := σ 45 3 = 0 ∧ σ 45 4 = 0 ∧ σ 45 5 = 0 ∧ σ 45 6 = 0 ∧ σ 45 7 = 0
def JB (σ τ : Sg) (F Wd : Nat) (ar lo st le : Nat → Nat) : Prop :=
  Rl σ τ F Wd ar lo st le ∧ τ 59 10 = σ 1 9 ∧ (σ 1 9 = 0 ∨ σ 1 9 = 1) ∧ (σ 1 9 = 1 → ∀ f, f < F → DR σ τ (st f) (le f)) ∧ XR σ τ lo ∧ (σ 1 9 = 0 → MZ σ) ∧ (∃ h, h ≤ 30 ∧ τ 93 0 = nI h) ∧ COr τ ∧ (¬ τ 59 37 = 0 → σ 1 9 = 1 ∧ (∀ g, g < F → ∃ S z, FCr τ F g S z) ∧ REq τ F)
def JX (σ : Sg) : Prop := ∃ F Wd, ∃ ar lo st le : Nat → Nat, JB σ σ F Wd ar lo st le
theorem xr_cls {σ σ' τ : Sg} {lo : Nat → Nat} (h : XR σ τ lo) (e : ∀ c j, 45 ≤ c → c ≤ 51 → σ' c j = σ c j) : XR σ' τ lo := by
  obtain ⟨⟨x1, x2, x3, x4, x5, x6⟩, h2⟩ := h
  have e3 := e 45 3 (by decide) (by decide)
  have e7 := e 45 7 (by decide) (by decide)
  have e12 := e 45 12 (by decide) (by decide)
  refine ⟨⟨x1.trans e3.symm, x2.trans (e 45 4 (by decide) (by decide)).symm, x3.trans (e 45 5 (by decide) (by decide)).symm, x4.trans (e 45 6 (by decide) (by decide)).symm, x5.trans e7.symm, fun k hk => (x6 k hk).trans (e 46 k (by decide) (by decide)).symm⟩, fun q => ?_⟩
  obtain ⟨y1, y2⟩ := h2 (e3.symm.trans q)
  refine ⟨fun r hr => ?_, fun z => y2 (e7.symm.trans z)⟩
  rw [e7] at hr
  have a := y1 r hr
  unfold en FRm at a ⊢
  rw [e7, e12]
  simp only [e 47 _ (by decide) (by decide), e 48 _ (by decide) (by decide), e 49 _ (by decide) (by decide), e 50 _ (by decide) (by decide), e 51 _ (by decide) (by decide)]
  exact a
theorem xr_ref {σ τ τ' : Sg} {lo : Nat → Nat} (h : XR σ τ lo) (e : ∀ c j, 88 ≤ c → c ≤ 100 → τ' c j = τ c j) : XR σ τ' lo := by
  obtain ⟨⟨x1, x2, x3, x4, x5, x6⟩, h2⟩ := h
  refine ⟨⟨(e 89 0 (by decide) (by decide)).trans x1, (e 90 0 (by decide) (by decide)).trans x2, (e 91 0 (by decide) (by decide)).trans x3, (e 92 0 (by decide) (by decide)).trans x4, (e 93 0 (by decide) (by decide)).trans x5, fun k hk => (e 88 k (by decide) (by decide)).trans (x6 k hk)⟩, fun q => ?_⟩
  obtain ⟨y1, y2⟩ := h2 q
  refine ⟨fun r hr => ?_, fun z k hk => (e 100 k (by decide) (by decide)).trans (y2 z k hk)⟩
  have a := y1 r hr
  unfold FRm at a ⊢
  simp only [e 94 _ (by decide) (by decide), e 95 _ (by decide) (by decide), e 96 _ (by decide) (by decide), e 97 _ (by decide) (by decide)]
  exact a
/-- the register machine's work leaves the stack machines related -/
theorem xr_lw {σ τ τ' : Sg} {lo : Nat → Nat} (h : XR σ τ lo) (e : Lw τ τ') (h93 : ∃ h, h ≤ 30 ∧ τ 93 0 = nI h) (hlo : σ 45 3 = 0 → ∀ r, r < ix (σ 45 7) → lo (ix (σ 47 r)) ≤ 10) : XR σ τ' lo := by
  obtain ⟨⟨x1, x2, x3, x4, x5, x6⟩, h2⟩ := h
  obtain ⟨m, m1, m2⟩ := h93
  have e7 : ix (σ 45 7) = m := by rw [← x5, m2, ix_nI (by omega)]
  refine ⟨⟨(e 89 0 (by unfold Lc; omega)).trans x1, (e 90 0 (by unfold Lc; omega)).trans x2, (e 91 0 (by unfold Lc; omega)).trans x3, (e 92 0 (by unfold Lc; omega)).trans x4, (e 93 0 (by unfold Lc; omega)).trans x5, fun k hk => (e 88 k (by unfold Lc; omega)).trans (x6 k hk)⟩, fun q => ?_⟩
  obtain ⟨y1, y2⟩ := h2 q
  refine ⟨fun r hr => ?_, fun z k hk => (e 100 k (by unfold Lc; omega)).trans (y2 z k hk)⟩
  have hl := hlo q r hr
  have hr2 : r < 30 := by omega
  obtain ⟨a1, a2, a3, a4, a5, a6⟩ := y1 r hr
  exact ⟨(e 94 r (by unfold Lc; omega)).trans a1, (e 95 r (by unfold Lc; omega)).trans a2, (e 97 r (by unfold Lc; omega)).trans a3, a4, fun k hk => (e 96 _ (by unfold Lc; omega)).trans (a5 k hk), fun i hi => (e 96 _ (by unfold Lc; omega)).trans (a6 i hi)⟩
theorem xr_lo {σ τ : Sg} {lo lo' : Nat → Nat} (h : XR σ τ lo) (hz : MZ σ) : XR σ τ lo' := by
  obtain ⟨h1, h2⟩ := h
  refine ⟨h1, fun q => ⟨fun r hr => ?_, (h2 q).2⟩⟩
  rw [hz.2.2.2.2] at hr
  exact absurd hr (by show ¬ r < 0; omega)
/-- both machines begin -/
theorem xr_begin {σ τ : Sg} (hz : MZ σ) (hb : BG τ) (h88 : ∀ k, k < 64 → τ 88 k = σ 46 k) (lo : Nat → Nat) : XR σ τ lo := by
  obtain ⟨z1, z2, z3, z4, z5⟩ := hz
  obtain ⟨b1, b2, b3, b4, b5⟩ := hb.1 0 (by decide)
  refine ⟨⟨b1.trans z1.symm, b2.trans z2.symm, b3.trans z3.symm, b4.trans z4.symm, b5.trans z5.symm, h88⟩, fun q => ⟨fun r hr => ?_, fun _ k hk => hb.2 k (by omega)⟩⟩
  rw [z5] at hr
  exact absurd hr (by show ¬ r < 0; omega)
theorem req_bg {τ : Sg} (hb : BG τ) (F : Nat) : REq τ F := Or.inr ⟨0, (hb.1 1 (by decide)).2.2.2.2, by decide, fun r hr => by omega⟩
theorem h93_bg {τ : Sg} (hb : BG τ) : ∃ h, h ≤ 30 ∧ τ 93 0 = nI h := ⟨0, by decide, (hb.1 0 (by decide)).2.2.2.2⟩
section JBS
variable {σ σ' τ τ' : Sg} {F Wd : Nat} {ar lo st le : Nat → Nat}
theorem rl_cls (h : Rl σ τ F Wd ar lo st le) (e : ∀ c j, c ≤ 8 → σ' c j = σ c j) : Rl σ' τ F Wd ar lo st le := ⟨pg_PI (σ := σ) (fun c j _ q => e c j q) h.1, h.2.1, fun j hj => ⟨((h.2.2 j hj).1).trans (e 6 j (by decide)).symm, ((h.2.2 j hj).2).trans (e 7 j (by decide)).symm⟩⟩
theorem rl_ref (h : Rl σ τ F Wd ar lo st le) (e : Hr τ τ') : Rl σ τ' F Wd ar lo st le := ⟨h.1, hr_PR e h.2.1, fun j hj => ⟨(e.1 64 j (by decide) (by decide)).trans (h.2.2 j hj).1, (e.1 65 j (by decide) (by decide)).trans (h.2.2 j hj).2⟩⟩
theorem jb_cls (h : JB σ τ F Wd ar lo st le) (e : ∀ c j, c ≤ 8 ∨ (45 ≤ c ∧ c ≤ 51) → σ' c j = σ c j) : JB σ' τ F Wd ar lo st le := by
  obtain ⟨h1, h2, h3, h4, h5, h6, h7, h8, h9⟩ := h
  have e9 := e 1 9 (by omega)
  refine ⟨rl_cls h1 (fun c j q => e c j (Or.inl q)), h2.trans e9.symm, ?_, fun q f hf w hw => ?_, xr_cls h5 (fun c j a b => e c j (Or.inr ⟨a, b⟩)), fun q => ?_, h7, h8, fun q => ?_⟩
  · rw [e9]; exact h3
  · rw [e 8 _ (by omega)]; exact h4 (e9.symm.trans q) f hf w hw
  · obtain ⟨a1, a2, a3, a4, a5⟩ := h6 (e9.symm.trans q)
    exact ⟨(e 45 3 (by omega)).trans a1, (e 45 4 (by omega)).trans a2, (e 45 5 (by omega)).trans a3, (e 45 6 (by omega)).trans a4, (e 45 7 (by omega)).trans a5⟩
  · rw [e9]; exact h9 q
theorem req_same (h : REq τ F) (e : ∀ c j, c = 86 ∨ c = 89 ∨ c = 93 ∨ c = 94 ∨ c = 95 → τ' c j = τ c j) : REq τ' F := by
  rcases h with q | ⟨m, m1, m2, m3⟩
  · exact Or.inl (by rw [e 89 1 (by omega)]; exact q)
  · exact Or.inr ⟨m, (e 93 1 (by omega)).trans m1, m2, fun r hr => rfq_same (m3 r hr) (e 94 _ (by omega)) (e 95 _ (by omega)) (fun j => e 86 j (by omega))⟩
/-- a reference cell that matters -/
def Rc (c j : Nat) : Prop := (60 ≤ c ∧ c ≤ 66) ∨ (c = 59 ∧ (j = 1 ∨ j = 6 ∨ j = 10 ∨ j = 37)) ∨ c = 75 ∨ (84 ≤ c ∧ c ≤ 100)
theorem jb_ref (h : JB σ τ F Wd ar lo st le) (e : ∀ c j, Rc c j → τ' c j = τ c j) : JB σ τ' F Wd ar lo st le := by
  obtain ⟨h1, h2, h3, h4, h5, h6, h7, h8, h9⟩ := h
  have e37 : τ' 59 37 = τ 59 37 := e 59 37 (by unfold Rc; omega)
  refine ⟨rl_ref h1 ⟨fun c j a b => e c j (Or.inl ⟨a, b⟩), e 59 1 (by unfold Rc; omega), e 59 6 (by unfold Rc; omega)⟩, (e 59 10 (by unfold Rc; omega)).trans h2, h3, fun q f hf w hw => (e 66 _ (by unfold Rc; omega)).trans (h4 q f hf w hw), xr_ref h5 (fun c j a b => e c j (by unfold Rc; omega)), h6, ?_, fun v hv => ?_, fun q => ?_⟩
  · obtain ⟨m, m1, m2⟩ := h7
    exact ⟨m, m1, (e 93 0 (by unfold Rc; omega)).trans m2⟩
  · rw [e 75 v (by unfold Rc; omega)]; exact h8 v hv
  · rw [e37] at q
    obtain ⟨a1, a2, a3⟩ := h9 q
    refine ⟨a1, fun g hg => ?_, req_same a3 (fun c j q => e c j (by unfold Rc; omega))⟩
    obtain ⟨S, z, b⟩ := a2 g hg
    exact ⟨S, z, fcr_same b (e 85 g (by unfold Rc; omega)) (e 86 g (by unfold Rc; omega)) (fun i _ => e 84 i (by unfold Rc; omega))⟩
end JBS
theorem jx_of {σ1 τ : Sg} {n F Wd : Nat} {ar lo st le : Nat → Nat} (hk : KX σ1 n) (h : JB σ1 τ F Wd ar lo st le) (e : ∀ c j, c ≤ 58 → τ c j = σ1 c j) : KX τ n ∧ JX τ :=
  ⟨kx_same hk (fun c j q _ _ => e c j q), F, Wd, ar, lo, st, le, jb_cls h (fun c j q => e c j (by omega))⟩
/-- the reference's methods that only look -/
def Lk (σ : Sg) (x : Option (Int32 × Sg)) : Prop := Ok x (fun y => ∀ c j, ¬ (c = 59 ∧ j = 0) → y.2 c j = σ c j)
theorem lk_0 {σ : Sg} {r v : Int32} : Lk σ (some (r, sg σ 59 0 v)) := ok_ret (fun c j q => sg_o (by omega))
theorem lk_if {σ : Sg} {c : Prop} {d : Decidable c} {a b : Option (Int32 × Sg)} (h1 : c → Lk σ a) (h2 : ¬ c → Lk σ b) : Lk σ (@ite _ c d a b) := ok_if h1 h2
theorem isFunc_ok {N n : Nat} {σ : Sg} {F : Nat} (h1 : σ 59 1 = nI F) (hF : F ≤ 12) (x : Int32) : f_X12_isFunc N n σ x = some (0, σ) ∨ (f_X12_isFunc N n σ x = some (1, σ) ∧ ¬ σ 59 37 = 0 ∧ Bl x F) := by
  unfold f_X12_isFunc
  by_cases c1 : σ 59 37 = 0
  · exact Or.inl (by rw [if_pos c1])
  · rw [if_neg c1]
    rcases cs_n x with q | ⟨k, hk, rfl⟩
    · exact Or.inl (by rw [if_pos q])
    · rw [if_neg (nI_pos hk), h1]
      by_cases c : k < F
      · exact Or.inr ⟨by rw [if_neg (show ¬ nI F ≤ nI k by rw [le_nn (by omega) (by omega)]; omega)], c1, k, c, rfl⟩
      · exact Or.inl (by rw [if_pos (show nI F ≤ nI k by rw [le_nn (by omega) (by omega)]; omega)])
section LOOKS
variable {N n : Nat} {σ : Sg} {F Wd : Nat} {ar lo st le : Nat → Nat}
theorem pr1 (hp : PR σ F Wd ar lo st le) (v : Int32) : (sg σ 59 0 v) 59 1 = nI F := (sg_ne (by decide)).trans hp.1
theorem rsize_lk (hp : PR σ F Wd ar lo st le) (x : Int32) : Lk σ (f_X12_size N n σ x) := by
  unfold f_X12_size
  rcases isFunc_ok (N := N) (n := n) (pr1 hp 0) hp.2.1 x with e | ⟨e, -, k, hk, rfl⟩
  · rw [e, bd_s, if_pos rfl]; exact lk_0
  · rw [e, bd_s, if_neg (by decide), gb_nI (by have := hp.2.1; omega) (by decide)]; exact lk_0
theorem rslots_lk (hp : PR σ F Wd ar lo st le) (x : Int32) : Lk σ (f_X12_slots N n σ x) := by
  unfold f_X12_slots
  rcases isFunc_ok (N := N) (n := n) (pr1 hp 0) hp.2.1 x with e | ⟨e, -, k, hk, rfl⟩
  · rw [e, bd_s, if_pos rfl]; exact lk_0
  · rw [e, bd_s, if_neg (by decide), gb_nI (by have := hp.2.1; omega) (by decide)]; exact lk_0
theorem rplaces_lk (hp : PR σ F Wd ar lo st le) (x : Int32) : Lk σ (f_X12_places N n σ x) := by
  unfold f_X12_places
  rcases isFunc_ok (N := N) (n := n) (pr1 hp 0) hp.2.1 x with e | ⟨e, -, k, hk, rfl⟩
  · rw [e, bd_s, if_pos rfl]; exact lk_0
  · rw [e, bd_s, if_neg (by decide), gb_nI (by have := hp.2.1; omega) (by decide)]; exact lk_0
theorem rvalue_lk (hp : PR σ F Wd ar lo st le) (x y w : Int32) : Lk σ (f_X12_value N n σ x y w) := by
  unfold f_X12_value
  rcases isFunc_ok (N := N) (n := n) (pr1 hp 0) hp.2.1 x with e | ⟨e, -, k, hk, rfl⟩
  · rw [e, bd_s, if_pos rfl]; exact lk_0
  · rw [e, bd_s, if_neg (by decide)]
    refine lk_if (fun _ => lk_0) (fun c1 => lk_if (fun _ => lk_0) (fun c2 => ?_))
    rcases cs_n y with q | ⟨m, hm, rfl⟩
    · exact absurd q c1
    · rw [lt_ln (k := 23) (by omega) (by decide)] at c2
      have c2 : ¬ 23 < m := c2
      have hF := hp.2.1
      rw [ml_ln k 24, ad_nn]
      have e5 : OfNat.ofNat 24 * k + m = 24 * k + m := rfl
      have g : ∀ z : Option (Int32 × Sg), gb (nI (24 * k + m)) 288 z = z := fun z => gb_nI (by omega) (by decide)
      simp only [e5, g]
      exact lk_if (fun _ => lk_if (fun _ => lk_0) (fun _ => lk_if (fun _ => lk_0) (fun _ => lk_if (fun _ => lk_0) (fun _ => lk_if (fun _ => lk_0) (fun _ => lk_0))))) (fun _ => lk_0)
theorem rlook_lk (x y : Int32) : Lk σ (f_X12_look N n σ x y) := by
  unfold f_X12_look
  refine lk_if (fun _ => lk_0) (fun c1 => lk_if (fun c2 => ?_) (fun _ => lk_0))
  rcases cs_n x with q | ⟨m, hm, rfl⟩
  · exact absurd q c1
  · rw [le_nl (k := 1) (by omega) (by decide)] at c2
    have c2 : m ≤ 1 := c2
    have g : ∀ z : Option (Int32 × Sg), gb (nI m) 2 z = z := fun z => gb_nI (by omega) (by decide)
    simp only [g]
    exact lk_if (fun _ => lk_0) (fun _ => lk_if (fun _ => lk_0) (fun _ => lk_if (fun _ => lk_0) (fun _ => lk_if (fun _ => lk_0) (fun _ => lk_if (fun _ => lk_0) (fun _ => lk_0)))))
theorem rcount_lk (x : Int32) : Lk σ (f_X12_count N n σ x) := by
  unfold f_X12_count
  exact lk_if (fun _ => lk_0) (fun _ => lk_if (fun _ => lk_0) (fun _ => lk_if (fun _ => lk_if (fun _ => lk_0) (fun _ => lk_0)) (fun _ => lk_if (fun _ => lk_if (fun _ => lk_0) (fun _ => lk_0)) (fun _ => lk_if (fun _ => lk_if (fun _ => lk_0) (fun _ => lk_0)) (fun _ => lk_0)))))
theorem rpeek_lk (x y : Int32) : Lk σ (f_X12_peek N n σ x y) := by
  unfold f_X12_peek
  refine lk_if (fun _ => lk_0) (fun c1 => lk_if (fun _ => lk_0) (fun c2 => ?_))
  rcases cs_n x with q | ⟨m, hm, rfl⟩
  · exact absurd q c1
  · rw [le_ln (k := 2) (by omega) (by decide)] at c2
    have c2 : ¬ 2 ≤ m := c2
    rcases isCell_ok (N := N) (n := n) (τ := σ) y with e | ⟨e, w, hw, rfl⟩
    · rw [e, bd_s, if_pos rfl]; exact lk_0
    · rw [e, bd_s, if_neg (by decide), ml_ln m 64, ad_nn]
      have e5 : OfNat.ofNat 64 * m + w = 64 * m + w := rfl
      rw [e5, gb_nI (show 64 * m + w < 128 by omega) (by decide)]; exact lk_0
theorem rop_lk (hp : PR σ F Wd ar lo st le) (hcode : ¬ σ 59 37 = 0 → ∀ g, g < F → ∃ S z, FCr σ F g S z) (x y w : Int32) : Lk σ (f_X12_op N n σ x y w) := by
  unfold f_X12_op
  refine lk_if (fun _ => lk_0) (fun c0 => lk_if (fun _ => lk_0) (fun c1 => lk_if (fun _ => lk_0) (fun c2 => lk_if (fun _ => lk_0) (fun c3 => ?_))))
  rcases cs_n x with q | ⟨m, hm, rfl⟩
  · exact absurd q c1
  · have hF := hp.2.1
    rw [hp.1, le_nn (by omega) (by omega)] at c2
    have hmF : m < F := by omega
    obtain ⟨S, z, q85, q86, qz, qn, -⟩ := hcode c0 m hmF
    rw [gb_nI (show m < 12 by omega) (by decide), ix_nI (k := m) (by omega), q86, q85]
    rcases cs_n y with q | ⟨a, ha, rfl⟩
    · exact absurd q c3
    · refine lk_if (fun _ => lk_0) (fun c4 => lk_if (fun _ => lk_0) (fun c5 => lk_if (fun _ => lk_0) (fun c6 => ?_)))
      rw [le_nn (by omega) (by omega)] at c4
      rcases cs_n w with q | ⟨b, hb, rfl⟩
      · exact absurd q c5
      · rw [lt_ln (k := 4) (by omega) (by decide)] at c6
        have c6 : ¬ 4 < b := c6
        rw [gb_nI (show m < 12 by omega) (by decide), ad_nn, ml_ln (S + a) 5, ad_nn]
        have e5 : OfNat.ofNat 5 * (S + a) + b = 5 * (S + a) + b := rfl
        rw [e5, gb_nI (show 5 * (S + a) + b < 10000 by omega) (by decide)]; exact lk_0
end LOOKS
