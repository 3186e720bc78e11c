/-- FUNCS and WORDS of the reference, as PI says it of the class -/
def PR (σ : Sg) (F Wd : Nat) (ar lo st le : Nat → Nat) : Prop :=
  σ 59 1 = nI F ∧ F ≤ 12 ∧ σ 59 6 = nI Wd ∧ Wd ≤ 300 ∧ (∀ f, f < F → σ 60 f = nI (ar f)) ∧ (∀ f, f < F → σ 61 f = nI (lo f)) ∧ (∀ f, f < F → σ 62 f = nI (st f)) ∧ (∀ f, f < F → σ 63 f = nI (le f)) ∧
  (∀ f, f < F → ar f ≤ 6 ∧ ar f ≤ lo f ∧ lo f ≤ 10 ∧ st f + le f ≤ Wd) ∧ (∀ f g, f < g → g < F → st f + le f ≤ st g) ∧ (0 < F → st (F - 1) + le (F - 1) = Wd)
theorem pr_thrown {σ : Sg} {F Wd : Nat} {ar lo st le : Nat → Nat} (h : PR σ F Wd ar lo st le) (x : Int32) : PR (sg σ 59 0 x) F Wd ar lo st le := by
  obtain ⟨h1, h2, h3, h4, h5, h6, h7, h8, h9⟩ := h
  exact ⟨(sg_ne (by decide)).trans h1, h2, (sg_ne (by decide)).trans h3, h4, fun f hf => (sg_c (by decide)).trans (h5 f hf), fun f hf => (sg_c (by decide)).trans (h6 f hf), fun f hf => (sg_c (by decide)).trans (h7 f hf), fun f hf => (sg_c (by decide)).trans (h8 f hf), h9⟩
theorem rfunc_ok {N n : Nat} {σ : Sg} {F Wd : Nat} {ar lo st le : Nat → Nat} (h : PR σ F Wd ar lo st le) (x y : Int32) : Ok (f_X12_func N n σ x y) (fun z => ∃ F' , ∃ ar' lo' st' le' : Nat → Nat, PR z.2 F' Wd ar' lo' st' le') := by
  have hI := pr_thrown h 0
  have ret : ∀ r : Int32, Ok (some (r, sg σ 59 0 0)) (fun z : Int32 × Sg => ∃ F' , ∃ ar' lo' st' le' : Nat → Nat, PR z.2 F' Wd ar' lo' st' le') := fun r => ok_ret ⟨F, ar, lo, st, le, hI⟩
  obtain ⟨h1, h2, h3, h4, h5, h6, h7, h8, h9, h10, h11⟩ := h
  unfold f_X12_func
  refine ok_if (fun _ => ret _) (fun c1 => ok_if (fun _ => ret _) (fun c2 => ok_if (fun _ => ret _) (fun c3 => ok_if (fun _ => ret _) (fun c4 => ok_if (fun _ => ret _) (fun c5 => ok_if (fun c6 => ?_) (fun _ => ret _))))))
  obtain ⟨a, ha, rfl⟩ := nat_of (m := 6) (by decide) c1 c2
  have hy0 : ¬ y < 0 := fun q => c3 (Int32.lt_iff_toInt_lt.mpr (by
    have q1 := Int32.lt_iff_toInt_lt.mp q
    have q2 : (0 : Int32).toInt = 0 := by decide
    have q3 := nI_toInt (n := a) (by omega)
    omega))
  obtain ⟨b, hb, rfl⟩ := nat_of (m := 10) (by decide) hy0 c4
  rw [lt_nn (by omega) (by omega)] at c3
  have hF : F < 12 := by
    have : F ≠ 12 := fun q => c5 (by rw [h1, q]; rfl)
    omega
  rw [h1, h3, gb_nI hF (by decide), gb_nI hF (by decide), gb_nI hF (by decide), gb_nI hF (by decide), ix_nI (k := F) (by omega), ad_nl F 1]
  refine ok_ret ⟨F + 1, fun f => if f = F then a else ar f, fun f => if f = F then b else lo f, fun f => if f = F then Wd else st f, fun f => if f = F then 0 else le f, ?_⟩
  have key : ∀ (c : Nat) (x : Int32) (t : Nat → Nat) (k : Nat), (∀ f, f < F → σ c f = nI (t f)) → x = nI k → ∀ f, f < F + 1 → (if f = F then x else σ c f) = nI (if f = F then k else t f) := by
    intro c x t k hh hx f hf
    by_cases e : f = F
    · rw [if_pos e, if_pos e]; exact hx
    · rw [if_neg e, if_neg e]; exact hh f (by omega)
  refine ⟨rfl, by omega, h3, h4, fun f hf => ?_, fun f hf => ?_, fun f hf => ?_, fun f hf => ?_, fun f hf => ?_, fun f g hfg hg => ?_, fun _ => ?_⟩
  · show (if f = F then nI a else σ 60 f) = _
    exact key 60 _ ar a h5 rfl f hf
  · show (if f = F then nI b else σ 61 f) = _
    exact key 61 _ lo b h6 rfl f hf
  · show (if f = F then nI Wd else σ 62 f) = _
    exact key 62 _ st Wd h7 rfl f hf
  · show (if f = F then 0 else σ 63 f) = _
    exact key 63 _ le 0 h8 nI_0.symm f hf
  · by_cases e : f = F
    · simp only [if_pos e]; omega
    · simp only [if_neg e]; have := h9 f (by omega); omega
  · have ef : ¬ f = F := by omega
    simp only [if_neg ef]
    by_cases e : g = F
    · simp only [if_pos e]; have := h9 f (by omega); omega
    · simp only [if_neg e]; exact h10 f g hfg (by omega)
  · simp
theorem rdepth_ok {N n : Nat} {σ : Sg} {F Wd : Nat} {ar lo st le : Nat → Nat} (h : PR σ F Wd ar lo st le) (x y : Int32) : Ok (f_X12_depth N n σ x y) (fun z => z.2 = sg σ 59 0 0) := by
  obtain ⟨h1, h2, h3, h4, h5, h6, h7, h8, h9, h10, h11⟩ := h
  unfold f_X12_depth
  rw [h1]
  refine ok_if (fun _ => ok_ret rfl) (fun _ => ok_if (fun _ => ok_ret rfl) (fun c1 => ok_if (fun _ => ok_ret rfl) (fun c2 => ok_if (fun _ => ok_ret rfl) (fun c3 => ?_))))
  rcases cs_n x with q | ⟨f, hf, rfl⟩
  · exact absurd q c1
  · rw [le_nn (by omega) (by omega)] at c2
    have q9 := h9 f (by omega)
    rw [gb_nI (by omega) (by omega), ix_nI (k := f) (by omega), h8 f (by omega), h7 f (by omega)]
    refine ok_if (fun c4 => ?_) (fun _ => ok_ret rfl)
    rcases cs_n y with q | ⟨w, hw, rfl⟩
    · exact absurd q c3
    · rw [lt_nn (by omega) (by omega)] at c4
      rw [gb_nI (by omega) (by omega), ad_nn, gb_nI (by omega) (by omega)]
      exact ok_ret rfl
