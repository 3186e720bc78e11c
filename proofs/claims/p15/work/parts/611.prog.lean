/-- FUNCS and WORDS of the class: naturals in their ranges, behind one another -/
def PI (σ : Sg) (F Wd : Nat) (ar lo st le : Nat → Nat) : Prop :=
  σ 1 7 = nI F ∧ F ≤ 12 ∧ σ 1 8 = nI Wd ∧ Wd ≤ 300 ∧ (∀ f, f < F → σ 2 f = nI (ar f)) ∧ (∀ f, f < F → σ 3 f = nI (lo f)) ∧ (∀ f, f < F → σ 4 f = nI (st f)) ∧ (∀ f, f < F → σ 5 f = nI (le f)) ∧
  (∀ f, f < F → ar f ≤ 6 ∧ ar f ≤ lo f ∧ lo f ≤ 10 ∧ st f + le f ≤ Wd) ∧ (∀ f g, f < g → g < F → st f + le f ≤ st g) ∧ (0 < F → st (F - 1) + le (F - 1) = Wd)
theorem addFunc_ok {N n : Nat} {σ : Sg} {F Wd : Nat} {ar lo st le : Nat → Nat} (h : PI σ F Wd ar lo st le) (hF : F < 12) {a b : Nat} (ha : a ≤ 6) (hb : a ≤ b) (hb2 : b ≤ 10) :
    Ok (f_X6_addFunc N n σ (nI a) (nI b)) (fun y => y.1 = nI F ∧ PI y.2 (F + 1) Wd (fun f => if f = F then a else ar f) (fun f => if f = F then b else lo f) (fun f => if f = F then Wd else st f) (fun f => if f = F then 0 else le f)) := by
  obtain ⟨h1, h2, h3, h4, h5, h6, h7, h8, h9, h10, h11⟩ := h
  unfold f_X6_addFunc
  rw [h1, h3]
  simp (disch := omega) only [gb_nI, ix_nI, ad_nl, sb_nl]
  refine ok_ret ⟨by simp, ?_⟩
  have key : ∀ (c : Nat) (x : Int32) (t0 t : Nat → Nat) (k : Nat), (∀ f, f < F → σ c f = nI (t f)) → x = nI k → ∀ f, f < F + 1 → (if f = F then x else σ c f) = nI (if f = F then k else t f) := by
    intro c x t0 t k hh hx f hf
    by_cases e : f = F
    · rw [if_pos e, if_pos e]; exact hx
    · rw [if_neg e, if_neg e]; exact hh f (by omega)
  refine ⟨rfl, by omega, h3, h4, ?_, ?_, ?_, ?_, ?_, ?_, ?_⟩
  · intro f hf
    show (if f = F then nI a else σ 2 f) = _
    exact key 2 _ ar ar a h5 rfl f hf
  · intro f hf
    show (if f = F then nI b else σ 3 f) = _
    exact key 3 _ lo lo b h6 rfl f hf
  · intro f hf
    show (if f = F then nI Wd else σ 4 f) = _
    exact key 4 _ st st Wd h7 rfl f hf
  · intro f hf
    show (if f = F then 0 else σ 5 f) = _
    exact key 5 _ le le 0 h8 nI_0.symm f hf
  · intro f hf
    by_cases e : f = F
    · simp only [if_pos e]; omega
    · simp only [if_neg e]; have := h9 f (by omega); omega
  · intro f g hfg hg
    have ef : ¬ f = F := by omega
    simp only [if_neg ef]
    by_cases e : g = F
    · simp only [if_pos e]; have := h9 f (by omega); omega
    · simp only [if_neg e]; exact h10 f g hfg (by omega)
  · intro _
    simp
theorem addWord_ok {N n : Nat} {σ : Sg} {F Wd : Nat} {ar lo st le : Nat → Nat} (h : PI σ F Wd ar lo st le) (hF : 0 < F) (hW : Wd < 300) (o x : Int32) :
    Ok (f_X6_addWord N n σ o x) (fun y => y.1 = nI (le (F - 1)) ∧ PI y.2 F (Wd + 1) ar lo st (fun f => if f = F - 1 then le f + 1 else le f)) := by
  obtain ⟨h1, h2, h3, h4, h5, h6, h7, h8, h9, h10, h11⟩ := h
  unfold f_X6_addWord
  rw [h1, h3]
  have e5 := h8 (F - 1) (by omega)
  have q9 := h9 (F - 1) (by omega)
  simp (disch := omega) only [gb_nI, ix_nI, sb_nl, e5, ad_nl]
  refine ok_ret ⟨by simp, ?_⟩
  refine ⟨h1, h2, rfl, by omega, h5, h6, h7, ?_, ?_, ?_, ?_⟩
  · intro f hf
    show (if f = F - 1 then nI (le (F - 1) + 1) else σ 5 f) = nI (if f = F - 1 then le f + 1 else le f)
    by_cases e : f = F - 1
    · rw [if_pos e, if_pos e, e]
    · rw [if_neg e, if_neg e]; exact h8 f hf
  · intro f hf
    have w1 := h9 f hf
    have w2 := h11 hF
    by_cases e : f = F - 1
    · simp only [if_pos e]; rw [e] at w1 ⊢; omega
    · simp only [if_neg e]; omega
  · intro f g hfg hg
    have ef : ¬ f = F - 1 := by omega
    simp only [if_neg ef]
    exact h10 f g hfg hg
  · intro _
    have w2 := h11 hF
    simp only [if_true]
    omega
theorem hasFunc_ok {N n : Nat} {σ : Sg} {F Wd : Nat} {ar lo st le : Nat → Nat} (h : PI σ F Wd ar lo st le) (x : Int32) :
    (∃ f, f < F ∧ x = nI f ∧ f_X6_hasFunc N n σ x = some (1, σ)) ∨ f_X6_hasFunc N n σ x = some (0, σ) := by
  obtain ⟨h1, h2, -⟩ := h
  unfold f_X6_hasFunc
  rw [h1]
  rcases cs_n x with hx | ⟨k, hk, rfl⟩
  · exact Or.inr (if_pos hx)
  · have e0 : ¬ nI k < 0 := nI_pos hk
    rw [if_neg e0]
    simp (disch := omega) only [lt_nn, le_nn]
    by_cases q : k < F
    · refine Or.inl ⟨k, q, rfl, ?_⟩
      first
        | rw [if_pos q]
        | rw [if_neg (by omega)]
    · refine Or.inr ?_
      first
        | rw [if_neg q]
        | rw [if_pos (by omega)]
