/-- what a formed WORD is: op o with number x, in FUNC f of F, with lo locals and ln WORDS -/
def Fm (F lo ln : Nat) (o x : Int32) : Prop := ∃ k : Nat, k ≤ 17 ∧ o = nI k ∧ ((k = 1 ∨ k = 2) → ∃ y, y < lo ∧ x = nI y) ∧ ((k = 12 ∨ k = 13) → ∃ y, y < ln ∧ x = nI y) ∧ (k = 14 → ∃ y, y < F ∧ x = nI y)
theorem reach_new {N n : Nat} {σ : Sg} {F Wd : Nat} {ar lo st le : Nat → Nat} (h : PI σ F Wd ar lo st le) {f w d : Nat} (hf : f < F) (hw : w < le f) (hD : σ 8 (st f + w) = (-1)) :
    f_X0_reach N n σ (nI f) (nI w) (nI d) = some (1, sg (sg σ 8 (st f + w) (nI d)) 9 2 (if nI w < (σ 9 2) then nI w else (σ 9 2))) := by
  obtain ⟨h1, h2, h3, h4, h5, h6, h7, h8, h9, h10, h11⟩ := h
  have q9 := h9 f hf
  unfold f_X0_reach
  simp (disch := omega) only [gb_nI, ix_nI, h7 f hf, ad_nn, hD, if_true]
theorem reach_old {N n : Nat} {σ : Sg} {F Wd : Nat} {ar lo st le : Nat → Nat} (h : PI σ F Wd ar lo st le) {f w d e : Nat} (hf : f < F) (hw : w < le f) (he : e < 2147483648) (hd : d < 2147483648) (hD : σ 8 (st f + w) = nI e) :
    f_X0_reach N n σ (nI f) (nI w) (nI d) = some (if e = d then 1 else 0, σ) := by
  obtain ⟨h1, h2, h3, h4, h5, h6, h7, h8, h9, h10, h11⟩ := h
  have q9 := h9 f hf
  unfold f_X0_reach
  simp (disch := omega) only [gb_nI, ix_nI, h7 f hf, ad_nn, hD, n1_ne, if_false, eq_nn]
  by_cases q : e = d
  · simp only [if_pos q]
  · simp only [if_neg q]
theorem isFormed_ok {N n : Nat} {σ : Sg} {F Wd : Nat} {ar lo st le : Nat → Nat} (h : PI σ F Wd ar lo st le) {f : Nat} (hf : f < F) (o x : Int32) :
    (Fm F (lo f) (le f) o x ∧ f_X0_isFormed N n σ (nI f) o x = some (1, σ)) ∨ f_X0_isFormed N n σ (nI f) o x = some (0, σ) := by
  have hp := h
  obtain ⟨h1, h2, h3, h4, h5, h6, h7, h8, h9, h10, h11⟩ := h
  have q9 := h9 f hf
  unfold f_X0_isFormed
  simp (disch := omega) only [gb_nI, ix_nI, h6 f hf, h8 f hf]
  by_cases c1 : o = 1 ∨ o = 2
  · rw [if_pos c1]
    rcases cs_n x with hx | ⟨k, hk, rfl⟩
    · exact Or.inr (if_pos hx)
    · rw [if_neg (nI_pos hk)]
      simp (disch := omega) only [le_nn]
      by_cases q : lo f ≤ k
      · exact Or.inr (if_pos q)
      · rw [if_neg q]
        refine Or.inl ⟨?_, rfl⟩
        rcases c1 with rfl | rfl
        · exact ⟨1, by omega, rfl, fun _ => ⟨k, by omega, rfl⟩, fun a => by omega, fun a => by omega⟩
        · exact ⟨2, by omega, rfl, fun _ => ⟨k, by omega, rfl⟩, fun a => by omega, fun a => by omega⟩
  · rw [if_neg c1]
    by_cases c2 : o = 12 ∨ o = 13
    · rw [if_pos c2]
      rcases cs_n x with hx | ⟨k, hk, rfl⟩
      · exact Or.inr (if_pos hx)
      · rw [if_neg (nI_pos hk)]
        simp (disch := omega) only [le_nn]
        by_cases q : le f ≤ k
        · exact Or.inr (if_pos q)
        · rw [if_neg q]
          refine Or.inl ⟨?_, rfl⟩
          rcases c2 with rfl | rfl
          · exact ⟨12, by omega, rfl, fun a => by omega, fun _ => ⟨k, by omega, rfl⟩, fun a => by omega⟩
          · exact ⟨13, by omega, rfl, fun a => by omega, fun _ => ⟨k, by omega, rfl⟩, fun a => by omega⟩
    · rw [if_neg c2]
      by_cases c3 : o = 14
      · rw [if_pos c3]
        subst c3
        rcases hasFunc_ok (N := N) (n := n) hp x with ⟨y, hy, rfl, e⟩ | e
        · rw [e]
          exact Or.inl ⟨⟨14, by omega, rfl, fun a => by omega, fun a => by omega, fun _ => ⟨y, hy, rfl⟩⟩, rfl⟩
        · rw [e]
          exact Or.inr rfl
      · rw [if_neg c3]
        rcases cs_n o with ho | ⟨k, hk, rfl⟩
        · exact Or.inr (if_pos ho)
        · rw [if_neg (nI_pos hk)]
          simp (disch := omega) only [lt_ln]
          by_cases q : 17 < k
          · exact Or.inr (if_pos q)
          · rw [if_neg q]
            refine Or.inl ⟨⟨k, by omega, rfl, fun a => ?_, fun a => ?_, fun a => ?_⟩, rfl⟩
            · exact absurd (by rcases a with rfl | rfl; exact Or.inl rfl; exact Or.inr rfl) c1
            · exact absurd (by rcases a with rfl | rfl; exact Or.inl rfl; exact Or.inr rfl) c2
            · exact absurd (by subst a; rfl) c3
/-- how many a formed WORD takes, and puts -/
def tkN (ar : Nat → Nat) (k y : Nat) : Nat := if k = 14 then ar y else [0, 0, 1, 2, 2, 2, 2, 2, 2, 1, 2, 1, 0, 1, 0, 1, 1, 2].getD k 0
def ptN (k : Nat) : Nat := [1, 1, 0, 1, 1, 1, 1, 1, 1, 2, 2, 0, 0, 0, 1, 0, 1, 0].getD k 0
theorem tk_nI {k : Nat} (hk : k ≤ 17) : tk k = nI (([0, 0, 1, 2, 2, 2, 2, 2, 2, 1, 2, 1, 0, 1, 0, 1, 1, 2] : List Nat).getD k 0) := by
  match k, hk with
  | 0, _ => rfl
  | 1, _ => rfl
  | 2, _ => rfl
  | 3, _ => rfl
  | 4, _ => rfl
  | 5, _ => rfl
  | 6, _ => rfl
  | 7, _ => rfl
  | 8, _ => rfl
  | 9, _ => rfl
  | 10, _ => rfl
  | 11, _ => rfl
  | 12, _ => rfl
  | 13, _ => rfl
  | 14, _ => rfl
  | 15, _ => rfl
  | 16, _ => rfl
  | 17, _ => rfl
  | k + 18, h => omega
theorem pt_nI {k : Nat} (hk : k ≤ 17) : pt k = nI (ptN k) := by
  match k, hk with
  | 0, _ => rfl
  | 1, _ => rfl
  | 2, _ => rfl
  | 3, _ => rfl
  | 4, _ => rfl
  | 5, _ => rfl
  | 6, _ => rfl
  | 7, _ => rfl
  | 8, _ => rfl
  | 9, _ => rfl
  | 10, _ => rfl
  | 11, _ => rfl
  | 12, _ => rfl
  | 13, _ => rfl
  | 14, _ => rfl
  | 15, _ => rfl
  | 16, _ => rfl
  | 17, _ => rfl
  | k + 18, h => omega
theorem takes_ok {N n : Nat} {σ : Sg} {F Wd : Nat} {ar lo st le : Nat → Nat} (h : PI σ F Wd ar lo st le) {k : Nat} (hk : k ≤ 17) {x : Int32} {y : Nat} (hy : k = 14 → y < F ∧ x = nI y) :
    f_X6_takes N n σ (nI k) x = some (nI (tkN ar k y), σ) := by
  obtain ⟨h1, h2, h3, h4, h5, h6, h7, h8, h9, h10, h11⟩ := h
  unfold f_X6_takes tkN
  by_cases q : k = 14
  · obtain ⟨y1, rfl⟩ := hy q
    subst q
    rw [if_pos rfl, if_pos (show nI 14 = 14 from rfl)]
    simp (disch := omega) only [gb_nI, ix_nI, h5 y y1]
  · rw [if_neg q]
    simp (disch := omega) only [eq_nl, if_neg q, gb_nI, ix_nI, tk_nI]
