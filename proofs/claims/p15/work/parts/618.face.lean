/-- a number between two others is a natural number -/
theorem nat_of {x : Int32} {m : Nat} (hm : m < 2147483648) (h0 : ¬ x < 0) (h1 : ¬ nI m < x) : ∃ k, k ≤ m ∧ x = nI k := by
  rcases cs_n x with h | ⟨k, hk, rfl⟩
  · exact absurd h h0
  · rw [lt_nn hm hk] at h1
    exact ⟨k, by omega, rfl⟩
theorem func_ok {N n : Nat} {σ : Sg} (h : CI σ) (x y : Int32) : Ok (f_X11_func N n σ x y) (fun z => CI z.2) := by
  have hI := h
  obtain ⟨F, Wd, ar, lo, st, le, hp, h01, hW⟩ := h
  have hp' := hp
  obtain ⟨g1, g2, -⟩ := hp'
  unfold f_X11_func
  refine ok_if (fun _ => ok_ret hI) (fun c1 => ok_if (fun _ => ok_ret hI) (fun c2 => ok_if (fun _ => ok_ret hI) (fun c3 => ok_if (fun _ => ok_ret hI) (fun c4 => ok_if (fun c5 => ok_if (fun c6 => ?_) (fun _ => ok_ret hI)) (fun _ => ok_ret hI)))))
  obtain ⟨a, ha, rfl⟩ := nat_of (m := 6) (by decide) c1 c2
  have hy0 : ¬ y < 0 := fun q => c3 (Int32.lt_iff_toInt_lt.mpr (by
    have q1 := Int32.lt_iff_toInt_lt.mp q
    have q2 : (0 : Int32).toInt = 0 := by decide
    have q3 := nI_toInt (n := a) (by omega)
    omega))
  obtain ⟨b, hb, rfl⟩ := nat_of (m := 10) (by decide) hy0 c4
  rw [lt_nn (by omega) (by omega)] at c3
  rw [g1, lt_nl (k := 12) (by omega) (by decide)] at c6
  have c6 : F < 12 := c6
  refine ok_bd (addFunc_ok hp c6 ha (by omega) hb) (fun r σ1 e hr => ok_ret ?_)
  refine ⟨F + 1, Wd, _, _, _, _, hr.2, ?_, fun q => ?_⟩
  · show σ1 1 9 = 0 ∨ σ1 1 9 = 1
    rw [show σ1 1 9 = σ 1 9 from fr_X6_addFunc rfl e]; exact h01
  · have q : σ1 1 9 = 1 := q
    rw [show σ1 1 9 = σ 1 9 from fr_X6_addFunc rfl e, c5] at q
    exact absurd q (by decide)
theorem word_ok {N n : Nat} {σ : Sg} (h : CI σ) (x y : Int32) : Ok (f_X11_word N n σ x y) (fun z => CI z.2) := by
  have hI := h
  obtain ⟨F, Wd, ar, lo, st, le, hp, h01, hW⟩ := h
  have hp' := hp
  obtain ⟨g1, g2, g3, g4, -⟩ := hp'
  unfold f_X11_word
  refine ok_if (fun _ => ok_ret hI) (fun c1 => ok_if (fun c2 => ok_if (fun c3 => ?_) (fun _ => ok_ret hI)) (fun _ => ok_ret hI))
  have hF : 0 < F := Nat.pos_of_ne_zero (fun q => c1 (by rw [g1, q]; rfl))
  rw [g3, lt_nl (k := 300) (by omega) (by decide)] at c3
  have c3 : Wd < 300 := c3
  refine ok_bd (addWord_ok hp hF c3 x y) (fun r σ1 e hr => ok_ret ?_)
  refine ⟨F, Wd + 1, _, _, _, _, hr.2, ?_, fun q => ?_⟩
  · show σ1 1 9 = 0 ∨ σ1 1 9 = 1
    rw [show σ1 1 9 = σ 1 9 from fr_X6_addWord rfl e]; exact h01
  · have q : σ1 1 9 = 1 := q
    rw [show σ1 1 9 = σ 1 9 from fr_X6_addWord rfl e, c2] at q
    exact absurd q (by decide)
theorem depth_ok {N n : Nat} {σ : Sg} (h : CI σ) (x y : Int32) : Ok (f_X11_depth N n σ x y) (fun z => z.2 = σ) := by
  obtain ⟨F, Wd, ar, lo, st, le, hp, h01, hW⟩ := h
  have hp' := hp
  obtain ⟨g1, g2, g3, g4, g5, g6, g7, g8, g9, -⟩ := hp'
  unfold f_X11_depth
  refine ok_if (fun _ => ok_ret rfl) (fun c1 => ?_)
  rcases hasFunc_ok (N := N) (n := n) hp x with ⟨f, hf, rfl, e⟩ | e
  · rw [e, bd_s]
    have q9 := g9 f hf
    refine ok_if (fun _ => ok_ret rfl) (fun _ => ok_if (fun _ => ok_ret rfl) (fun c3 => ?_))
    rw [gb_nI (by omega) (by omega), ix_nI (k := f) (by omega), g8 f hf, g7 f hf]
    refine ok_if (fun c4 => ?_) (fun _ => ok_ret rfl)
    rcases cs_n y with q | ⟨w, hw, rfl⟩
    · exact absurd q c3
    · rw [lt_nn (by omega) (by omega)] at c4
      rw [gb_nI (by omega) (by omega), ad_nn, gb_nI (by omega) (by omega)]
      exact ok_ret rfl
  · rw [e, bd_s, if_pos rfl]
    exact ok_ret rfl
theorem cell_ok {N n : Nat} {σ : Sg} (x y : Int32) : Ok (f_X11_cell N n σ x y) (fun z => (z.1 = if x < 0 then 0 else if x < 64 then 1 else 0) ∧ ∀ c j, c ≠ 46 → c ≠ 53 → z.2 c j = σ c j) := by
  unfold f_X11_cell
  refine ok_if (fun c => ok_ret ⟨by rw [if_pos c], fun _ _ _ _ => rfl⟩) (fun c => ok_if (fun c2 => ?_) (fun c2 => ok_ret ⟨by rw [if_neg c, if_neg c2], fun _ _ _ _ => rfl⟩))
  rcases cs_n x with q | ⟨k, hk, rfl⟩
  · exact absurd q c
  · have c3 := c2
    rw [lt_nl (k := 64) (by omega) (by decide)] at c3
    have c3 : k < 64 := c3
    rw [gb_nI c3 (by decide), gb_nI c3 (by decide)]
    refine ok_ret ⟨by rw [if_neg c, if_pos c2], fun c j q1 q2 => ?_⟩
    show sg (sg σ 46 _ y) 53 _ y c j = σ c j
    rw [sg_c q2, sg_c q1]
theorem cellR_ok {N n : Nat} {σ : Sg} (x y : Int32) : Ok (f_X12_cell N n σ x y) (fun z => (z.1 = if x < 0 then 0 else if x < 64 then 1 else 0) ∧ ∀ c j, c ≠ 88 → ¬ (c = 59 ∧ j = 0) → z.2 c j = σ c j) := by
  have h59 : ∀ c j, ¬ (c = 59 ∧ j = 0) → sg σ 59 0 0 c j = σ c j := by
    intro c j q
    by_cases e : c = 59
    · subst e; exact sg_ne (fun z => q ⟨rfl, z⟩)
    · exact sg_c e
  unfold f_X12_cell f_X12_isCell
  by_cases c : x < 0
  · rw [if_pos c, bd_s, if_pos rfl]
    exact ok_ret ⟨by rw [if_pos c], fun c j _ q => h59 c j q⟩
  · rw [if_neg c]
    rcases cs_n x with q | ⟨k, hk, rfl⟩
    · exact absurd q c
    · have e64 : (nI k < 64) = (k < 64) := lt_nl (k := 64) (by omega) (by decide)
      have f64 : ((64 : Int32) ≤ nI k) = (64 ≤ k) := le_ln (k := 64) (by omega) (by decide)
      by_cases c3 : k < 64
      · rw [if_neg (show ¬ (64 : Int32) ≤ nI k by rw [f64]; omega), bd_s, if_neg (by decide), gb_nI (by omega) (by decide), ad_ln k 64, gb_nI (by show 64 + k < 128; omega) (by decide)]
        refine ok_ret ⟨by rw [if_neg c, if_pos (show nI k < 64 by rw [e64]; exact c3)], fun c j q1 q2 => ?_⟩
        show sg (sg (sg σ 59 0 0) 88 _ y) 88 _ y c j = σ c j
        rw [sg_c q1, sg_c q1]
        exact h59 c j q2
      · rw [if_pos (show (64 : Int32) ≤ nI k by rw [f64]; omega), bd_s, if_pos rfl]
        exact ok_ret ⟨by rw [if_neg c, if_neg (show ¬ nI k < 64 by rw [e64]; exact c3)], fun c j _ q => h59 c j q⟩
