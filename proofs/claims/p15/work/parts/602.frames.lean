theorem frl_X2_giveOne_25 {N n : Nat} {u1 : Int32} {u2 : Int32} {u3 : Int32} {u4 : Int32} {K68 : (Sg → Int32 → Option (Int32 × Sg))} {out : Int32 × Sg} {c j : Nat} (hc : nt [35, 38] [] c j = true) : ∀ (k : Nat) (σ : Sg) (v5 : Int32), lf_X2_giveOne_25 N n u1 u2 u3 u4 K68 k σ v5 = some out → (∀ (σ : Sg) (v5 : Int32), K68 σ v5 = some out → out.2 c j = σ c j) → out.2 c j = σ c j := by
  intro k
  induction k with
  | zero => intro σ v5 hm; exact nomatch (show none = some out from hm)
  | succ k ih =>
    intro σ v5 hm hK68
    have hm : lb_X2_giveOne_25 N n u1 u2 u3 u4 K68 (lf_X2_giveOne_25 N n u1 u2 u3 u4 K68 k) σ v5 = some out := hm
    unfold lb_X2_giveOne_25 at hm
    by_cases q1 : u3 ≤ v5
    · have hm := (if_pos q1).symm.trans hm
      exact (hK68 _ _ hm).trans rfl
    · have hm := (if_neg q1).symm.trans hm
      obtain ⟨_, hm⟩ := gb_some hm
      by_cases q2 : (σ 38 (ix v5)) = (-1)
      · have hm := (if_pos q2).symm.trans hm
        obtain ⟨_, hm⟩ := gb_some hm
        obtain ⟨_, hm⟩ := gb_some hm
        cases hm
        exact ((sg_t hc (by decide)).trans ((sg_t hc (by decide)).trans rfl))
      · have hm := (if_neg q2).symm.trans hm
        exact (ih _ _ hm hK68).trans rfl
theorem fr_X2_giveOne {N n : Nat} {σ : Sg} {p0 : Int32} {p1 : Int32} {p2 : Int32} {r : Int32} {σ' : Sg} {c j : Nat} (hc : nt [35, 36, 37, 38] [] c j = true) (hm : f_X2_giveOne N n σ p0 p1 p2 = some (r, σ')) : σ' c j = σ c j := by
  unfold f_X2_giveOne at hm
  obtain ⟨_, hm⟩ := gb_some hm
  obtain ⟨r2, σ3, h1, hm⟩ := bd_some hm
  have e1 := (fr_X2_giveBack (nt_sub hc (by decide) (by decide)) h1).trans rfl
  refine (frl_X2_giveOne_25 (nt_sub hc (by decide) (by decide)) N _ _ hm ?_).trans e1
  intro σ10 w11 hm
  obtain ⟨r12, σ13, h2, hm⟩ := bd_some hm
  have e2 := (fr_X2_longestWith (nt_sub hc (by decide) (by decide)) h2).trans rfl
  obtain ⟨_, hm⟩ := gb_some hm
  obtain ⟨_, hm⟩ := gb_some hm
  obtain ⟨_, hm⟩ := gb_some hm
  obtain ⟨_, hm⟩ := gb_some hm
  by_cases q3 : r12 = p1
  · have hm := (if_pos q3).symm.trans hm
    cases hm
    exact ((sg_t hc (by decide)).trans ((sg_t hc (by decide)).trans e2))
  · have hm := (if_neg q3).symm.trans hm
    obtain ⟨_, hm⟩ := gb_some hm
    obtain ⟨_, hm⟩ := gb_some hm
    obtain ⟨_, hm⟩ := gb_some hm
    obtain ⟨_, hm⟩ := gb_some hm
    cases hm
    exact ((sg_t hc (by decide)).trans ((sg_t hc (by decide)).trans ((sg_t hc (by decide)).trans ((sg_t hc (by decide)).trans ((sg_t hc (by decide)).trans e2)))))
theorem frl_X2_give_22 {N n : Nat} {u1 : Int32} {u4 : Int32} {u5 : Int32} {K66 : (Sg → Int32 → Option (Int32 × Sg))} {out : Int32 × Sg} {c j : Nat} (hc : nt [33, 34] [] c j = true) : ∀ (k : Nat) (σ : Sg) (v6 : Int32), lf_X2_give_22 N n u1 u4 u5 K66 k σ v6 = some out → (∀ (σ : Sg) (v6 : Int32), K66 σ v6 = some out → out.2 c j = σ c j) → out.2 c j = σ c j := by
  intro k
  induction k with
  | zero => intro σ v6 hm; exact nomatch (show none = some out from hm)
  | succ k ih =>
    intro σ v6 hm hK66
    have hm : lb_X2_give_22 N n u1 u4 u5 K66 (lf_X2_give_22 N n u1 u4 u5 K66 k) σ v6 = some out := hm
    unfold lb_X2_give_22 at hm
    by_cases q1 : (σ 13 6) ≤ v6
    · have hm := (if_pos q1).symm.trans hm
      exact (hK66 _ _ hm).trans rfl
    · have hm := (if_neg q1).symm.trans hm
      obtain ⟨_, hm⟩ := gb_some hm
      obtain ⟨r7, σ8, h2, hm⟩ := bd_some hm
      have e2 := (fr_X5_readSet (nt_sub hc (by decide) (by decide)) h2).trans rfl
      obtain ⟨r10, σ11, h3, hm⟩ := bd_some hm
      have e3 := (fr_X5_writtenSet (nt_sub hc (by decide) (by decide)) h3).trans e2
      obtain ⟨r13, σ14, h4, hm⟩ := bd_some hm
      have e4 := (fr_X2_widen (nt_sub hc (by decide) (by decide)) h4).trans e3
      exact (ih _ _ hm hK66).trans e4
theorem frl_X2_give_81 {N n : Nat} {u1 : Int32} {u4 : Int32} {u5 : Int32} {u6 : Int32} {K118 : (Sg → Int32 → Option (Int32 × Sg))} {out : Int32 × Sg} {c j : Nat} (hc : nt [35, 36, 37, 38] [] c j = true) : ∀ (k : Nat) (σ : Sg) (v7 : Int32), lf_X2_give_81 N n u1 u4 u5 u6 K118 k σ v7 = some out → (∀ (σ : Sg) (v7 : Int32), K118 σ v7 = some out → out.2 c j = σ c j) → out.2 c j = σ c j := by
  intro k
  induction k with
  | zero => intro σ v7 hm; exact nomatch (show none = some out from hm)
  | succ k ih =>
    intro σ v7 hm hK118
    have hm : lb_X2_give_81 N n u1 u4 u5 u6 K118 (lf_X2_give_81 N n u1 u4 u5 u6 K118 k) σ v7 = some out := hm
    unfold lb_X2_give_81 at hm
    by_cases q1 : 22 ≤ v7
    · have hm := (if_pos q1).symm.trans hm
      exact (hK118 _ _ hm).trans rfl
    · have hm := (if_neg q1).symm.trans hm
      obtain ⟨_, hm⟩ := gb_some hm
      by_cases q2 : (σ 33 (ix (u5 + v7))) = u6
      · have hm := (if_pos q2).symm.trans hm
        obtain ⟨r22, σ23, h3, hm⟩ := bd_some hm
        have e3 := (fr_X2_giveOne (nt_sub hc (by decide) (by decide)) h3).trans rfl
        exact (ih _ _ hm hK118).trans e3
      · have hm := (if_neg q2).symm.trans hm
        exact (ih _ _ hm hK118).trans rfl
theorem frl_X2_give_69 {N n : Nat} {u1 : Int32} {u4 : Int32} {u5 : Int32} {K124 : (Sg → Int32 → Option (Int32 × Sg))} {out : Int32 × Sg} {c j : Nat} (hc : nt [35, 36, 37, 38] [] c j = true) : ∀ (k : Nat) (σ : Sg) (v6 : Int32), lf_X2_give_69 N n u1 u4 u5 K124 k σ v6 = some out → (∀ (σ : Sg) (v6 : Int32), K124 σ v6 = some out → out.2 c j = σ c j) → out.2 c j = σ c j := by
  intro k
  induction k with
  | zero => intro σ v6 hm; exact nomatch (show none = some out from hm)
  | succ k ih =>
    intro σ v6 hm hK124
    have hm : lb_X2_give_69 N n u1 u4 u5 K124 (lf_X2_give_69 N n u1 u4 u5 K124 k) σ v6 = some out := hm
    unfold lb_X2_give_69 at hm
    by_cases q1 : (σ 13 6) ≤ v6
    · have hm := (if_pos q1).symm.trans hm
      exact (hK124 _ _ hm).trans rfl
    · have hm := (if_neg q1).symm.trans hm
      refine (frl_X2_give_81 (nt_sub hc (by decide) (by decide)) N _ _ hm ?_).trans rfl
      intro σ25 w26 hm
      exact (ih _ _ hm hK124).trans rfl
theorem fr_X2_give {N n : Nat} {σ : Sg} {p0 : Int32} {p3 : Int32} {r : Int32} {σ' : Sg} {c j : Nat} (hc : nt [33, 34, 35, 36, 37, 38] [] c j = true) (hm : f_X2_give N n σ p0 p3 = some (r, σ')) : σ' c j = σ c j := by
  unfold f_X2_give at hm
  obtain ⟨r1, σ2, h1, hm⟩ := bd_some hm
  have e1 := (fr_X2_forget (nt_sub hc (by decide) (by decide)) h1).trans rfl
  obtain ⟨_, hm⟩ := gb_some hm
  refine (frl_X2_give_22 (nt_sub hc (by decide) (by decide)) N _ _ hm ?_).trans ((sg_t hc (by decide)).trans e1)
  intro σ16 w17 hm
  refine (frl_X2_give_69 (nt_sub hc (by decide) (by decide)) N _ _ hm ?_).trans rfl
  intro σ27 w28 hm
  cases hm
  exact rfl
theorem fr_X5_goesToNext {N n : Nat} {σ : Sg} {p0 : Int32} {r : Int32} {σ' : Sg} {c j : Nat} (hc : nt [] [] c j = true) (hm : f_X5_goesToNext N n σ p0 = some (r, σ')) : σ' c j = σ c j := by
  unfold f_X5_goesToNext at hm
  obtain ⟨_, hm⟩ := gb_some hm
  by_cases q1 : (σ 14 (ix p0)) = 4
  · have hm := (if_pos q1).symm.trans hm
    cases hm
    exact rfl
  · have hm := (if_neg q1).symm.trans hm
    obtain ⟨_, hm⟩ := gb_some hm
    by_cases q2 : (σ 14 (ix p0)) = 6
    · have hm := (if_pos q2).symm.trans hm
      cases hm
      exact rfl
    · have hm := (if_neg q2).symm.trans hm
      by_cases q3 : (σ 13 6) ≤ (p0 + 1)
      · have hm := (if_pos q3).symm.trans hm
        cases hm
        exact rfl
      · have hm := (if_neg q3).symm.trans hm
        cases hm
        exact rfl
theorem fr_X5_jumps {N n : Nat} {σ : Sg} {p0 : Int32} {r : Int32} {σ' : Sg} {c j : Nat} (hc : nt [] [] c j = true) (hm : f_X5_jumps N n σ p0 = some (r, σ')) : σ' c j = σ c j := by
  unfold f_X5_jumps at hm
  obtain ⟨_, hm⟩ := gb_some hm
  by_cases q1 : (σ 14 (ix p0)) = 4
  · have hm := (if_pos q1).symm.trans hm
    cases hm
    exact rfl
  · have hm := (if_neg q1).symm.trans hm
    obtain ⟨_, hm⟩ := gb_some hm
    by_cases q2 : (σ 14 (ix p0)) = 5
    · have hm := (if_pos q2).symm.trans hm
      cases hm
      exact rfl
    · have hm := (if_neg q2).symm.trans hm
      cases hm
      exact rfl
theorem frl_X3_growBackwards_9 {N n : Nat}  {K120 : (Sg → Int32 → Int32 → Option (Int32 × Sg))} {out : Int32 × Sg} {c j : Nat} (hc : nt [30, 31] [] c j = true) : ∀ (k : Nat) (σ : Sg) (v2 : Int32) (v3 : Int32), lf_X3_growBackwards_9 N n  K120 k σ v2 v3 = some out → (∀ (σ : Sg) (v2 : Int32) (v3 : Int32), K120 σ v2 v3 = some out → out.2 c j = σ c j) → out.2 c j = σ c j := by
  intro k
  induction k with
  | zero => intro σ v2 v3 hm; exact nomatch (show none = some out from hm)
  | succ k ih =>
    intro σ v2 v3 hm hK120
    have hm : lb_X3_growBackwards_9 N n  K120 (lf_X3_growBackwards_9 N n  K120 k) σ v2 v3 = some out := hm
    unfold lb_X3_growBackwards_9 at hm
    by_cases q1 : v3 < 0
    · have hm := (if_pos q1).symm.trans hm
      exact (hK120 _ _ _ hm).trans rfl
    · have hm := (if_neg q1).symm.trans hm
      obtain ⟨r2, σ3, h2, hm⟩ := bd_some hm
      have e2 := (fr_X5_goesToNext (nt_sub hc (by decide) (by decide)) h2).trans rfl
      by_cases q3 : r2 = 0
      · have hm := (if_pos q3).symm.trans hm
        obtain ⟨r6, σ7, h4, hm⟩ := bd_some hm
        have e4 := (fr_X5_jumps (nt_sub hc (by decide) (by decide)) h4).trans e2
        by_cases q5 : r6 = 0
        · have hm := (if_pos q5).symm.trans hm
          obtain ⟨_, hm⟩ := gb_some hm
          obtain ⟨r11, σ12, h6, hm⟩ := bd_some hm
          have e6 := (fr_X5_readSet (nt_sub hc (by decide) (by decide)) h6).trans ((sg_t hc (by decide)).trans e4)
          obtain ⟨r14, σ15, h7, hm⟩ := bd_some hm
          have e7 := (fr_X5_writtenSet (nt_sub hc (by decide) (by decide)) h7).trans e6
          by_cases q8 : v2 = 0
          · have hm := (if_pos q8).symm.trans hm
            obtain ⟨_, hm⟩ := gb_some hm
            by_cases q9 : (r11 ||| (0 &&& (r14 ^^^ (-1)))) = (σ15 30 (ix v3))
            · have hm := (if_pos q9).symm.trans hm
              obtain ⟨_, hm⟩ := gb_some hm
              exact (ih _ _ _ hm hK120).trans ((sg_t hc (by decide)).trans e7)
            · have hm := (if_neg q9).symm.trans hm
              obtain ⟨_, hm⟩ := gb_some hm
              exact (ih _ _ _ hm hK120).trans ((sg_t hc (by decide)).trans e7)
          · have hm := (if_neg q8).symm.trans hm
            obtain ⟨_, hm⟩ := gb_some hm
            exact (ih _ _ _ hm hK120).trans ((sg_t hc (by decide)).trans e7)
        · have hm := (if_neg q5).symm.trans hm
          obtain ⟨_, hm⟩ := gb_some hm
          obtain ⟨_, hm⟩ := gb_some hm
          obtain ⟨_, hm⟩ := gb_some hm
          obtain ⟨r26, σ27, h10, hm⟩ := bd_some hm
          have e10 := (fr_X5_readSet (nt_sub hc (by decide) (by decide)) h10).trans ((sg_t hc (by decide)).trans e4)
          obtain ⟨r29, σ30, h11, hm⟩ := bd_some hm
          have e11 := (fr_X5_writtenSet (nt_sub hc (by decide) (by decide)) h11).trans e10
          by_cases q12 : v2 = 0
          · have hm := (if_pos q12).symm.trans hm
            obtain ⟨_, hm⟩ := gb_some hm
            by_cases q13 : (r26 ||| ((0 ||| (σ7 30 (ix (σ7 16 (ix v3))))) &&& (r29 ^^^ (-1)))) = (σ30 30 (ix v3))
            · have hm := (if_pos q13).symm.trans hm
              obtain ⟨_, hm⟩ := gb_some hm
              exact (ih _ _ _ hm hK120).trans ((sg_t hc (by decide)).trans e11)
            · have hm := (if_neg q13).symm.trans hm
              obtain ⟨_, hm⟩ := gb_some hm
              exact (ih _ _ _ hm hK120).trans ((sg_t hc (by decide)).trans e11)
          · have hm := (if_neg q12).symm.trans hm
            obtain ⟨_, hm⟩ := gb_some hm
            exact (ih _ _ _ hm hK120).trans ((sg_t hc (by decide)).trans e11)
      · have hm := (if_neg q3).symm.trans hm
        obtain ⟨_, hm⟩ := gb_some hm
        obtain ⟨r39, σ40, h14, hm⟩ := bd_some hm
        have e14 := (fr_X5_jumps (nt_sub hc (by decide) (by decide)) h14).trans e2
        by_cases q15 : r39 = 0
        · have hm := (if_pos q15).symm.trans hm
          obtain ⟨_, hm⟩ := gb_some hm
          obtain ⟨r44, σ45, h16, hm⟩ := bd_some hm
          have e16 := (fr_X5_readSet (nt_sub hc (by decide) (by decide)) h16).trans ((sg_t hc (by decide)).trans e14)
          obtain ⟨r47, σ48, h17, hm⟩ := bd_some hm
          have e17 := (fr_X5_writtenSet (nt_sub hc (by decide) (by decide)) h17).trans e16
          by_cases q18 : v2 = 0
          · have hm := (if_pos q18).symm.trans hm
            obtain ⟨_, hm⟩ := gb_some hm
            by_cases q19 : (r44 ||| ((σ3 30 (ix (v3 + 1))) &&& (r47 ^^^ (-1)))) = (σ48 30 (ix v3))
            · have hm := (if_pos q19).symm.trans hm
              obtain ⟨_, hm⟩ := gb_some hm
              exact (ih _ _ _ hm hK120).trans ((sg_t hc (by decide)).trans e17)
            · have hm := (if_neg q19).symm.trans hm
              obtain ⟨_, hm⟩ := gb_some hm
              exact (ih _ _ _ hm hK120).trans ((sg_t hc (by decide)).trans e17)
          · have hm := (if_neg q18).symm.trans hm
            obtain ⟨_, hm⟩ := gb_some hm
            exact (ih _ _ _ hm hK120).trans ((sg_t hc (by decide)).trans e17)
        · have hm := (if_neg q15).symm.trans hm
          obtain ⟨_, hm⟩ := gb_some hm
          obtain ⟨_, hm⟩ := gb_some hm
          obtain ⟨_, hm⟩ := gb_some hm
          obtain ⟨r59, σ60, h20, hm⟩ := bd_some hm
          have e20 := (fr_X5_readSet (nt_sub hc (by decide) (by decide)) h20).trans ((sg_t hc (by decide)).trans e14)
          obtain ⟨r62, σ63, h21, hm⟩ := bd_some hm
          have e21 := (fr_X5_writtenSet (nt_sub hc (by decide) (by decide)) h21).trans e20
          by_cases q22 : v2 = 0
          · have hm := (if_pos q22).symm.trans hm
            obtain ⟨_, hm⟩ := gb_some hm
            by_cases q23 : (r59 ||| (((σ3 30 (ix (v3 + 1))) ||| (σ40 30 (ix (σ40 16 (ix v3))))) &&& (r62 ^^^ (-1)))) = (σ63 30 (ix v3))
            · have hm := (if_pos q23).symm.trans hm
              obtain ⟨_, hm⟩ := gb_some hm
              exact (ih _ _ _ hm hK120).trans ((sg_t hc (by decide)).trans e21)
            · have hm := (if_neg q23).symm.trans hm
              obtain ⟨_, hm⟩ := gb_some hm
              exact (ih _ _ _ hm hK120).trans ((sg_t hc (by decide)).trans e21)
          · have hm := (if_neg q22).symm.trans hm
            obtain ⟨_, hm⟩ := gb_some hm
            exact (ih _ _ _ hm hK120).trans ((sg_t hc (by decide)).trans e21)
theorem fr_X3_growBackwards {N n : Nat} {σ : Sg}  {r : Int32} {σ' : Sg} {c j : Nat} (hc : nt [30, 31] [] c j = true) (hm : f_X3_growBackwards N n σ  = some (r, σ')) : σ' c j = σ c j := by
  unfold f_X3_growBackwards at hm
  refine (frl_X3_growBackwards_9 (nt_sub hc (by decide) (by decide)) N _ _ _ hm ?_).trans rfl
  intro σ71 w72 w73 hm
  obtain ⟨_, hm⟩ := g01_some hm
  cases hm
  exact rfl
theorem frl_X3_find_20 {N n : Nat} {u2 : Int32} {K40 : (Sg → Int32 → Option (Int32 × Sg))} {out : Int32 × Sg} {c j : Nat} (hc : nt [30, 31] [] c j = true) : ∀ (k : Nat) (σ : Sg) (v3 : Int32), lf_X3_find_20 N n u2 K40 k σ v3 = some out → (∀ (σ : Sg) (v3 : Int32), K40 σ v3 = some out → out.2 c j = σ c j) → out.2 c j = σ c j := by
  intro k
  induction k with
  | zero => intro σ v3 hm; exact nomatch (show none = some out from hm)
  | succ k ih =>
    intro σ v3 hm hK40
    have hm : lb_X3_find_20 N n u2 K40 (lf_X3_find_20 N n u2 K40 k) σ v3 = some out := hm
    unfold lb_X3_find_20 at hm
    by_cases q1 : u2 ≤ v3
    · have hm := (if_pos q1).symm.trans hm
      exact (hK40 _ _ hm).trans rfl
    · have hm := (if_neg q1).symm.trans hm
      obtain ⟨r5, σ6, h2, hm⟩ := bd_some hm
      have e2 := (fr_X3_growBackwards (nt_sub hc (by decide) (by decide)) h2).trans rfl
      by_cases q3 : r5 = 0
      · have hm := (if_pos q3).symm.trans hm
        cases hm
        exact e2
      · have hm := (if_neg q3).symm.trans hm
        exact (ih _ _ hm hK40).trans e2
theorem fr_X3_find {N n : Nat} {σ : Sg}  {r : Int32} {σ' : Sg} {c j : Nat} (hc : nt [30, 31] [] c j = true) (hm : f_X3_find N n σ  = some (r, σ')) : σ' c j = σ c j := by
  unfold f_X3_find at hm
  obtain ⟨r1, σ2, h1, hm⟩ := bd_some hm
  have e1 := (fr_J7_fill_53178_30 (nt_sub hc (by decide) (by decide)) h1).trans rfl
  refine (frl_X3_find_20 (nt_sub hc (by decide) (by decide)) N _ _ hm ?_).trans e1
  intro σ9 w10 hm
  cases hm
  exact rfl
theorem fr_X4_tell_X8 {N n : Nat} {σ : Sg} {p0 : Int32} {r : Int32} {σ' : Sg} {c j : Nat} (hc : nt [] [] c j = true) (hm : f_X4_tell_X8 N n σ p0 = some (r, σ')) : σ' c j = σ c j := by
  unfold f_X4_tell_X8 at hm
  by_cases q1 : p0 = 0
  · have hm := (if_pos q1).symm.trans hm
    cases hm
    exact rfl
  · have hm := (if_neg q1).symm.trans hm
    by_cases q2 : p0 = 1
    · have hm := (if_pos q2).symm.trans hm
      cases hm
      exact rfl
    · have hm := (if_neg q2).symm.trans hm
      by_cases q3 : p0 = 2
      · have hm := (if_pos q3).symm.trans hm
        cases hm
        exact rfl
      · have hm := (if_neg q3).symm.trans hm
        by_cases q4 : p0 = 3
        · have hm := (if_pos q4).symm.trans hm
          cases hm
          exact rfl
        · have hm := (if_neg q4).symm.trans hm
          by_cases q5 : p0 = 4
          · have hm := (if_pos q5).symm.trans hm
            cases hm
            exact rfl
          · have hm := (if_neg q5).symm.trans hm
            cases hm
            exact rfl
theorem fr_X4_tell_X7 {N n : Nat} {σ : Sg} {p0 : Int32} {r : Int32} {σ' : Sg} {c j : Nat} (hc : nt [] [] c j = true) (hm : f_X4_tell_X7 N n σ p0 = some (r, σ')) : σ' c j = σ c j := by
  unfold f_X4_tell_X7 at hm
  by_cases q1 : p0 = 0
  · have hm := (if_pos q1).symm.trans hm
    cases hm
    exact rfl
  · have hm := (if_neg q1).symm.trans hm
    by_cases q2 : p0 = 1
    · have hm := (if_pos q2).symm.trans hm
      cases hm
      exact rfl
    · have hm := (if_neg q2).symm.trans hm
      by_cases q3 : p0 = 2
      · have hm := (if_pos q3).symm.trans hm
        cases hm
        exact rfl
      · have hm := (if_neg q3).symm.trans hm
        by_cases q4 : p0 = 3
        · have hm := (if_pos q4).symm.trans hm
          cases hm
          exact rfl
        · have hm := (if_neg q4).symm.trans hm
          by_cases q5 : p0 = 4
          · have hm := (if_pos q5).symm.trans hm
            cases hm
            exact rfl
          · have hm := (if_neg q5).symm.trans hm
            cases hm
            exact rfl
theorem fr_X5_add {N n : Nat} {σ : Sg} {p0 : Int32} {p1 : Int32} {p2 : Int32} {r : Int32} {σ' : Sg} {c j : Nat} (hc : nt [14, 15, 16, 17, 18] [(13, 6)] c j = true) (hm : f_X5_add N n σ p0 p1 p2 = some (r, σ')) : σ' c j = σ c j := by
  unfold f_X5_add at hm
  obtain ⟨_, hm⟩ := gb_some hm
  obtain ⟨_, hm⟩ := gb_some hm
  obtain ⟨_, hm⟩ := gb_some hm
  obtain ⟨_, hm⟩ := gb_some hm
  obtain ⟨_, hm⟩ := gb_some hm
  cases hm
  exact ((sg_u hc (by decide)).trans ((sg_t hc (by decide)).trans ((sg_t hc (by decide)).trans ((sg_t hc (by decide)).trans ((sg_t hc (by decide)).trans ((sg_t hc (by decide)).trans rfl))))))
theorem fr_X5_addRead {N n : Nat} {σ : Sg} {p0 : Int32} {r : Int32} {σ' : Sg} {c j : Nat} (hc : nt [18, 19] [] c j = true) (hm : f_X5_addRead N n σ p0 = some (r, σ')) : σ' c j = σ c j := by
  unfold f_X5_addRead at hm
  obtain ⟨_, hm⟩ := gb_some hm
  obtain ⟨_, hm⟩ := gb_some hm
  obtain ⟨_, hm⟩ := gb_some hm
  obtain ⟨_, hm⟩ := gb_some hm
  obtain ⟨_, hm⟩ := gb_some hm
  cases hm
  exact ((sg_t hc (by decide)).trans ((sg_t hc (by decide)).trans rfl))
theorem frl_X5_addCall_13 {N n : Nat} {u2 : Int32} {u3 : Int32} {K35 : (Sg → Int32 → Option (Int32 × Sg))} {out : Int32 × Sg} {c j : Nat} (hc : nt [18, 19] [] c j = true) : ∀ (k : Nat) (σ : Sg) (v4 : Int32), lf_X5_addCall_13 N n u2 u3 K35 k σ v4 = some out → (∀ (σ : Sg) (v4 : Int32), K35 σ v4 = some out → out.2 c j = σ c j) → out.2 c j = σ c j := by
  intro k
  induction k with
  | zero => intro σ v4 hm; exact nomatch (show none = some out from hm)
  | succ k ih =>
    intro σ v4 hm hK35
    have hm : lb_X5_addCall_13 N n u2 u3 K35 (lf_X5_addCall_13 N n u2 u3 K35 k) σ v4 = some out := hm
    unfold lb_X5_addCall_13 at hm
    by_cases q1 : u3 ≤ v4
    · have hm := (if_pos q1).symm.trans hm
      exact (hK35 _ _ hm).trans rfl
    · have hm := (if_neg q1).symm.trans hm
      obtain ⟨r5, σ6, h2, hm⟩ := bd_some hm
      have e2 := (fr_X5_addRead (nt_sub hc (by decide) (by decide)) h2).trans rfl
      exact (ih _ _ hm hK35).trans e2
theorem fr_X5_addCall {N n : Nat} {σ : Sg} {p0 : Int32} {p1 : Int32} {p2 : Int32} {r : Int32} {σ' : Sg} {c j : Nat} (hc : nt [14, 15, 16, 17, 18, 19] [(13, 6)] c j = true) (hm : f_X5_addCall N n σ p0 p1 p2 = some (r, σ')) : σ' c j = σ c j := by
  unfold f_X5_addCall at hm
  obtain ⟨r1, σ2, h1, hm⟩ := bd_some hm
  have e1 := (fr_X5_add (nt_sub hc (by decide) (by decide)) h1).trans rfl
  refine (frl_X5_addCall_13 (nt_sub hc (by decide) (by decide)) N _ _ hm ?_).trans e1
  intro σ8 w9 hm
  cases hm
  exact rfl
theorem fr_X5_addReading {N n : Nat} {σ : Sg} {p0 : Int32} {p1 : Int32} {p2 : Int32} {r : Int32} {σ' : Sg} {c j : Nat} (hc : nt [14, 15, 16, 17, 18, 19] [(13, 6)] c j = true) (hm : f_X5_addReading N n σ p0 p1 p2 = some (r, σ')) : σ' c j = σ c j := by
  unfold f_X5_addReading at hm
  obtain ⟨r1, σ2, h1, hm⟩ := bd_some hm
  have e1 := (fr_X5_add (nt_sub hc (by decide) (by decide)) h1).trans rfl
  obtain ⟨r4, σ5, h2, hm⟩ := bd_some hm
  have e2 := (fr_X5_addRead (nt_sub hc (by decide) (by decide)) h2).trans e1
  cases hm
  exact e2
theorem frl_X5_aimAnew_2 {N n : Nat}  {K41 : (Sg → Int32 → Option (Int32 × Sg))} {out : Int32 × Sg} {c j : Nat} (hc : nt [16] [] c j = true) : ∀ (k : Nat) (σ : Sg) (v1 : Int32), lf_X5_aimAnew_2 N n  K41 k σ v1 = some out → (∀ (σ : Sg) (v1 : Int32), K41 σ v1 = some out → out.2 c j = σ c j) → out.2 c j = σ c j := by
  intro k
  induction k with
  | zero => intro σ v1 hm; exact nomatch (show none = some out from hm)
  | succ k ih =>
    intro σ v1 hm hK41
    have hm : lb_X5_aimAnew_2 N n  K41 (lf_X5_aimAnew_2 N n  K41 k) σ v1 = some out := hm
    unfold lb_X5_aimAnew_2 at hm
    by_cases q1 : (σ 13 6) ≤ v1
    · have hm := (if_pos q1).symm.trans hm
      exact (hK41 _ _ hm).trans rfl
    · have hm := (if_neg q1).symm.trans hm
      obtain ⟨r2, σ3, h2, hm⟩ := bd_some hm
      have e2 := (fr_X5_jumps (nt_sub hc (by decide) (by decide)) h2).trans rfl
      by_cases q3 : r2 = 0
      · have hm := (if_pos q3).symm.trans hm
        exact (ih _ _ hm hK41).trans e2
      · have hm := (if_neg q3).symm.trans hm
        obtain ⟨_, hm⟩ := gb_some hm
        obtain ⟨_, hm⟩ := gb_some hm
        obtain ⟨_, hm⟩ := gb_some hm
        exact (ih _ _ hm hK41).trans ((sg_t hc (by decide)).trans e2)
theorem fr_X5_aimAnew {N n : Nat} {σ : Sg}  {r : Int32} {σ' : Sg} {c j : Nat} (hc : nt [16] [] c j = true) (hm : f_X5_aimAnew N n σ  = some (r, σ')) : σ' c j = σ c j := by
  unfold f_X5_aimAnew at hm
  refine (frl_X5_aimAnew_2 (nt_sub hc (by decide) (by decide)) N _ _ hm ?_).trans rfl
  intro σ9 w10 hm
  cases hm
  exact rfl
theorem fr_X5_become {N n : Nat} {σ : Sg} {p1 : Int32} {p2 : Int32} {r : Int32} {σ' : Sg} {c j : Nat} (hc : nt [14, 15, 16, 17, 18, 19] [(13, 6)] c j = true) (hm : f_X5_become N n σ p1 p2 = some (r, σ')) : σ' c j = σ c j := by
  unfold f_X5_become at hm
  obtain ⟨_, hm⟩ := gb_some hm
  obtain ⟨_, hm⟩ := gb_some hm
  obtain ⟨_, hm⟩ := gb_some hm
  by_cases q1 : (σ 6 (ix p1)) = 0
  · have hm := (if_pos q1).symm.trans hm
    obtain ⟨r5, σ6, h2, hm⟩ := bd_some hm
    have e2 := (fr_X5_add (nt_sub hc (by decide) (by decide)) h2).trans rfl
    cases hm
    exact e2
  · have hm := (if_neg q1).symm.trans hm
    by_cases q3 : (σ 6 (ix p1)) = 1
    · have hm := (if_pos q3).symm.trans hm
      obtain ⟨r9, σ10, h4, hm⟩ := bd_some hm
      have e4 := (fr_X5_addReading (nt_sub hc (by decide) (by decide)) h4).trans rfl
      cases hm
      exact e4
    · have hm := (if_neg q3).symm.trans hm
      by_cases q5 : (σ 6 (ix p1)) = 2
      · have hm := (if_pos q5).symm.trans hm
        obtain ⟨r13, σ14, h6, hm⟩ := bd_some hm
        have e6 := (fr_X5_addReading (nt_sub hc (by decide) (by decide)) h6).trans rfl
        cases hm
        exact e6
      · have hm := (if_neg q5).symm.trans hm
        by_cases q7 : (σ 6 (ix p1)) = 9
        · have hm := (if_pos q7).symm.trans hm
          obtain ⟨r17, σ18, h8, hm⟩ := bd_some hm
          have e8 := (fr_X5_addReading (nt_sub hc (by decide) (by decide)) h8).trans rfl
          cases hm
          exact e8
        · have hm := (if_neg q7).symm.trans hm
          by_cases q9 : (σ 6 (ix p1)) = 10
          · have hm := (if_pos q9).symm.trans hm
            obtain ⟨r21, σ22, h10, hm⟩ := bd_some hm
            have e10 := (fr_X5_addReading (nt_sub hc (by decide) (by decide)) h10).trans rfl
            obtain ⟨r24, σ25, h11, hm⟩ := bd_some hm
            have e11 := (fr_X5_addRead (nt_sub hc (by decide) (by decide)) h11).trans e10
            cases hm
            exact e11
          · have hm := (if_neg q9).symm.trans hm
            by_cases q12 : (σ 6 (ix p1)) = 11
            · have hm := (if_pos q12).symm.trans hm
              cases hm
              exact rfl
            · have hm := (if_neg q12).symm.trans hm
              by_cases q13 : (σ 6 (ix p1)) = 12
              · have hm := (if_pos q13).symm.trans hm
                obtain ⟨r29, σ30, h14, hm⟩ := bd_some hm
                have e14 := (fr_X5_add (nt_sub hc (by decide) (by decide)) h14).trans rfl
                obtain ⟨_, hm⟩ := gb_some hm
                cases hm
                exact ((sg_t hc (by decide)).trans e14)
              · have hm := (if_neg q13).symm.trans hm
                by_cases q15 : (σ 6 (ix p1)) = 13
                · have hm := (if_pos q15).symm.trans hm
                  obtain ⟨r34, σ35, h16, hm⟩ := bd_some hm
                  have e16 := (fr_X5_addReading (nt_sub hc (by decide) (by decide)) h16).trans rfl
                  obtain ⟨_, hm⟩ := gb_some hm
                  cases hm
                  exact ((sg_t hc (by decide)).trans e16)
                · have hm := (if_neg q15).symm.trans hm
                  by_cases q17 : (σ 6 (ix p1)) = 14
                  · have hm := (if_pos q17).symm.trans hm
                    obtain ⟨_, hm⟩ := gb_some hm
                    obtain ⟨r40, σ41, h18, hm⟩ := bd_some hm
                    have e18 := (fr_X5_addCall (nt_sub hc (by decide) (by decide)) h18).trans rfl
                    cases hm
                    exact e18
                  · have hm := (if_neg q17).symm.trans hm
                    by_cases q19 : (σ 6 (ix p1)) = 15
                    · have hm := (if_pos q19).symm.trans hm
                      obtain ⟨r44, σ45, h20, hm⟩ := bd_some hm
                      have e20 := (fr_X5_addReading (nt_sub hc (by decide) (by decide)) h20).trans rfl
                      cases hm
                      exact e20
                    · have hm := (if_neg q19).symm.trans hm
                      by_cases q21 : (σ 6 (ix p1)) = 16
                      · have hm := (if_pos q21).symm.trans hm
                        obtain ⟨r48, σ49, h22, hm⟩ := bd_some hm
                        have e22 := (fr_X5_addReading (nt_sub hc (by decide) (by decide)) h22).trans rfl
                        cases hm
                        exact e22
                      · have hm := (if_neg q21).symm.trans hm
                        by_cases q23 : (σ 6 (ix p1)) = 17
                        · have hm := (if_pos q23).symm.trans hm
                          obtain ⟨r52, σ53, h24, hm⟩ := bd_some hm
                          have e24 := (fr_X5_addReading (nt_sub hc (by decide) (by decide)) h24).trans rfl
                          obtain ⟨r55, σ56, h25, hm⟩ := bd_some hm
                          have e25 := (fr_X5_addRead (nt_sub hc (by decide) (by decide)) h25).trans e24
                          cases hm
                          exact e25
                        · have hm := (if_neg q23).symm.trans hm
                          obtain ⟨_, hm⟩ := gb_some hm
                          obtain ⟨r59, σ60, h26, hm⟩ := bd_some hm
                          have e26 := (fr_X5_add (nt_sub hc (by decide) (by decide)) h26).trans rfl
                          obtain ⟨r62, σ63, h27, hm⟩ := bd_some hm
                          have e27 := (fr_X5_addRead (nt_sub hc (by decide) (by decide)) h27).trans e26
                          obtain ⟨r65, σ66, h28, hm⟩ := bd_some hm
                          have e28 := (fr_X5_addRead (nt_sub hc (by decide) (by decide)) h28).trans e27
                          cases hm
                          exact e28
theorem frl_X5_build_15 {N n : Nat} {u2 : Int32} {u3 : Int32} {K71 : (Sg → Int32 → Option (Int32 × Sg))} {out : Int32 × Sg} {c j : Nat} (hc : nt [14, 15, 16, 17, 18, 19, 26] [(13, 6)] c j = true) : ∀ (k : Nat) (σ : Sg) (v4 : Int32), lf_X5_build_15 N n u2 u3 K71 k σ v4 = some out → (∀ (σ : Sg) (v4 : Int32), K71 σ v4 = some out → out.2 c j = σ c j) → out.2 c j = σ c j := by
  intro k
  induction k with
  | zero => intro σ v4 hm; exact nomatch (show none = some out from hm)
  | succ k ih =>
    intro σ v4 hm hK71
    have hm : lb_X5_build_15 N n u2 u3 K71 (lf_X5_build_15 N n u2 u3 K71 k) σ v4 = some out := hm
    unfold lb_X5_build_15 at hm
    obtain ⟨_, hm⟩ := gb_some hm
    by_cases q1 : (σ 5 (ix u2)) ≤ v4
    · have hm := (if_pos q1).symm.trans hm
      exact (hK71 _ _ hm).trans rfl
    · have hm := (if_neg q1).symm.trans hm
      obtain ⟨_, hm⟩ := gb_some hm
      obtain ⟨_, hm⟩ := gb_some hm
      by_cases q2 : (σ 8 (ix (u3 + v4))) = (-1)
      · have hm := (if_pos q2).symm.trans hm
        exact (ih _ _ hm hK71).trans ((sg_t hc (by decide)).trans rfl)
      · have hm := (if_neg q2).symm.trans hm
        obtain ⟨_, hm⟩ := gb_some hm
        obtain ⟨r8, σ9, h3, hm⟩ := bd_some hm
        have e3 := (fr_X5_become (nt_sub hc (by decide) (by decide)) h3).trans ((sg_t hc (by decide)).trans rfl)
        exact (ih _ _ hm hK71).trans e3
theorem fr_X5_build {N n : Nat} {σ : Sg} {p1 : Int32} {r : Int32} {σ' : Sg} {c j : Nat} (hc : nt [14, 15, 16, 17, 18, 19, 26] [(13, 6)] c j = true) (hm : f_X5_build N n σ p1 = some (r, σ')) : σ' c j = σ c j := by
  unfold f_X5_build at hm
  obtain ⟨_, hm⟩ := gb_some hm
  refine (frl_X5_build_15 (nt_sub hc (by decide) (by decide)) N _ _ hm ?_).trans ((sg_u hc (by decide)).trans rfl)
  intro σ11 w12 hm
  obtain ⟨r13, σ14, h1, hm⟩ := bd_some hm
  have e1 := (fr_X5_aimAnew (nt_sub hc (by decide) (by decide)) h1).trans rfl
  cases hm
  exact e1
theorem frl_X5_copyPlace_62 {N n : Nat} {u1 : Int32} {u2 : Int32} {K94 : (Sg → Int32 → Option (Int32 × Sg))} {out : Int32 × Sg} {c j : Nat} (hc : nt [19] [] c j = true) : ∀ (k : Nat) (σ : Sg) (v3 : Int32), lf_X5_copyPlace_62 N n u1 u2 K94 k σ v3 = some out → (∀ (σ : Sg) (v3 : Int32), K94 σ v3 = some out → out.2 c j = σ c j) → out.2 c j = σ c j := by
  intro k
  induction k with
  | zero => intro σ v3 hm; exact nomatch (show none = some out from hm)
  | succ k ih =>
    intro σ v3 hm hK94
    have hm : lb_X5_copyPlace_62 N n u1 u2 K94 (lf_X5_copyPlace_62 N n u1 u2 K94 k) σ v3 = some out := hm
    unfold lb_X5_copyPlace_62 at hm
    obtain ⟨_, hm⟩ := gb_some hm
    by_cases q1 : (σ 18 (ix u1)) ≤ v3
    · have hm := (if_pos q1).symm.trans hm
      exact (hK94 _ _ hm).trans rfl
    · have hm := (if_neg q1).symm.trans hm
      obtain ⟨_, hm⟩ := gb_some hm
      obtain ⟨_, hm⟩ := gb_some hm
      obtain ⟨_, hm⟩ := gb_some hm
      obtain ⟨_, hm⟩ := gb_some hm
      exact (ih _ _ hm hK94).trans ((sg_t hc (by decide)).trans rfl)
theorem fr_X5_copyPlace {N n : Nat} {σ : Sg} {p0 : Int32} {p1 : Int32} {r : Int32} {σ' : Sg} {c j : Nat} (hc : nt [14, 15, 16, 17, 18, 19] [] c j = true) (hm : f_X5_copyPlace N n σ p0 p1 = some (r, σ')) : σ' c j = σ c j := by
  unfold f_X5_copyPlace at hm
  obtain ⟨_, hm⟩ := gb_some hm
  obtain ⟨_, hm⟩ := gb_some hm
  obtain ⟨_, hm⟩ := gb_some hm
  obtain ⟨_, hm⟩ := gb_some hm
  obtain ⟨_, hm⟩ := gb_some hm
  obtain ⟨_, hm⟩ := gb_some hm
  obtain ⟨_, hm⟩ := gb_some hm
  obtain ⟨_, hm⟩ := gb_some hm
  obtain ⟨_, hm⟩ := gb_some hm
  obtain ⟨_, hm⟩ := gb_some hm
  refine (frl_X5_copyPlace_62 (nt_sub hc (by decide) (by decide)) N _ _ hm ?_).trans ((sg_t hc (by decide)).trans ((sg_t hc (by decide)).trans ((sg_t hc (by decide)).trans ((sg_t hc (by decide)).trans ((sg_t hc (by decide)).trans rfl)))))
  intro σ17 w18 hm
  cases hm
  exact rfl
theorem fr_X5_isUseless {N n : Nat} {σ : Sg} {p0 : Int32} {r : Int32} {σ' : Sg} {c j : Nat} (hc : nt [] [] c j = true) (hm : f_X5_isUseless N n σ p0 = some (r, σ')) : σ' c j = σ c j := by
  unfold f_X5_isUseless at hm
  obtain ⟨_, hm⟩ := gb_some hm
  by_cases q1 : (σ 14 (ix p0)) = 0
  · have hm := (if_pos q1).symm.trans hm
    obtain ⟨_, hm⟩ := gb_some hm
    by_cases q2 : (σ 14 (ix p0)) = 1
    · have hm := (if_pos q2).symm.trans hm
      obtain ⟨_, hm⟩ := gb_some hm
      obtain ⟨_, hm⟩ := gb_some hm
      obtain ⟨_, hm⟩ := gb_some hm
      by_cases q3 : (σ 17 (ix p0)) = (σ 19 (ix p0 * 6 + ix 0))
      · have hm := (if_pos q3).symm.trans hm
        cases hm
        exact rfl
      · have hm := (if_neg q3).symm.trans hm
        obtain ⟨_, hm⟩ := gb_some hm
        obtain ⟨_, hm⟩ := gb_some hm
        by_cases q4 : (((σ 31 (ix p0)) >>> ((σ 17 (ix p0)) &&& 31)) &&& 1) = 0
        · have hm := (if_pos q4).symm.trans hm
          cases hm
          exact rfl
        · have hm := (if_neg q4).symm.trans hm
          cases hm
          exact rfl
    · have hm := (if_neg q2).symm.trans hm
      obtain ⟨_, hm⟩ := gb_some hm
      obtain ⟨_, hm⟩ := gb_some hm
      by_cases q5 : (((σ 31 (ix p0)) >>> ((σ 17 (ix p0)) &&& 31)) &&& 1) = 0
      · have hm := (if_pos q5).symm.trans hm
        cases hm
        exact rfl
      · have hm := (if_neg q5).symm.trans hm
        cases hm
        exact rfl
  · have hm := (if_neg q1).symm.trans hm
    obtain ⟨_, hm⟩ := gb_some hm
    by_cases q6 : (σ 14 (ix p0)) = 1
    · have hm := (if_pos q6).symm.trans hm
      obtain ⟨_, hm⟩ := gb_some hm
      obtain ⟨_, hm⟩ := gb_some hm
      obtain ⟨_, hm⟩ := gb_some hm
      obtain ⟨_, hm⟩ := gb_some hm
      by_cases q7 : (σ 17 (ix p0)) = (σ 19 (ix p0 * 6 + ix 0))
      · have hm := (if_pos q7).symm.trans hm
        cases hm
        exact rfl
      · have hm := (if_neg q7).symm.trans hm
        obtain ⟨_, hm⟩ := gb_some hm
        obtain ⟨_, hm⟩ := gb_some hm
        by_cases q8 : (((σ 31 (ix p0)) >>> ((σ 17 (ix p0)) &&& 31)) &&& 1) = 0
        · have hm := (if_pos q8).symm.trans hm
          cases hm
          exact rfl
        · have hm := (if_neg q8).symm.trans hm
          cases hm
          exact rfl
    · have hm := (if_neg q6).symm.trans hm
      cases hm
      exact rfl
theorem frl_X5_dropUseless_4 {N n : Nat}  {K43 : (Sg → Int32 → Int32 → Option (Int32 × Sg))} {out : Int32 × Sg} {c j : Nat} (hc : nt [14, 15, 16, 17, 18, 19, 26] [] c j = true) : ∀ (k : Nat) (σ : Sg) (v2 : Int32) (v3 : Int32), lf_X5_dropUseless_4 N n  K43 k σ v2 v3 = some out → (∀ (σ : Sg) (v2 : Int32) (v3 : Int32), K43 σ v2 v3 = some out → out.2 c j = σ c j) → out.2 c j = σ c j := by
  intro k
  induction k with
  | zero => intro σ v2 v3 hm; exact nomatch (show none = some out from hm)
  | succ k ih =>
    intro σ v2 v3 hm hK43
    have hm : lb_X5_dropUseless_4 N n  K43 (lf_X5_dropUseless_4 N n  K43 k) σ v2 v3 = some out := hm
    unfold lb_X5_dropUseless_4 at hm
    by_cases q1 : (σ 13 6) ≤ v3
    · have hm := (if_pos q1).symm.trans hm
      exact (hK43 _ _ _ hm).trans rfl
    · have hm := (if_neg q1).symm.trans hm
      obtain ⟨_, hm⟩ := gb_some hm
      obtain ⟨r3, σ4, h2, hm⟩ := bd_some hm
      have e2 := (fr_X5_isUseless (nt_sub hc (by decide) (by decide)) h2).trans ((sg_t hc (by decide)).trans rfl)
      by_cases q3 : r3 = 0
      · have hm := (if_pos q3).symm.trans hm
        obtain ⟨r7, σ8, h4, hm⟩ := bd_some hm
        have e4 := (fr_X5_copyPlace (nt_sub hc (by decide) (by decide)) h4).trans e2
        exact (ih _ _ _ hm hK43).trans e4
      · have hm := (if_neg q3).symm.trans hm
        exact (ih _ _ _ hm hK43).trans e2
theorem fr_X5_dropUseless {N n : Nat} {σ : Sg}  {r : Int32} {σ' : Sg} {c j : Nat} (hc : nt [14, 15, 16, 17, 18, 19, 26] [(13, 6)] c j = true) (hm : f_X5_dropUseless N n σ  = some (r, σ')) : σ' c j = σ c j := by
  unfold f_X5_dropUseless at hm
  refine (frl_X5_dropUseless_4 (nt_sub hc (by decide) (by decide)) N _ _ _ hm ?_).trans rfl
  intro σ10 w11 w12 hm
  by_cases q1 : (σ10 13 6) ≤ w11
  · have hm := (if_pos q1).symm.trans hm
    obtain ⟨r14, σ15, h2, hm⟩ := bd_some hm
    have e2 := (fr_X5_aimAnew (nt_sub hc (by decide) (by decide)) h2).trans ((sg_u hc (by decide)).trans rfl)
    cases hm
    exact e2
  · have hm := (if_neg q1).symm.trans hm
    obtain ⟨r17, σ18, h3, hm⟩ := bd_some hm
    have e3 := (fr_X5_aimAnew (nt_sub hc (by decide) (by decide)) h3).trans ((sg_u hc (by decide)).trans rfl)
    cases hm
    exact e3
theorem frl_X5_forgetWritten_2 {N n : Nat} {u1 : Int32} {K62 : (Sg → Int32 → Option (Int32 × Sg))} {out : Int32 × Sg} {c j : Nat} (hc : nt [28] [] c j = true) : ∀ (k : Nat) (σ : Sg) (v2 : Int32), lf_X5_forgetWritten_2 N n u1 K62 k σ v2 = some out → (∀ (σ : Sg) (v2 : Int32), K62 σ v2 = some out → out.2 c j = σ c j) → out.2 c j = σ c j := by
  intro k
  induction k with
  | zero => intro σ v2 hm; exact nomatch (show none = some out from hm)
  | succ k ih =>
    intro σ v2 hm hK62
    have hm : lb_X5_forgetWritten_2 N n u1 K62 (lf_X5_forgetWritten_2 N n u1 K62 k) σ v2 = some out := hm
    unfold lb_X5_forgetWritten_2 at hm
    by_cases q1 : 22 ≤ v2
    · have hm := (if_pos q1).symm.trans hm
      exact (hK62 _ _ hm).trans rfl
    · have hm := (if_neg q1).symm.trans hm
      by_cases q2 : ((u1 >>> (v2 &&& 31)) &&& 1) = 0
      · have hm := (if_pos q2).symm.trans hm
        obtain ⟨_, hm⟩ := gb_some hm
        by_cases q3 : (σ 28 (ix v2)) = (-1)
        · have hm := (if_pos q3).symm.trans hm
          exact (ih _ _ hm hK62).trans rfl
        · have hm := (if_neg q3).symm.trans hm
          obtain ⟨_, hm⟩ := gb_some hm
          by_cases q4 : ((u1 >>> ((σ 28 (ix v2)) &&& 31)) &&& 1) = 0
          · have hm := (if_pos q4).symm.trans hm
            exact (ih _ _ hm hK62).trans rfl
          · have hm := (if_neg q4).symm.trans hm
            obtain ⟨_, hm⟩ := gb_some hm
            exact (ih _ _ hm hK62).trans ((sg_t hc (by decide)).trans rfl)
      · have hm := (if_neg q2).symm.trans hm
        obtain ⟨_, hm⟩ := gb_some hm
        exact (ih _ _ hm hK62).trans ((sg_t hc (by decide)).trans rfl)
theorem fr_X5_forgetWritten {N n : Nat} {σ : Sg} {p0 : Int32} {r : Int32} {σ' : Sg} {c j : Nat} (hc : nt [28] [] c j = true) (hm : f_X5_forgetWritten N n σ p0 = some (r, σ')) : σ' c j = σ c j := by
  unfold f_X5_forgetWritten at hm
  refine (frl_X5_forgetWritten_2 (nt_sub hc (by decide) (by decide)) N _ _ hm ?_).trans rfl
  intro σ9 w10 hm
  cases hm
  exact rfl
theorem frl_X5_markBlockStarts_2 {N n : Nat}  {K54 : (Sg → Int32 → Option (Int32 × Sg))} {out : Int32 × Sg} {c j : Nat} (hc : nt [27] [] c j = true) : ∀ (k : Nat) (σ : Sg) (v1 : Int32), lf_X5_markBlockStarts_2 N n  K54 k σ v1 = some out → (∀ (σ : Sg) (v1 : Int32), K54 σ v1 = some out → out.2 c j = σ c j) → out.2 c j = σ c j := by
  intro k
  induction k with
  | zero => intro σ v1 hm; exact nomatch (show none = some out from hm)
  | succ k ih =>
    intro σ v1 hm hK54
    have hm : lb_X5_markBlockStarts_2 N n  K54 (lf_X5_markBlockStarts_2 N n  K54 k) σ v1 = some out := hm
    unfold lb_X5_markBlockStarts_2 at hm
    by_cases q1 : (σ 13 6) ≤ v1
    · have hm := (if_pos q1).symm.trans hm
      exact (hK54 _ _ hm).trans rfl
    · have hm := (if_neg q1).symm.trans hm
      by_cases q2 : v1 = 0
      · have hm := (if_pos q2).symm.trans hm
        obtain ⟨_, hm⟩ := gb_some hm
        exact (ih _ _ hm hK54).trans ((sg_t hc (by decide)).trans rfl)
      · have hm := (if_neg q2).symm.trans hm
        obtain ⟨r4, σ5, h3, hm⟩ := bd_some hm
        have e3 := (fr_X5_jumps (nt_sub hc (by decide) (by decide)) h3).trans rfl
        by_cases q4 : r4 = 0
        · have hm := (if_pos q4).symm.trans hm
          obtain ⟨_, hm⟩ := gb_some hm
          by_cases q5 : (σ5 14 (ix (v1 - 1))) = 6
          · have hm := (if_pos q5).symm.trans hm
            obtain ⟨_, hm⟩ := gb_some hm
            exact (ih _ _ hm hK54).trans ((sg_t hc (by decide)).trans e3)
          · have hm := (if_neg q5).symm.trans hm
            obtain ⟨_, hm⟩ := gb_some hm
            exact (ih _ _ hm hK54).trans ((sg_t hc (by decide)).trans e3)
        · have hm := (if_neg q4).symm.trans hm
          obtain ⟨_, hm⟩ := gb_some hm
          exact (ih _ _ hm hK54).trans ((sg_t hc (by decide)).trans e3)
theorem frl_X5_markBlockStarts_56 {N n : Nat}  {K90 : (Sg → Int32 → Option (Int32 × Sg))} {out : Int32 × Sg} {c j : Nat} (hc : nt [27] [] c j = true) : ∀ (k : Nat) (σ : Sg) (v1 : Int32), lf_X5_markBlockStarts_56 N n  K90 k σ v1 = some out → (∀ (σ : Sg) (v1 : Int32), K90 σ v1 = some out → out.2 c j = σ c j) → out.2 c j = σ c j := by
  intro k
  induction k with
  | zero => intro σ v1 hm; exact nomatch (show none = some out from hm)
  | succ k ih =>
    intro σ v1 hm hK90
    have hm : lb_X5_markBlockStarts_56 N n  K90 (lf_X5_markBlockStarts_56 N n  K90 k) σ v1 = some out := hm
    unfold lb_X5_markBlockStarts_56 at hm
    by_cases q1 : (σ 13 6) ≤ v1
    · have hm := (if_pos q1).symm.trans hm
      exact (hK90 _ _ hm).trans rfl
    · have hm := (if_neg q1).symm.trans hm
      obtain ⟨r16, σ17, h2, hm⟩ := bd_some hm
      have e2 := (fr_X5_jumps (nt_sub hc (by decide) (by decide)) h2).trans rfl
      by_cases q3 : r16 = 0
      · have hm := (if_pos q3).symm.trans hm
        exact (ih _ _ hm hK90).trans e2
      · have hm := (if_neg q3).symm.trans hm
        obtain ⟨_, hm⟩ := gb_some hm
        obtain ⟨_, hm⟩ := gb_some hm
        exact (ih _ _ hm hK90).trans ((sg_t hc (by decide)).trans e2)
theorem fr_X5_markBlockStarts {N n : Nat} {σ : Sg}  {r : Int32} {σ' : Sg} {c j : Nat} (hc : nt [27] [] c j = true) (hm : f_X5_markBlockStarts N n σ  = some (r, σ')) : σ' c j = σ c j := by
  unfold f_X5_markBlockStarts at hm
  refine (frl_X5_markBlockStarts_2 (nt_sub hc (by decide) (by decide)) N _ _ hm ?_).trans rfl
  intro σ13 w14 hm
  refine (frl_X5_markBlockStarts_56 (nt_sub hc (by decide) (by decide)) N _ _ hm ?_).trans rfl
  intro σ22 w23 hm
  cases hm
  exact rfl
theorem frl_X5_forwardReads_13 {N n : Nat} {u1 : Int32} {K57 : (Sg → Int32 → Option (Int32 × Sg))} {out : Int32 × Sg} {c j : Nat} (hc : nt [19] [] c j = true) : ∀ (k : Nat) (σ : Sg) (v2 : Int32), lf_X5_forwardReads_13 N n u1 K57 k σ v2 = some out → (∀ (σ : Sg) (v2 : Int32), K57 σ v2 = some out → out.2 c j = σ c j) → out.2 c j = σ c j := by
  intro k
  induction k with
  | zero => intro σ v2 hm; exact nomatch (show none = some out from hm)
  | succ k ih =>
    intro σ v2 hm hK57
    have hm : lb_X5_forwardReads_13 N n u1 K57 (lf_X5_forwardReads_13 N n u1 K57 k) σ v2 = some out := hm
    unfold lb_X5_forwardReads_13 at hm
    obtain ⟨_, hm⟩ := gb_some hm
    by_cases q1 : (σ 18 (ix u1)) ≤ v2
    · have hm := (if_pos q1).symm.trans hm
      exact (hK57 _ _ hm).trans rfl
    · have hm := (if_neg q1).symm.trans hm
      obtain ⟨_, hm⟩ := gb_some hm
      obtain ⟨_, hm⟩ := gb_some hm
      obtain ⟨_, hm⟩ := gb_some hm
      by_cases q2 : (σ 28 (ix (σ 19 (ix u1 * 6 + ix v2)))) = (-1)
      · have hm := (if_pos q2).symm.trans hm
        exact (ih _ _ hm hK57).trans rfl
      · have hm := (if_neg q2).symm.trans hm
        obtain ⟨_, hm⟩ := gb_some hm
        obtain ⟨_, hm⟩ := gb_some hm
        exact (ih _ _ hm hK57).trans ((sg_t hc (by decide)).trans rfl)
theorem fr_X5_forwardReads {N n : Nat} {σ : Sg} {p0 : Int32} {r : Int32} {σ' : Sg} {c j : Nat} (hc : nt [19] [] c j = true) (hm : f_X5_forwardReads N n σ p0 = some (r, σ')) : σ' c j = σ c j := by
  unfold f_X5_forwardReads at hm
  obtain ⟨_, hm⟩ := gb_some hm
  by_cases q1 : (σ 14 (ix p0)) = 3
  · have hm := (if_pos q1).symm.trans hm
    cases hm
    exact rfl
  · have hm := (if_neg q1).symm.trans hm
    refine (frl_X5_forwardReads_13 (nt_sub hc (by decide) (by decide)) N _ _ hm ?_).trans rfl
    intro σ11 w12 hm
    cases hm
    exact rfl
theorem frl_X5_forward_6 {N n : Nat}  {K97 : (Sg → Int32 → Option (Int32 × Sg))} {out : Int32 × Sg} {c j : Nat} (hc : nt [19, 28] [] c j = true) : ∀ (k : Nat) (σ : Sg) (v1 : Int32), lf_X5_forward_6 N n  K97 k σ v1 = some out → (∀ (σ : Sg) (v1 : Int32), K97 σ v1 = some out → out.2 c j = σ c j) → out.2 c j = σ c j := by
  intro k
  induction k with
  | zero => intro σ v1 hm; exact nomatch (show none = some out from hm)
  | succ k ih =>
    intro σ v1 hm hK97
    have hm : lb_X5_forward_6 N n  K97 (lf_X5_forward_6 N n  K97 k) σ v1 = some out := hm
    unfold lb_X5_forward_6 at hm
    by_cases q1 : (σ 13 6) ≤ v1
    · have hm := (if_pos q1).symm.trans hm
      exact (hK97 _ _ hm).trans rfl
    · have hm := (if_neg q1).symm.trans hm
      obtain ⟨_, hm⟩ := gb_some hm
      by_cases q2 : (σ 27 (ix v1)) = 0
      · have hm := (if_pos q2).symm.trans hm
        obtain ⟨r7, σ8, h3, hm⟩ := bd_some hm
        have e3 := (fr_X5_forwardReads (nt_sub hc (by decide) (by decide)) h3).trans rfl
        obtain ⟨r10, σ11, h4, hm⟩ := bd_some hm
        have e4 := (fr_X5_writtenSet (nt_sub hc (by decide) (by decide)) h4).trans e3
        obtain ⟨r13, σ14, h5, hm⟩ := bd_some hm
        have e5 := (fr_X5_forgetWritten (nt_sub hc (by decide) (by decide)) h5).trans e4
        obtain ⟨_, hm⟩ := gb_some hm
        by_cases q6 : (σ14 14 (ix v1)) = 1
        · have hm := (if_pos q6).symm.trans hm
          obtain ⟨_, hm⟩ := gb_some hm
          obtain ⟨_, hm⟩ := gb_some hm
          obtain ⟨_, hm⟩ := gb_some hm
          by_cases q7 : (σ14 17 (ix v1)) = (σ14 19 (ix v1 * 6 + ix 0))
          · have hm := (if_pos q7).symm.trans hm
            exact (ih _ _ hm hK97).trans e5
          · have hm := (if_neg q7).symm.trans hm
            obtain ⟨_, hm⟩ := gb_some hm
            obtain ⟨_, hm⟩ := gb_some hm
            obtain ⟨_, hm⟩ := gb_some hm
            obtain ⟨_, hm⟩ := gb_some hm
            exact (ih _ _ hm hK97).trans ((sg_t hc (by decide)).trans e5)
        · have hm := (if_neg q6).symm.trans hm
          exact (ih _ _ hm hK97).trans e5
      · have hm := (if_neg q2).symm.trans hm
        obtain ⟨r26, σ27, h8, hm⟩ := bd_some hm
        have e8 := (fr_J7_fill_53178_28 (nt_sub hc (by decide) (by decide)) h8).trans rfl
        obtain ⟨r29, σ30, h9, hm⟩ := bd_some hm
        have e9 := (fr_X5_forwardReads (nt_sub hc (by decide) (by decide)) h9).trans e8
        obtain ⟨r32, σ33, h10, hm⟩ := bd_some hm
        have e10 := (fr_X5_writtenSet (nt_sub hc (by decide) (by decide)) h10).trans e9
        obtain ⟨r35, σ36, h11, hm⟩ := bd_some hm
        have e11 := (fr_X5_forgetWritten (nt_sub hc (by decide) (by decide)) h11).trans e10
        obtain ⟨_, hm⟩ := gb_some hm
        by_cases q12 : (σ36 14 (ix v1)) = 1
        · have hm := (if_pos q12).symm.trans hm
          obtain ⟨_, hm⟩ := gb_some hm
          obtain ⟨_, hm⟩ := gb_some hm
          obtain ⟨_, hm⟩ := gb_some hm
          by_cases q13 : (σ36 17 (ix v1)) = (σ36 19 (ix v1 * 6 + ix 0))
          · have hm := (if_pos q13).symm.trans hm
            exact (ih _ _ hm hK97).trans e11
          · have hm := (if_neg q13).symm.trans hm
            obtain ⟨_, hm⟩ := gb_some hm
            obtain ⟨_, hm⟩ := gb_some hm
            obtain ⟨_, hm⟩ := gb_some hm
            obtain ⟨_, hm⟩ := gb_some hm
            exact (ih _ _ hm hK97).trans ((sg_t hc (by decide)).trans e11)
        · have hm := (if_neg q12).symm.trans hm
          exact (ih _ _ hm hK97).trans e11
theorem fr_X5_forward {N n : Nat} {σ : Sg}  {r : Int32} {σ' : Sg} {c j : Nat} (hc : nt [19, 27, 28] [] c j = true) (hm : f_X5_forward N n σ  = some (r, σ')) : σ' c j = σ c j := by
  unfold f_X5_forward at hm
  obtain ⟨r1, σ2, h1, hm⟩ := bd_some hm
  have e1 := (fr_X5_markBlockStarts (nt_sub hc (by decide) (by decide)) h1).trans rfl
  refine (frl_X5_forward_6 (nt_sub hc (by decide) (by decide)) N _ _ hm ?_).trans e1
  intro σ48 w49 hm
  cases hm
  exact rfl
theorem fr_X9_begin {N n : Nat} {σ : Sg} {p0 : Int32} {r : Int32} {σ' : Sg} {c j : Nat} (hc : nt [] [(11, 7), (39, 2)] c j = true) (hm : f_X9_begin N n σ p0 = some (r, σ')) : σ' c j = σ c j := by
  unfold f_X9_begin at hm
  cases hm
  exact ((sg_u hc (by decide)).trans ((sg_u hc (by decide)).trans rfl))
theorem frl_X9_leaveOut_12 {N n : Nat} {u1 : Int32} {K49 : (Sg → Int32 → Option (Int32 × Sg))} {out : Int32 × Sg} {c j : Nat} (hc : nt [14, 15, 16, 17, 18, 19, 26, 30, 31] [(13, 6)] c j = true) : ∀ (k : Nat) (σ : Sg) (v2 : Int32), lf_X9_leaveOut_12 N n u1 K49 k σ v2 = some out → (∀ (σ : Sg) (v2 : Int32), K49 σ v2 = some out → out.2 c j = σ c j) → out.2 c j = σ c j := by
  intro k
  induction k with
  | zero => intro σ v2 hm; exact nomatch (show none = some out from hm)
  | succ k ih =>
    intro σ v2 hm hK49
    have hm : lb_X9_leaveOut_12 N n u1 K49 (lf_X9_leaveOut_12 N n u1 K49 k) σ v2 = some out := hm
    unfold lb_X9_leaveOut_12 at hm
    by_cases q1 : u1 ≤ v2
    · have hm := (if_pos q1).symm.trans hm
      exact (hK49 _ _ hm).trans rfl
    · have hm := (if_neg q1).symm.trans hm
      obtain ⟨r2, σ3, h2, hm⟩ := bd_some hm
      have e2 := (fr_X3_find (nt_sub hc (by decide) (by decide)) h2).trans rfl
      obtain ⟨r5, σ6, h3, hm⟩ := bd_some hm
      have e3 := (fr_X5_dropUseless (nt_sub hc (by decide) (by decide)) h3).trans e2
      by_cases q4 : r5 = 0
      · have hm := (if_pos q4).symm.trans hm
        cases hm
        exact e3
      · have hm := (if_neg q4).symm.trans hm
        exact (ih _ _ hm hK49).trans e3
theorem fr_X9_leaveOut {N n : Nat} {σ : Sg}  {r : Int32} {σ' : Sg} {c j : Nat} (hc : nt [14, 15, 16, 17, 18, 19, 26, 30, 31] [(13, 6)] c j = true) (hm : f_X9_leaveOut N n σ  = some (r, σ')) : σ' c j = σ c j := by
  unfold f_X9_leaveOut at hm
  refine (frl_X9_leaveOut_12 (nt_sub hc (by decide) (by decide)) N _ _ hm ?_).trans rfl
  intro σ9 w10 hm
  cases hm
  exact rfl
theorem fr_X11_look {N n : Nat} {σ : Sg} {p0 : Int32} {p1 : Int32} {r : Int32} {σ' : Sg} {c j : Nat} (hc : nt [] [] c j = true) (hm : f_X11_look N n σ p0 p1 = some (r, σ')) : σ' c j = σ c j := by
  unfold f_X11_look at hm
  by_cases q1 : p0 < 0
  · have hm := (if_pos q1).symm.trans hm
    cases hm
    exact rfl
  · have hm := (if_neg q1).symm.trans hm
    by_cases q2 : p0 ≤ 1
    · have hm := (if_pos q2).symm.trans hm
      by_cases q3 : p0 = 0
      · have hm := (if_pos q3).symm.trans hm
        obtain ⟨r4, σ5, h4, hm⟩ := bd_some hm
        have e4 := (fr_X4_tell_X8 (nt_sub hc (by decide) (by decide)) h4).trans rfl
        cases hm
        exact e4
      · have hm := (if_neg q3).symm.trans hm
        obtain ⟨r7, σ8, h5, hm⟩ := bd_some hm
        have e5 := (fr_X4_tell_X7 (nt_sub hc (by decide) (by decide)) h5).trans rfl
        cases hm
        exact e5
    · have hm := (if_neg q2).symm.trans hm
      cases hm
      exact rfl
theorem fr_X11_op {N n : Nat} {σ : Sg} {p0 : Int32} {p1 : Int32} {p2 : Int32} {r : Int32} {σ' : Sg} {c j : Nat} (hc : nt [] [] c j = true) (hm : f_X11_op N n σ p0 p1 p2 = some (r, σ')) : σ' c j = σ c j := by
  unfold f_X11_op at hm
  obtain ⟨r1, σ2, h1, hm⟩ := bd_some hm
  have e1 := (fr_X11_isTurned (nt_sub hc (by decide) (by decide)) h1).trans rfl
  by_cases q2 : r1 = 0
  · have hm := (if_pos q2).symm.trans hm
    exact nomatch hm
  · have hm := (if_neg q2).symm.trans hm
    by_cases q3 : p1 < 0
    · have hm := (if_pos q3).symm.trans hm
      exact nomatch hm
    · have hm := (if_neg q3).symm.trans hm
      obtain ⟨_, hm⟩ := gb_some hm
      by_cases q4 : p1 < (σ2 41 (ix p0))
      · have hm := (if_pos q4).symm.trans hm
        by_cases q5 : p2 < 0
        · have hm := (if_pos q5).symm.trans hm
          exact nomatch hm
        · have hm := (if_neg q5).symm.trans hm
          by_cases q6 : p2 < 5
          · have hm := (if_pos q6).symm.trans hm
            obtain ⟨r10, σ11, h7, hm⟩ := bd_some hm
            have e7 := (fr_X1_part (nt_sub hc (by decide) (by decide)) h7).trans e1
            cases hm
            exact e7
          · have hm := (if_neg q6).symm.trans hm
            exact nomatch hm
      · have hm := (if_neg q4).symm.trans hm
        exact nomatch hm
theorem fr_X11_peek {N n : Nat} {σ : Sg} {p0 : Int32} {p1 : Int32} {r : Int32} {σ' : Sg} {c j : Nat} (hc : nt [] [] c j = true) (hm : f_X11_peek N n σ p0 p1 = some (r, σ')) : σ' c j = σ c j := by
  unfold f_X11_peek at hm
  by_cases q1 : p0 < 0
  · have hm := (if_pos q1).symm.trans hm
    exact nomatch hm
  · have hm := (if_neg q1).symm.trans hm
    by_cases q2 : 1 < p0
    · have hm := (if_pos q2).symm.trans hm
      exact nomatch hm
    · have hm := (if_neg q2).symm.trans hm
      by_cases q3 : p1 < 0
      · have hm := (if_pos q3).symm.trans hm
        exact nomatch hm
      · have hm := (if_neg q3).symm.trans hm
        by_cases q4 : p1 < 64
        · have hm := (if_pos q4).symm.trans hm
          by_cases q5 : p0 = 0
          · have hm := (if_pos q5).symm.trans hm
            obtain ⟨_, hm⟩ := gb_some hm
            cases hm
            exact rfl
          · have hm := (if_neg q5).symm.trans hm
            obtain ⟨_, hm⟩ := gb_some hm
            cases hm
            exact rfl
        · have hm := (if_neg q4).symm.trans hm
          exact nomatch hm
