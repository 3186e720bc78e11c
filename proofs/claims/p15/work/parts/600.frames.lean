/-- neither one of these cells nor one of these fields -/
def nt (T : List Nat) (Fs : List (Nat × Nat)) (c j : Nat) : Bool := T.all (fun d => !(Nat.beq c d)) && Fs.all (fun p => !(Nat.beq c p.1 && Nat.beq j p.2))
theorem nt_sub {T T2 : List Nat} {Fs Fs2 : List (Nat × Nat)} {c j : Nat} (h : nt T Fs c j = true) (h1 : ∀ d ∈ T2, d ∈ T) (h2 : ∀ p ∈ Fs2, p ∈ Fs) : nt T2 Fs2 c j = true := by
  unfold nt at h ⊢
  rw [Bool.and_eq_true] at h ⊢
  exact ⟨List.all_eq_true.mpr fun d hd => List.all_eq_true.mp h.1 d (h1 d hd), List.all_eq_true.mpr fun p hp => List.all_eq_true.mp h.2 p (h2 p hp)⟩
theorem sg_t {T : List Nat} {Fs : List (Nat × Nat)} {c j d i : Nat} {v : Int32} {σ : Sg} (h : nt T Fs c j = true) (hd : d ∈ T) : sg σ d i v c j = σ c j := by
  unfold nt at h
  rw [Bool.and_eq_true] at h
  have h1 := List.all_eq_true.mp h.1 d hd
  unfold sg
  cases hb : Nat.beq c d with
  | true => rw [hb] at h1; exact nomatch h1
  | false => rfl
theorem sg_u {T : List Nat} {Fs : List (Nat × Nat)} {c j d i : Nat} {v : Int32} {σ : Sg} (h : nt T Fs c j = true) (hd : (d, i) ∈ Fs) : sg σ d i v c j = σ c j := by
  unfold nt at h
  rw [Bool.and_eq_true] at h
  have h1 := List.all_eq_true.mp h.2 _ hd
  unfold sg
  cases hb : Nat.beq c d with
  | false => rfl
  | true =>
    rw [hb] at h1
    cases hj : Nat.beq j i with
    | true => rw [hj] at h1; exact nomatch h1
    | false =>
      have : ¬ j = i := fun q => by rw [q, Nat.beq_refl] at hj; exact nomatch hj
      show upd (σ c) i v j = σ c j
      exact if_neg this
theorem frl_J7_fill_53178_46_5 {N n : Nat} {u1 : Int32} {K20 : (Sg → Int32 → Option (Int32 × Sg))} {out : Int32 × Sg} {c j : Nat} (hc : nt [46] [] c j = true) : ∀ (k : Nat) (σ : Sg) (v2 : Int32), lf_J7_fill_53178_46_5 N n u1 K20 k σ v2 = some out → (∀ (σ : Sg) (v2 : Int32), K20 σ v2 = some out → out.2 c j = σ c j) → out.2 c j = σ c j := by
  intro k
  induction k with
  | zero => intro σ v2 hm; exact nomatch (show none = some out from hm)
  | succ k ih =>
    intro σ v2 hm hK20
    have hm : lb_J7_fill_53178_46_5 N n u1 K20 (lf_J7_fill_53178_46_5 N n u1 K20 k) σ v2 = some out := hm
    unfold lb_J7_fill_53178_46_5 at hm
    by_cases q1 : 64 ≤ v2
    · have hm := (if_pos q1).symm.trans hm
      exact (hK20 _ _ hm).trans rfl
    · have hm := (if_neg q1).symm.trans hm
      obtain ⟨_, hm⟩ := gb_some hm
      exact (ih _ _ hm hK20).trans ((sg_t hc (by decide)).trans rfl)
theorem fr_J7_fill_53178_46 {N n : Nat} {σ : Sg} {p1 : Int32} {r : Int32} {σ' : Sg} {c j : Nat} (hc : nt [46] [] c j = true) (hm : f_J7_fill_53178_46 N n σ p1 = some (r, σ')) : σ' c j = σ c j := by
  unfold f_J7_fill_53178_46 at hm
  refine (frl_J7_fill_53178_46_5 (nt_sub hc (by decide) (by decide)) N _ _ hm ?_).trans rfl
  intro σ3 w4 hm
  cases hm
  exact rfl
theorem frl_J7_fill_53178_53_5 {N n : Nat} {u1 : Int32} {K20 : (Sg → Int32 → Option (Int32 × Sg))} {out : Int32 × Sg} {c j : Nat} (hc : nt [53] [] c j = true) : ∀ (k : Nat) (σ : Sg) (v2 : Int32), lf_J7_fill_53178_53_5 N n u1 K20 k σ v2 = some out → (∀ (σ : Sg) (v2 : Int32), K20 σ v2 = some out → out.2 c j = σ c j) → out.2 c j = σ c j := by
  intro k
  induction k with
  | zero => intro σ v2 hm; exact nomatch (show none = some out from hm)
  | succ k ih =>
    intro σ v2 hm hK20
    have hm : lb_J7_fill_53178_53_5 N n u1 K20 (lf_J7_fill_53178_53_5 N n u1 K20 k) σ v2 = some out := hm
    unfold lb_J7_fill_53178_53_5 at hm
    by_cases q1 : 64 ≤ v2
    · have hm := (if_pos q1).symm.trans hm
      exact (hK20 _ _ hm).trans rfl
    · have hm := (if_neg q1).symm.trans hm
      obtain ⟨_, hm⟩ := gb_some hm
      exact (ih _ _ hm hK20).trans ((sg_t hc (by decide)).trans rfl)
theorem fr_J7_fill_53178_53 {N n : Nat} {σ : Sg} {p1 : Int32} {r : Int32} {σ' : Sg} {c j : Nat} (hc : nt [53] [] c j = true) (hm : f_J7_fill_53178_53 N n σ p1 = some (r, σ')) : σ' c j = σ c j := by
  unfold f_J7_fill_53178_53 at hm
  refine (frl_J7_fill_53178_53_5 (nt_sub hc (by decide) (by decide)) N _ _ hm ?_).trans rfl
  intro σ3 w4 hm
  cases hm
  exact rfl
theorem frl_J7_fill_53178_58_5 {N n : Nat} {u1 : Int32} {K20 : (Sg → Int32 → Option (Int32 × Sg))} {out : Int32 × Sg} {c j : Nat} (hc : nt [58] [] c j = true) : ∀ (k : Nat) (σ : Sg) (v2 : Int32), lf_J7_fill_53178_58_5 N n u1 K20 k σ v2 = some out → (∀ (σ : Sg) (v2 : Int32), K20 σ v2 = some out → out.2 c j = σ c j) → out.2 c j = σ c j := by
  intro k
  induction k with
  | zero => intro σ v2 hm; exact nomatch (show none = some out from hm)
  | succ k ih =>
    intro σ v2 hm hK20
    have hm : lb_J7_fill_53178_58_5 N n u1 K20 (lf_J7_fill_53178_58_5 N n u1 K20 k) σ v2 = some out := hm
    unfold lb_J7_fill_53178_58_5 at hm
    by_cases q1 : 6 ≤ v2
    · have hm := (if_pos q1).symm.trans hm
      exact (hK20 _ _ hm).trans rfl
    · have hm := (if_neg q1).symm.trans hm
      obtain ⟨_, hm⟩ := gb_some hm
      exact (ih _ _ hm hK20).trans ((sg_t hc (by decide)).trans rfl)
theorem fr_J7_fill_53178_58 {N n : Nat} {σ : Sg} {p1 : Int32} {r : Int32} {σ' : Sg} {c j : Nat} (hc : nt [58] [] c j = true) (hm : f_J7_fill_53178_58 N n σ p1 = some (r, σ')) : σ' c j = σ c j := by
  unfold f_J7_fill_53178_58 at hm
  refine (frl_J7_fill_53178_58_5 (nt_sub hc (by decide) (by decide)) N _ _ hm ?_).trans rfl
  intro σ3 w4 hm
  cases hm
  exact rfl
theorem frl_J7_fill_53178_28_5 {N n : Nat} {u1 : Int32} {K20 : (Sg → Int32 → Option (Int32 × Sg))} {out : Int32 × Sg} {c j : Nat} (hc : nt [28] [] c j = true) : ∀ (k : Nat) (σ : Sg) (v2 : Int32), lf_J7_fill_53178_28_5 N n u1 K20 k σ v2 = some out → (∀ (σ : Sg) (v2 : Int32), K20 σ v2 = some out → out.2 c j = σ c j) → out.2 c j = σ c j := by
  intro k
  induction k with
  | zero => intro σ v2 hm; exact nomatch (show none = some out from hm)
  | succ k ih =>
    intro σ v2 hm hK20
    have hm : lb_J7_fill_53178_28_5 N n u1 K20 (lf_J7_fill_53178_28_5 N n u1 K20 k) σ v2 = some out := hm
    unfold lb_J7_fill_53178_28_5 at hm
    by_cases q1 : 22 ≤ v2
    · have hm := (if_pos q1).symm.trans hm
      exact (hK20 _ _ hm).trans rfl
    · have hm := (if_neg q1).symm.trans hm
      obtain ⟨_, hm⟩ := gb_some hm
      exact (ih _ _ hm hK20).trans ((sg_t hc (by decide)).trans rfl)
theorem fr_J7_fill_53178_28 {N n : Nat} {σ : Sg} {p1 : Int32} {r : Int32} {σ' : Sg} {c j : Nat} (hc : nt [28] [] c j = true) (hm : f_J7_fill_53178_28 N n σ p1 = some (r, σ')) : σ' c j = σ c j := by
  unfold f_J7_fill_53178_28 at hm
  refine (frl_J7_fill_53178_28_5 (nt_sub hc (by decide) (by decide)) N _ _ hm ?_).trans rfl
  intro σ3 w4 hm
  cases hm
  exact rfl
theorem frl_J7_fill_53178_38_5 {N n : Nat} {u1 : Int32} {K20 : (Sg → Int32 → Option (Int32 × Sg))} {out : Int32 × Sg} {c j : Nat} (hc : nt [38] [] c j = true) : ∀ (k : Nat) (σ : Sg) (v2 : Int32), lf_J7_fill_53178_38_5 N n u1 K20 k σ v2 = some out → (∀ (σ : Sg) (v2 : Int32), K20 σ v2 = some out → out.2 c j = σ c j) → out.2 c j = σ c j := by
  intro k
  induction k with
  | zero => intro σ v2 hm; exact nomatch (show none = some out from hm)
  | succ k ih =>
    intro σ v2 hm hK20
    have hm : lb_J7_fill_53178_38_5 N n u1 K20 (lf_J7_fill_53178_38_5 N n u1 K20 k) σ v2 = some out := hm
    unfold lb_J7_fill_53178_38_5 at hm
    by_cases q1 : 16 ≤ v2
    · have hm := (if_pos q1).symm.trans hm
      exact (hK20 _ _ hm).trans rfl
    · have hm := (if_neg q1).symm.trans hm
      obtain ⟨_, hm⟩ := gb_some hm
      exact (ih _ _ hm hK20).trans ((sg_t hc (by decide)).trans rfl)
theorem fr_J7_fill_53178_38 {N n : Nat} {σ : Sg} {p1 : Int32} {r : Int32} {σ' : Sg} {c j : Nat} (hc : nt [38] [] c j = true) (hm : f_J7_fill_53178_38 N n σ p1 = some (r, σ')) : σ' c j = σ c j := by
  unfold f_J7_fill_53178_38 at hm
  refine (frl_J7_fill_53178_38_5 (nt_sub hc (by decide) (by decide)) N _ _ hm ?_).trans rfl
  intro σ3 w4 hm
  cases hm
  exact rfl
theorem frl_J7_fill_53178_30_5 {N n : Nat} {u1 : Int32} {K20 : (Sg → Int32 → Option (Int32 × Sg))} {out : Int32 × Sg} {c j : Nat} (hc : nt [30] [] c j = true) : ∀ (k : Nat) (σ : Sg) (v2 : Int32), lf_J7_fill_53178_30_5 N n u1 K20 k σ v2 = some out → (∀ (σ : Sg) (v2 : Int32), K20 σ v2 = some out → out.2 c j = σ c j) → out.2 c j = σ c j := by
  intro k
  induction k with
  | zero => intro σ v2 hm; exact nomatch (show none = some out from hm)
  | succ k ih =>
    intro σ v2 hm hK20
    have hm : lb_J7_fill_53178_30_5 N n u1 K20 (lf_J7_fill_53178_30_5 N n u1 K20 k) σ v2 = some out := hm
    unfold lb_J7_fill_53178_30_5 at hm
    by_cases q1 : 300 ≤ v2
    · have hm := (if_pos q1).symm.trans hm
      exact (hK20 _ _ hm).trans rfl
    · have hm := (if_neg q1).symm.trans hm
      obtain ⟨_, hm⟩ := gb_some hm
      exact (ih _ _ hm hK20).trans ((sg_t hc (by decide)).trans rfl)
theorem fr_J7_fill_53178_30 {N n : Nat} {σ : Sg} {p1 : Int32} {r : Int32} {σ' : Sg} {c j : Nat} (hc : nt [30] [] c j = true) (hm : f_J7_fill_53178_30 N n σ p1 = some (r, σ')) : σ' c j = σ c j := by
  unfold f_J7_fill_53178_30 at hm
  refine (frl_J7_fill_53178_30_5 (nt_sub hc (by decide) (by decide)) N _ _ hm ?_).trans rfl
  intro σ3 w4 hm
  cases hm
  exact rfl
theorem frl_X0_leastWaiting_5 {N n : Nat} {u1 : Int32} {u2 : Int32} {K44 : (Sg → Int32 → Option (Int32 × Sg))} {out : Int32 × Sg} {c j : Nat} (hc : nt [] [] c j = true) : ∀ (k : Nat) (σ : Sg) (v3 : Int32), lf_X0_leastWaiting_5 N n u1 u2 K44 k σ v3 = some out → (∀ (σ : Sg) (v3 : Int32), K44 σ v3 = some out → out.2 c j = σ c j) → out.2 c j = σ c j := by
  intro k
  induction k with
  | zero => intro σ v3 hm; exact nomatch (show none = some out from hm)
  | succ k ih =>
    intro σ v3 hm hK44
    have hm : lb_X0_leastWaiting_5 N n u1 u2 K44 (lf_X0_leastWaiting_5 N n u1 u2 K44 k) σ v3 = some out := hm
    unfold lb_X0_leastWaiting_5 at hm
    by_cases q1 : u2 ≤ v3
    · have hm := (if_pos q1).symm.trans hm
      exact (hK44 _ _ hm).trans rfl
    · have hm := (if_neg q1).symm.trans hm
      obtain ⟨_, hm⟩ := gb_some hm
      by_cases q2 : (σ 8 (ix (u1 + v3))) = (-1)
      · have hm := (if_pos q2).symm.trans hm
        exact (ih _ _ hm hK44).trans rfl
      · have hm := (if_neg q2).symm.trans hm
        obtain ⟨_, hm⟩ := gb_some hm
        by_cases q3 : (σ 10 (ix (u1 + v3))) = 0
        · have hm := (if_pos q3).symm.trans hm
          cases hm
          exact rfl
        · have hm := (if_neg q3).symm.trans hm
          exact (ih _ _ hm hK44).trans rfl
theorem fr_X0_leastWaiting {N n : Nat} {σ : Sg} {p0 : Int32} {p1 : Int32} {r : Int32} {σ' : Sg} {c j : Nat} (hc : nt [] [] c j = true) (hm : f_X0_leastWaiting N n σ p0 p1 = some (r, σ')) : σ' c j = σ c j := by
  unfold f_X0_leastWaiting at hm
  refine (frl_X0_leastWaiting_5 (nt_sub hc (by decide) (by decide)) N _ _ hm ?_).trans rfl
  intro σ6 w7 hm
  cases hm
  exact rfl
theorem fr_X6_hasFunc {N n : Nat} {σ : Sg} {p0 : Int32} {r : Int32} {σ' : Sg} {c j : Nat} (hc : nt [] [] c j = true) (hm : f_X6_hasFunc N n σ p0 = some (r, σ')) : σ' c j = σ c j := by
  unfold f_X6_hasFunc at hm
  by_cases q1 : p0 < 0
  · have hm := (if_pos q1).symm.trans hm
    cases hm
    exact rfl
  · have hm := (if_neg q1).symm.trans hm
    by_cases q2 : (σ 1 7) ≤ p0
    · have hm := (if_pos q2).symm.trans hm
      cases hm
      exact rfl
    · have hm := (if_neg q2).symm.trans hm
      cases hm
      exact rfl
theorem fr_X0_isFormed {N n : Nat} {σ : Sg} {p0 : Int32} {p1 : Int32} {p2 : Int32} {r : Int32} {σ' : Sg} {c j : Nat} (hc : nt [] [] c j = true) (hm : f_X0_isFormed N n σ p0 p1 p2 = some (r, σ')) : σ' c j = σ c j := by
  unfold f_X0_isFormed at hm
  by_cases q1 : p1 = 1 ∨ p1 = 2
  · have hm := (if_pos q1).symm.trans hm
    by_cases q2 : p2 < 0
    · have hm := (if_pos q2).symm.trans hm
      cases hm
      exact rfl
    · have hm := (if_neg q2).symm.trans hm
      obtain ⟨_, hm⟩ := gb_some hm
      by_cases q3 : (σ 3 (ix p0)) ≤ p2
      · have hm := (if_pos q3).symm.trans hm
        cases hm
        exact rfl
      · have hm := (if_neg q3).symm.trans hm
        cases hm
        exact rfl
  · have hm := (if_neg q1).symm.trans hm
    by_cases q4 : p1 = 12 ∨ p1 = 13
    · have hm := (if_pos q4).symm.trans hm
      by_cases q5 : p2 < 0
      · have hm := (if_pos q5).symm.trans hm
        cases hm
        exact rfl
      · have hm := (if_neg q5).symm.trans hm
        obtain ⟨_, hm⟩ := gb_some hm
        by_cases q6 : (σ 5 (ix p0)) ≤ p2
        · have hm := (if_pos q6).symm.trans hm
          cases hm
          exact rfl
        · have hm := (if_neg q6).symm.trans hm
          cases hm
          exact rfl
    · have hm := (if_neg q4).symm.trans hm
      by_cases q7 : p1 = 14
      · have hm := (if_pos q7).symm.trans hm
        obtain ⟨r10, σ11, h8, hm⟩ := bd_some hm
        have e8 := (fr_X6_hasFunc (nt_sub hc (by decide) (by decide)) h8).trans rfl
        obtain ⟨_, hm⟩ := g01_some hm
        cases hm
        exact e8
      · have hm := (if_neg q7).symm.trans hm
        by_cases q9 : p1 < 0
        · have hm := (if_pos q9).symm.trans hm
          cases hm
          exact rfl
        · have hm := (if_neg q9).symm.trans hm
          by_cases q10 : 17 < p1
          · have hm := (if_pos q10).symm.trans hm
            cases hm
            exact rfl
          · have hm := (if_neg q10).symm.trans hm
            cases hm
            exact rfl
theorem fr_X6_takes {N n : Nat} {σ : Sg} {p0 : Int32} {p1 : Int32} {r : Int32} {σ' : Sg} {c j : Nat} (hc : nt [] [] c j = true) (hm : f_X6_takes N n σ p0 p1 = some (r, σ')) : σ' c j = σ c j := by
  unfold f_X6_takes at hm
  by_cases q1 : p0 = 14
  · have hm := (if_pos q1).symm.trans hm
    obtain ⟨_, hm⟩ := gb_some hm
    cases hm
    exact rfl
  · have hm := (if_neg q1).symm.trans hm
    obtain ⟨_, hm⟩ := gb_some hm
    cases hm
    exact rfl
theorem fr_X0_reach {N n : Nat} {σ : Sg} {p0 : Int32} {p1 : Int32} {p2 : Int32} {r : Int32} {σ' : Sg} {c j : Nat} (hc : nt [8] [(9, 2)] c j = true) (hm : f_X0_reach N n σ p0 p1 p2 = some (r, σ')) : σ' c j = σ c j := by
  unfold f_X0_reach at hm
  obtain ⟨_, hm⟩ := gb_some hm
  obtain ⟨_, hm⟩ := gb_some hm
  by_cases q1 : (σ 8 (ix ((σ 4 (ix p0)) + p1))) = (-1)
  · have hm := (if_pos q1).symm.trans hm
    obtain ⟨_, hm⟩ := gb_some hm
    obtain ⟨_, hm⟩ := gb_some hm
    by_cases q2 : p2 = p2
    · have hm := (if_pos q2).symm.trans hm
      cases hm
      exact ((sg_u hc (by decide)).trans ((sg_t hc (by decide)).trans rfl))
    · have hm := (if_neg q2).symm.trans hm
      cases hm
      exact ((sg_u hc (by decide)).trans ((sg_t hc (by decide)).trans rfl))
  · have hm := (if_neg q1).symm.trans hm
    obtain ⟨_, hm⟩ := gb_some hm
    by_cases q3 : (σ 8 (ix ((σ 4 (ix p0)) + p1))) = p2
    · have hm := (if_pos q3).symm.trans hm
      cases hm
      exact rfl
    · have hm := (if_neg q3).symm.trans hm
      cases hm
      exact rfl
theorem fr_X0_faultOfWord {N n : Nat} {σ : Sg} {p0 : Int32} {p1 : Int32} {r : Int32} {σ' : Sg} {c j : Nat} (hc : nt [8] [(9, 2)] c j = true) (hm : f_X0_faultOfWord N n σ p0 p1 = some (r, σ')) : σ' c j = σ c j := by
  unfold f_X0_faultOfWord at hm
  obtain ⟨_, hm⟩ := gb_some hm
  obtain ⟨_, hm⟩ := gb_some hm
  obtain ⟨_, hm⟩ := gb_some hm
  obtain ⟨r4, σ5, h1, hm⟩ := bd_some hm
  have e1 := (fr_X0_isFormed (nt_sub hc (by decide) (by decide)) h1).trans rfl
  by_cases q2 : r4 = 0
  · have hm := (if_pos q2).symm.trans hm
    cases hm
    exact e1
  · have hm := (if_neg q2).symm.trans hm
    obtain ⟨r8, σ9, h3, hm⟩ := bd_some hm
    have e3 := (fr_X6_takes (nt_sub hc (by decide) (by decide)) h3).trans e1
    obtain ⟨_, hm⟩ := gb_some hm
    by_cases q4 : r8 ≤ (σ9 8 (ix ((σ 4 (ix p0)) + p1)))
    · have hm := (if_pos q4).symm.trans hm
      obtain ⟨_, hm⟩ := gb_some hm
      obtain ⟨_, hm⟩ := gb_some hm
      by_cases q5 : (((σ9 8 (ix ((σ 4 (ix p0)) + p1))) - r8) + (pt (ix (σ 6 (ix ((σ 4 (ix p0)) + p1)))))) ≤ 12
      · have hm := (if_pos q5).symm.trans hm
        by_cases q6 : (σ 6 (ix ((σ 4 (ix p0)) + p1))) = 12
        · have hm := (if_pos q6).symm.trans hm
          obtain ⟨r17, σ18, h7, hm⟩ := bd_some hm
          have e7 := (fr_X0_reach (nt_sub hc (by decide) (by decide)) h7).trans e3
          by_cases q8 : r17 = 0
          · have hm := (if_pos q8).symm.trans hm
            cases hm
            exact e7
          · have hm := (if_neg q8).symm.trans hm
            cases hm
            exact e7
        · have hm := (if_neg q6).symm.trans hm
          by_cases q9 : (σ 6 (ix ((σ 4 (ix p0)) + p1))) = 15
          · have hm := (if_pos q9).symm.trans hm
            by_cases q10 : (σ 6 (ix ((σ 4 (ix p0)) + p1))) = 13
            · have hm := (if_pos q10).symm.trans hm
              obtain ⟨r23, σ24, h11, hm⟩ := bd_some hm
              have e11 := (fr_X0_reach (nt_sub hc (by decide) (by decide)) h11).trans e3
              by_cases q12 : r23 = 0
              · have hm := (if_pos q12).symm.trans hm
                cases hm
                exact e11
              · have hm := (if_neg q12).symm.trans hm
                cases hm
                exact e11
            · have hm := (if_neg q10).symm.trans hm
              cases hm
              exact e3
          · have hm := (if_neg q9).symm.trans hm
            obtain ⟨_, hm⟩ := gb_some hm
            by_cases q13 : (p1 + 1) < (σ9 5 (ix p0))
            · have hm := (if_pos q13).symm.trans hm
              obtain ⟨r29, σ30, h14, hm⟩ := bd_some hm
              have e14 := (fr_X0_reach (nt_sub hc (by decide) (by decide)) h14).trans e3
              by_cases q15 : r29 = 0
              · have hm := (if_pos q15).symm.trans hm
                cases hm
                exact e14
              · have hm := (if_neg q15).symm.trans hm
                by_cases q16 : (σ 6 (ix ((σ 4 (ix p0)) + p1))) = 13
                · have hm := (if_pos q16).symm.trans hm
                  obtain ⟨r34, σ35, h17, hm⟩ := bd_some hm
                  have e17 := (fr_X0_reach (nt_sub hc (by decide) (by decide)) h17).trans e14
                  by_cases q18 : r34 = 0
                  · have hm := (if_pos q18).symm.trans hm
                    cases hm
                    exact e17
                  · have hm := (if_neg q18).symm.trans hm
                    cases hm
                    exact e17
                · have hm := (if_neg q16).symm.trans hm
                  cases hm
                  exact e14
            · have hm := (if_neg q13).symm.trans hm
              cases hm
              exact e3
      · have hm := (if_neg q5).symm.trans hm
        cases hm
        exact e3
    · have hm := (if_neg q4).symm.trans hm
      cases hm
      exact e3
theorem frl_X0_faultOfFunc_23 {N n : Nat} {u1 : Int32} {u2 : Int32} {u3 : Int32} {K58 : (Sg → Int32 → Option (Int32 × Sg))} {out : Int32 × Sg} {c j : Nat} (hc : nt [8, 10] [] c j = true) : ∀ (k : Nat) (σ : Sg) (v4 : Int32), lf_X0_faultOfFunc_23 N n u1 u2 u3 K58 k σ v4 = some out → (∀ (σ : Sg) (v4 : Int32), K58 σ v4 = some out → out.2 c j = σ c j) → out.2 c j = σ c j := by
  intro k
  induction k with
  | zero => intro σ v4 hm; exact nomatch (show none = some out from hm)
  | succ k ih =>
    intro σ v4 hm hK58
    have hm : lb_X0_faultOfFunc_23 N n u1 u2 u3 K58 (lf_X0_faultOfFunc_23 N n u1 u2 u3 K58 k) σ v4 = some out := hm
    unfold lb_X0_faultOfFunc_23 at hm
    by_cases q1 : u3 ≤ v4
    · have hm := (if_pos q1).symm.trans hm
      exact (hK58 _ _ hm).trans rfl
    · have hm := (if_neg q1).symm.trans hm
      obtain ⟨_, hm⟩ := gb_some hm
      obtain ⟨_, hm⟩ := gb_some hm
      exact (ih _ _ hm hK58).trans ((sg_t hc (by decide)).trans ((sg_t hc (by decide)).trans rfl))
theorem frl_X0_faultOfFunc_76 {N n : Nat} {u1 : Int32} {u2 : Int32} {u3 : Int32} {K151 : (Sg → Int32 → Option (Int32 × Sg))} {out : Int32 × Sg} {c j : Nat} (hc : nt [8, 10] [(9, 2)] c j = true) : ∀ (k : Nat) (σ : Sg) (v4 : Int32), lf_X0_faultOfFunc_76 N n u1 u2 u3 K151 k σ v4 = some out → (∀ (σ : Sg) (v4 : Int32), K151 σ v4 = some out → out.2 c j = σ c j) → out.2 c j = σ c j := by
  intro k
  induction k with
  | zero => intro σ v4 hm; exact nomatch (show none = some out from hm)
  | succ k ih =>
    intro σ v4 hm hK151
    have hm : lb_X0_faultOfFunc_76 N n u1 u2 u3 K151 (lf_X0_faultOfFunc_76 N n u1 u2 u3 K151 k) σ v4 = some out := hm
    unfold lb_X0_faultOfFunc_76 at hm
    by_cases q1 : u3 ≤ v4
    · have hm := (if_pos q1).symm.trans hm
      exact (hK151 _ _ hm).trans rfl
    · have hm := (if_neg q1).symm.trans hm
      obtain ⟨r10, σ11, h2, hm⟩ := bd_some hm
      have e2 := (fr_X0_leastWaiting (nt_sub hc (by decide) (by decide)) h2).trans rfl
      by_cases q3 : r10 = (-1)
      · have hm := (if_pos q3).symm.trans hm
        cases hm
        exact e2
      · have hm := (if_neg q3).symm.trans hm
        obtain ⟨_, hm⟩ := gb_some hm
        obtain ⟨r15, σ16, h4, hm⟩ := bd_some hm
        have e4 := (fr_X0_faultOfWord (nt_sub hc (by decide) (by decide)) h4).trans ((sg_u hc (by decide)).trans ((sg_t hc (by decide)).trans e2))
        by_cases q5 : r15 = 0
        · have hm := (if_pos q5).symm.trans hm
          exact (ih _ _ hm hK151).trans e4
        · have hm := (if_neg q5).symm.trans hm
          cases hm
          exact e4
theorem fr_X0_faultOfFunc {N n : Nat} {σ : Sg} {p0 : Int32} {r : Int32} {σ' : Sg} {c j : Nat} (hc : nt [8, 10] [(9, 2)] c j = true) (hm : f_X0_faultOfFunc N n σ p0 = some (r, σ')) : σ' c j = σ c j := by
  unfold f_X0_faultOfFunc at hm
  obtain ⟨_, hm⟩ := gb_some hm
  obtain ⟨_, hm⟩ := gb_some hm
  refine (frl_X0_faultOfFunc_23 (nt_sub hc (by decide) (by decide)) N _ _ hm ?_).trans rfl
  intro σ6 w7 hm
  obtain ⟨_, hm⟩ := gb_some hm
  refine (frl_X0_faultOfFunc_76 (nt_sub hc (by decide) (by decide)) N _ _ hm ?_).trans ((sg_u hc (by decide)).trans ((sg_t hc (by decide)).trans rfl))
  intro σ19 w20 hm
  cases hm
  exact rfl
theorem frl_X0_firstFault_15 {N n : Nat}  {K52 : (Sg → Int32 → Option (Int32 × Sg))} {out : Int32 × Sg} {c j : Nat} (hc : nt [] [] c j = true) : ∀ (k : Nat) (σ : Sg) (v1 : Int32), lf_X0_firstFault_15 N n  K52 k σ v1 = some out → (∀ (σ : Sg) (v1 : Int32), K52 σ v1 = some out → out.2 c j = σ c j) → out.2 c j = σ c j := by
  intro k
  induction k with
  | zero => intro σ v1 hm; exact nomatch (show none = some out from hm)
  | succ k ih =>
    intro σ v1 hm hK52
    have hm : lb_X0_firstFault_15 N n  K52 (lf_X0_firstFault_15 N n  K52 k) σ v1 = some out := hm
    unfold lb_X0_firstFault_15 at hm
    by_cases q1 : (σ 1 7) ≤ v1
    · have hm := (if_pos q1).symm.trans hm
      exact (hK52 _ _ hm).trans rfl
    · have hm := (if_neg q1).symm.trans hm
      obtain ⟨_, hm⟩ := gb_some hm
      by_cases q2 : (σ 5 (ix v1)) = 0
      · have hm := (if_pos q2).symm.trans hm
        cases hm
        exact rfl
      · have hm := (if_neg q2).symm.trans hm
        exact (ih _ _ hm hK52).trans rfl
theorem frl_X0_firstFault_54 {N n : Nat}  {K83 : (Sg → Int32 → Option (Int32 × Sg))} {out : Int32 × Sg} {c j : Nat} (hc : nt [8, 10] [(9, 2)] c j = true) : ∀ (k : Nat) (σ : Sg) (v1 : Int32), lf_X0_firstFault_54 N n  K83 k σ v1 = some out → (∀ (σ : Sg) (v1 : Int32), K83 σ v1 = some out → out.2 c j = σ c j) → out.2 c j = σ c j := by
  intro k
  induction k with
  | zero => intro σ v1 hm; exact nomatch (show none = some out from hm)
  | succ k ih =>
    intro σ v1 hm hK83
    have hm : lb_X0_firstFault_54 N n  K83 (lf_X0_firstFault_54 N n  K83 k) σ v1 = some out := hm
    unfold lb_X0_firstFault_54 at hm
    by_cases q1 : (σ 1 7) ≤ v1
    · have hm := (if_pos q1).symm.trans hm
      exact (hK83 _ _ hm).trans rfl
    · have hm := (if_neg q1).symm.trans hm
      obtain ⟨r8, σ9, h2, hm⟩ := bd_some hm
      have e2 := (fr_X0_faultOfFunc (nt_sub hc (by decide) (by decide)) h2).trans rfl
      by_cases q3 : r8 = 0
      · have hm := (if_pos q3).symm.trans hm
        exact (ih _ _ hm hK83).trans e2
      · have hm := (if_neg q3).symm.trans hm
        cases hm
        exact e2
theorem fr_X0_firstFault {N n : Nat} {σ : Sg}  {r : Int32} {σ' : Sg} {c j : Nat} (hc : nt [8, 10] [(9, 2)] c j = true) (hm : f_X0_firstFault N n σ  = some (r, σ')) : σ' c j = σ c j := by
  unfold f_X0_firstFault at hm
  by_cases q1 : (σ 1 7) = 0
  · have hm := (if_pos q1).symm.trans hm
    cases hm
    exact rfl
  · have hm := (if_neg q1).symm.trans hm
    refine (frl_X0_firstFault_15 (nt_sub hc (by decide) (by decide)) N _ _ hm ?_).trans rfl
    intro σ5 w6 hm
    refine (frl_X0_firstFault_54 (nt_sub hc (by decide) (by decide)) N _ _ hm ?_).trans rfl
    intro σ12 w13 hm
    cases hm
    exact rfl
theorem fr_X2_slotOf {N n : Nat} {σ : Sg} {p0 : Int32} {p1 : Int32} {r : Int32} {σ' : Sg} {c j : Nat} (hc : nt [] [] c j = true) (hm : f_X2_slotOf N n σ p0 p1 = some (r, σ')) : σ' c j = σ c j := by
  unfold f_X2_slotOf at hm
  obtain ⟨_, hm⟩ := gb_some hm
  cases hm
  exact rfl
theorem fr_X1_add {N n : Nat} {σ : Sg} {p0 : Int32} {p1 : Int32} {p2 : Int32} {p3 : Int32} {r : Int32} {σ' : Sg} {c j : Nat} (hc : nt [41, 42] [(39, 2)] c j = true) (hm : f_X1_add N n σ p0 p1 p2 p3 = some (r, σ')) : σ' c j = σ c j := by
  unfold f_X1_add at hm
  obtain ⟨_, hm⟩ := gb_some hm
  obtain ⟨_, hm⟩ := gb_some hm
  obtain ⟨_, hm⟩ := gb_some hm
  obtain ⟨_, hm⟩ := gb_some hm
  obtain ⟨_, hm⟩ := gb_some hm
  obtain ⟨_, hm⟩ := gb_some hm
  obtain ⟨_, hm⟩ := gb_some hm
  cases hm
  exact ((sg_t hc (by decide)).trans ((sg_u hc (by decide)).trans ((sg_t hc (by decide)).trans ((sg_t hc (by decide)).trans ((sg_t hc (by decide)).trans ((sg_t hc (by decide)).trans ((sg_t hc (by decide)).trans rfl)))))))
theorem fr_X2_registerOf {N n : Nat} {σ : Sg} {p0 : Int32} {p1 : Int32} {r : Int32} {σ' : Sg} {c j : Nat} (hc : nt [] [] c j = true) (hm : f_X2_registerOf N n σ p0 p1 = some (r, σ')) : σ' c j = σ c j := by
  unfold f_X2_registerOf at hm
  obtain ⟨_, hm⟩ := gb_some hm
  cases hm
  exact rfl
theorem fr_X10_loaded {N n : Nat} {σ : Sg} {p0 : Int32} {p1 : Int32} {r : Int32} {σ' : Sg} {c j : Nat} (hc : nt [41, 42] [(39, 2)] c j = true) (hm : f_X10_loaded N n σ p0 p1 = some (r, σ')) : σ' c j = σ c j := by
  unfold f_X10_loaded at hm
  obtain ⟨r1, σ2, h1, hm⟩ := bd_some hm
  have e1 := (fr_X2_slotOf (nt_sub hc (by decide) (by decide)) h1).trans rfl
  by_cases q2 : r1 = (-1)
  · have hm := (if_pos q2).symm.trans hm
    obtain ⟨r8, σ9, h3, hm⟩ := bd_some hm
    have e3 := (fr_X2_registerOf (nt_sub hc (by decide) (by decide)) h3).trans e1
    cases hm
    exact e3
  · have hm := (if_neg q2).symm.trans hm
    obtain ⟨r5, σ6, h4, hm⟩ := bd_some hm
    have e4 := (fr_X1_add (nt_sub hc (by decide) (by decide)) h4).trans e1
    cases hm
    exact e4
theorem fr_X10_moveFrom {N n : Nat} {σ : Sg} {p0 : Int32} {p1 : Int32} {r : Int32} {σ' : Sg} {c j : Nat} (hc : nt [41, 42] [(39, 2)] c j = true) (hm : f_X10_moveFrom N n σ p0 p1 = some (r, σ')) : σ' c j = σ c j := by
  unfold f_X10_moveFrom at hm
  obtain ⟨r1, σ2, h1, hm⟩ := bd_some hm
  have e1 := (fr_X2_slotOf (nt_sub hc (by decide) (by decide)) h1).trans rfl
  by_cases q2 : r1 = (-1)
  · have hm := (if_pos q2).symm.trans hm
    obtain ⟨r5, σ6, h3, hm⟩ := bd_some hm
    have e3 := (fr_X2_registerOf (nt_sub hc (by decide) (by decide)) h3).trans e1
    obtain ⟨r8, σ9, h4, hm⟩ := bd_some hm
    have e4 := (fr_X1_add (nt_sub hc (by decide) (by decide)) h4).trans e3
    cases hm
    exact e4
  · have hm := (if_neg q2).symm.trans hm
    obtain ⟨r11, σ12, h5, hm⟩ := bd_some hm
    have e5 := (fr_X1_add (nt_sub hc (by decide) (by decide)) h5).trans e1
    cases hm
    exact e5
theorem fr_X10_moveInto {N n : Nat} {σ : Sg} {p0 : Int32} {p1 : Int32} {r : Int32} {σ' : Sg} {c j : Nat} (hc : nt [41, 42] [(39, 2)] c j = true) (hm : f_X10_moveInto N n σ p0 p1 = some (r, σ')) : σ' c j = σ c j := by
  unfold f_X10_moveInto at hm
  obtain ⟨r1, σ2, h1, hm⟩ := bd_some hm
  have e1 := (fr_X2_slotOf (nt_sub hc (by decide) (by decide)) h1).trans rfl
  by_cases q2 : r1 = (-1)
  · have hm := (if_pos q2).symm.trans hm
    obtain ⟨r5, σ6, h3, hm⟩ := bd_some hm
    have e3 := (fr_X2_registerOf (nt_sub hc (by decide) (by decide)) h3).trans e1
    by_cases q4 : p0 = r5
    · have hm := (if_pos q4).symm.trans hm
      cases hm
      exact e3
    · have hm := (if_neg q4).symm.trans hm
      obtain ⟨r9, σ10, h5, hm⟩ := bd_some hm
      have e5 := (fr_X2_registerOf (nt_sub hc (by decide) (by decide)) h5).trans e3
      obtain ⟨r12, σ13, h6, hm⟩ := bd_some hm
      have e6 := (fr_X1_add (nt_sub hc (by decide) (by decide)) h6).trans e5
      cases hm
      exact e6
  · have hm := (if_neg q2).symm.trans hm
    obtain ⟨r15, σ16, h7, hm⟩ := bd_some hm
    have e7 := (fr_X1_add (nt_sub hc (by decide) (by decide)) h7).trans e1
    cases hm
    exact e7
theorem fr_X10_saveTarget {N n : Nat} {σ : Sg} {p0 : Int32} {r : Int32} {σ' : Sg} {c j : Nat} (hc : nt [41, 42] [(39, 2)] c j = true) (hm : f_X10_saveTarget N n σ p0 = some (r, σ')) : σ' c j = σ c j := by
  unfold f_X10_saveTarget at hm
  obtain ⟨r1, σ2, h1, hm⟩ := bd_some hm
  have e1 := (fr_X2_slotOf (nt_sub hc (by decide) (by decide)) h1).trans rfl
  by_cases q2 : r1 = (-1)
  · have hm := (if_pos q2).symm.trans hm
    cases hm
    exact e1
  · have hm := (if_neg q2).symm.trans hm
    obtain ⟨r5, σ6, h3, hm⟩ := bd_some hm
    have e3 := (fr_X1_add (nt_sub hc (by decide) (by decide)) h3).trans e1
    cases hm
    exact e3
theorem fr_X10_target {N n : Nat} {σ : Sg} {p0 : Int32} {r : Int32} {σ' : Sg} {c j : Nat} (hc : nt [] [] c j = true) (hm : f_X10_target N n σ p0 = some (r, σ')) : σ' c j = σ c j := by
  unfold f_X10_target at hm
  obtain ⟨r1, σ2, h1, hm⟩ := bd_some hm
  have e1 := (fr_X2_slotOf (nt_sub hc (by decide) (by decide)) h1).trans rfl
  by_cases q2 : r1 = (-1)
  · have hm := (if_pos q2).symm.trans hm
    obtain ⟨r5, σ6, h3, hm⟩ := bd_some hm
    have e3 := (fr_X2_registerOf (nt_sub hc (by decide) (by decide)) h3).trans e1
    cases hm
    exact e3
  · have hm := (if_neg q2).symm.trans hm
    cases hm
    exact e1
theorem frl_X10_writeCall_2 {N n : Nat} {u1 : Int32} {K54 : (Sg → Int32 → Option (Int32 × Sg))} {out : Int32 × Sg} {c j : Nat} (hc : nt [41, 42] [(39, 2)] c j = true) : ∀ (k : Nat) (σ : Sg) (v2 : Int32), lf_X10_writeCall_2 N n u1 K54 k σ v2 = some out → (∀ (σ : Sg) (v2 : Int32), K54 σ v2 = some out → out.2 c j = σ c j) → out.2 c j = σ c j := by
  intro k
  induction k with
  | zero => intro σ v2 hm; exact nomatch (show none = some out from hm)
  | succ k ih =>
    intro σ v2 hm hK54
    have hm : lb_X10_writeCall_2 N n u1 K54 (lf_X10_writeCall_2 N n u1 K54 k) σ v2 = some out := hm
    unfold lb_X10_writeCall_2 at hm
    obtain ⟨_, hm⟩ := gb_some hm
    by_cases q1 : (σ 18 (ix u1)) ≤ v2
    · have hm := (if_pos q1).symm.trans hm
      exact (hK54 _ _ hm).trans rfl
    · have hm := (if_neg q1).symm.trans hm
      obtain ⟨_, hm⟩ := gb_some hm
      obtain ⟨_, hm⟩ := gb_some hm
      obtain ⟨r5, σ6, h2, hm⟩ := bd_some hm
      have e2 := (fr_X10_loaded (nt_sub hc (by decide) (by decide)) h2).trans rfl
      obtain ⟨r8, σ9, h3, hm⟩ := bd_some hm
      have e3 := (fr_X1_add (nt_sub hc (by decide) (by decide)) h3).trans e2
      exact (ih _ _ hm hK54).trans e3
theorem fr_X10_writeCall {N n : Nat} {σ : Sg} {p0 : Int32} {r : Int32} {σ' : Sg} {c j : Nat} (hc : nt [41, 42] [(39, 2)] c j = true) (hm : f_X10_writeCall N n σ p0 = some (r, σ')) : σ' c j = σ c j := by
  unfold f_X10_writeCall at hm
  refine (frl_X10_writeCall_2 (nt_sub hc (by decide) (by decide)) N _ _ hm ?_).trans rfl
  intro σ11 w12 hm
  obtain ⟨_, hm⟩ := gb_some hm
  obtain ⟨r14, σ15, h1, hm⟩ := bd_some hm
  have e1 := (fr_X1_add (nt_sub hc (by decide) (by decide)) h1).trans rfl
  obtain ⟨_, hm⟩ := gb_some hm
  obtain ⟨r18, σ19, h2, hm⟩ := bd_some hm
  have e2 := (fr_X10_target (nt_sub hc (by decide) (by decide)) h2).trans e1
  obtain ⟨r21, σ22, h3, hm⟩ := bd_some hm
  have e3 := (fr_X1_add (nt_sub hc (by decide) (by decide)) h3).trans e2
  obtain ⟨_, hm⟩ := gb_some hm
  obtain ⟨r25, σ26, h4, hm⟩ := bd_some hm
  have e4 := (fr_X10_saveTarget (nt_sub hc (by decide) (by decide)) h4).trans e3
  cases hm
  exact e4
theorem frl_X10_writeEntry_2 {N n : Nat} {u2 : Int32} {K87 : (Sg → Int32 → Option (Int32 × Sg))} {out : Int32 × Sg} {c j : Nat} (hc : nt [41, 42] [(39, 2)] c j = true) : ∀ (k : Nat) (σ : Sg) (v3 : Int32), lf_X10_writeEntry_2 N n u2 K87 k σ v3 = some out → (∀ (σ : Sg) (v3 : Int32), K87 σ v3 = some out → out.2 c j = σ c j) → out.2 c j = σ c j := by
  intro k
  induction k with
  | zero => intro σ v3 hm; exact nomatch (show none = some out from hm)
  | succ k ih =>
    intro σ v3 hm hK87
    have hm : lb_X10_writeEntry_2 N n u2 K87 (lf_X10_writeEntry_2 N n u2 K87 k) σ v3 = some out := hm
    unfold lb_X10_writeEntry_2 at hm
    obtain ⟨_, hm⟩ := gb_some hm
    by_cases q1 : (σ 3 (ix (σ 43 4))) ≤ v3
    · have hm := (if_pos q1).symm.trans hm
      exact (hK87 _ _ hm).trans rfl
    · have hm := (if_neg q1).symm.trans hm
      by_cases q2 : ((u2 >>> (v3 &&& 31)) &&& 1) = 0
      · have hm := (if_pos q2).symm.trans hm
        exact (ih _ _ hm hK87).trans rfl
      · have hm := (if_neg q2).symm.trans hm
        obtain ⟨_, hm⟩ := gb_some hm
        by_cases q3 : (σ 2 (ix (σ 43 4))) ≤ v3
        · have hm := (if_pos q3).symm.trans hm
          obtain ⟨r6, σ7, h4, hm⟩ := bd_some hm
          have e4 := (fr_X10_target (nt_sub hc (by decide) (by decide)) h4).trans rfl
          obtain ⟨r9, σ10, h5, hm⟩ := bd_some hm
          have e5 := (fr_X1_add (nt_sub hc (by decide) (by decide)) h5).trans e4
          obtain ⟨r12, σ13, h6, hm⟩ := bd_some hm
          have e6 := (fr_X10_saveTarget (nt_sub hc (by decide) (by decide)) h6).trans e5
          exact (ih _ _ hm hK87).trans e6
        · have hm := (if_neg q3).symm.trans hm
          obtain ⟨r15, σ16, h7, hm⟩ := bd_some hm
          have e7 := (fr_X10_target (nt_sub hc (by decide) (by decide)) h7).trans rfl
          obtain ⟨r18, σ19, h8, hm⟩ := bd_some hm
          have e8 := (fr_X1_add (nt_sub hc (by decide) (by decide)) h8).trans e7
          obtain ⟨r21, σ22, h9, hm⟩ := bd_some hm
          have e9 := (fr_X10_saveTarget (nt_sub hc (by decide) (by decide)) h9).trans e8
          exact (ih _ _ hm hK87).trans e9
theorem fr_X10_writeEntry {N n : Nat} {σ : Sg} {p1 : Int32} {r : Int32} {σ' : Sg} {c j : Nat} (hc : nt [41, 42] [(39, 2)] c j = true) (hm : f_X10_writeEntry N n σ p1 = some (r, σ')) : σ' c j = σ c j := by
  unfold f_X10_writeEntry at hm
  refine (frl_X10_writeEntry_2 (nt_sub hc (by decide) (by decide)) N _ _ hm ?_).trans rfl
  intro σ24 w25 hm
  cases hm
  exact rfl
theorem fr_X10_writeMove {N n : Nat} {σ : Sg} {p0 : Int32} {p1 : Int32} {r : Int32} {σ' : Sg} {c j : Nat} (hc : nt [41, 42] [(39, 2)] c j = true) (hm : f_X10_writeMove N n σ p0 p1 = some (r, σ')) : σ' c j = σ c j := by
  unfold f_X10_writeMove at hm
  obtain ⟨r1, σ2, h1, hm⟩ := bd_some hm
  have e1 := (fr_X2_slotOf (nt_sub hc (by decide) (by decide)) h1).trans rfl
  obtain ⟨r4, σ5, h2, hm⟩ := bd_some hm
  have e2 := (fr_X2_slotOf (nt_sub hc (by decide) (by decide)) h2).trans e1
  by_cases q3 : r1 = (-1)
  · have hm := (if_pos q3).symm.trans hm
    obtain ⟨r22, σ23, h4, hm⟩ := bd_some hm
    have e4 := (fr_X2_registerOf (nt_sub hc (by decide) (by decide)) h4).trans e2
    obtain ⟨r25, σ26, h5, hm⟩ := bd_some hm
    have e5 := (fr_X10_moveInto (nt_sub hc (by decide) (by decide)) h5).trans e4
    cases hm
    exact e5
  · have hm := (if_neg q3).symm.trans hm
    by_cases q6 : r4 = (-1)
    · have hm := (if_pos q6).symm.trans hm
      obtain ⟨r16, σ17, h7, hm⟩ := bd_some hm
      have e7 := (fr_X2_registerOf (nt_sub hc (by decide) (by decide)) h7).trans e2
      obtain ⟨r19, σ20, h8, hm⟩ := bd_some hm
      have e8 := (fr_X1_add (nt_sub hc (by decide) (by decide)) h8).trans e7
      cases hm
      exact e8
    · have hm := (if_neg q6).symm.trans hm
      by_cases q9 : r1 = r4
      · have hm := (if_pos q9).symm.trans hm
        cases hm
        exact e2
      · have hm := (if_neg q9).symm.trans hm
        obtain ⟨r10, σ11, h10, hm⟩ := bd_some hm
        have e10 := (fr_X1_add (nt_sub hc (by decide) (by decide)) h10).trans e2
        obtain ⟨r13, σ14, h11, hm⟩ := bd_some hm
        have e11 := (fr_X1_add (nt_sub hc (by decide) (by decide)) h11).trans e10
        cases hm
        exact e11
theorem fr_X1_addWork {N n : Nat} {σ : Sg} {p0 : Int32} {p1 : Int32} {p2 : Int32} {p3 : Int32} {p4 : Int32} {r : Int32} {σ' : Sg} {c j : Nat} (hc : nt [41, 42] [(39, 2)] c j = true) (hm : f_X1_addWork N n σ p0 p1 p2 p3 p4 = some (r, σ')) : σ' c j = σ c j := by
  unfold f_X1_addWork at hm
  obtain ⟨r1, σ2, h1, hm⟩ := bd_some hm
  have e1 := (fr_X1_add (nt_sub hc (by decide) (by decide)) h1).trans rfl
  obtain ⟨_, hm⟩ := gb_some hm
  obtain ⟨_, hm⟩ := gb_some hm
  cases hm
  exact ((sg_t hc (by decide)).trans ((sg_t hc (by decide)).trans e1))
theorem fr_X10_writeWork {N n : Nat} {σ : Sg} {p0 : Int32} {r : Int32} {σ' : Sg} {c j : Nat} (hc : nt [41, 42] [(39, 2)] c j = true) (hm : f_X10_writeWork N n σ p0 = some (r, σ')) : σ' c j = σ c j := by
  unfold f_X10_writeWork at hm
  obtain ⟨_, hm⟩ := gb_some hm
  obtain ⟨_, hm⟩ := gb_some hm
  obtain ⟨r3, σ4, h1, hm⟩ := bd_some hm
  have e1 := (fr_X10_loaded (nt_sub hc (by decide) (by decide)) h1).trans rfl
  obtain ⟨_, hm⟩ := gb_some hm
  obtain ⟨_, hm⟩ := gb_some hm
  obtain ⟨r8, σ9, h2, hm⟩ := bd_some hm
  have e2 := (fr_X10_loaded (nt_sub hc (by decide) (by decide)) h2).trans e1
  obtain ⟨_, hm⟩ := gb_some hm
  obtain ⟨r12, σ13, h3, hm⟩ := bd_some hm
  have e3 := (fr_X10_target (nt_sub hc (by decide) (by decide)) h3).trans e2
  obtain ⟨_, hm⟩ := gb_some hm
  obtain ⟨r16, σ17, h4, hm⟩ := bd_some hm
  have e4 := (fr_X1_addWork (nt_sub hc (by decide) (by decide)) h4).trans e3
  obtain ⟨_, hm⟩ := gb_some hm
  obtain ⟨r20, σ21, h5, hm⟩ := bd_some hm
  have e5 := (fr_X10_saveTarget (nt_sub hc (by decide) (by decide)) h5).trans e4
  cases hm
  exact e5
theorem fr_X10_writeSwap {N n : Nat} {σ : Sg} {p0 : Int32} {p1 : Int32} {r : Int32} {σ' : Sg} {c j : Nat} (hc : nt [41, 42] [(39, 2)] c j = true) (hm : f_X10_writeSwap N n σ p0 p1 = some (r, σ')) : σ' c j = σ c j := by
  unfold f_X10_writeSwap at hm
  obtain ⟨r1, σ2, h1, hm⟩ := bd_some hm
  have e1 := (fr_X2_slotOf (nt_sub hc (by decide) (by decide)) h1).trans rfl
  by_cases q2 : r1 = (-1)
  · have hm := (if_pos q2).symm.trans hm
    obtain ⟨r17, σ18, h3, hm⟩ := bd_some hm
    have e3 := (fr_X2_slotOf (nt_sub hc (by decide) (by decide)) h3).trans e1
    by_cases q4 : r17 = (-1)
    · have hm := (if_pos q4).symm.trans hm
      obtain ⟨r33, σ34, h5, hm⟩ := bd_some hm
      have e5 := (fr_X2_registerOf (nt_sub hc (by decide) (by decide)) h5).trans e3
      obtain ⟨r36, σ37, h6, hm⟩ := bd_some hm
      have e6 := (fr_X2_registerOf (nt_sub hc (by decide) (by decide)) h6).trans e5
      obtain ⟨r39, σ40, h7, hm⟩ := bd_some hm
      have e7 := (fr_X1_add (nt_sub hc (by decide) (by decide)) h7).trans e6
      cases hm
      exact e7
    · have hm := (if_neg q4).symm.trans hm
      obtain ⟨r21, σ22, h8, hm⟩ := bd_some hm
      have e8 := (fr_X10_moveInto (nt_sub hc (by decide) (by decide)) h8).trans e3
      obtain ⟨r24, σ25, h9, hm⟩ := bd_some hm
      have e9 := (fr_X10_moveInto (nt_sub hc (by decide) (by decide)) h9).trans e8
      obtain ⟨r27, σ28, h10, hm⟩ := bd_some hm
      have e10 := (fr_X10_moveFrom (nt_sub hc (by decide) (by decide)) h10).trans e9
      obtain ⟨r30, σ31, h11, hm⟩ := bd_some hm
      have e11 := (fr_X10_moveFrom (nt_sub hc (by decide) (by decide)) h11).trans e10
      cases hm
      exact e11
  · have hm := (if_neg q2).symm.trans hm
    obtain ⟨r5, σ6, h12, hm⟩ := bd_some hm
    have e12 := (fr_X10_moveInto (nt_sub hc (by decide) (by decide)) h12).trans e1
    obtain ⟨r8, σ9, h13, hm⟩ := bd_some hm
    have e13 := (fr_X10_moveInto (nt_sub hc (by decide) (by decide)) h13).trans e12
    obtain ⟨r11, σ12, h14, hm⟩ := bd_some hm
    have e14 := (fr_X10_moveFrom (nt_sub hc (by decide) (by decide)) h14).trans e13
    obtain ⟨r14, σ15, h15, hm⟩ := bd_some hm
    have e15 := (fr_X10_moveFrom (nt_sub hc (by decide) (by decide)) h15).trans e14
    cases hm
    exact e15
theorem fr_X10_writeRead {N n : Nat} {σ : Sg} {p0 : Int32} {p1 : Int32} {r : Int32} {σ' : Sg} {c j : Nat} (hc : nt [41, 42] [(39, 2)] c j = true) (hm : f_X10_writeRead N n σ p0 p1 = some (r, σ')) : σ' c j = σ c j := by
  unfold f_X10_writeRead at hm
  obtain ⟨r1, σ2, h1, hm⟩ := bd_some hm
  have e1 := (fr_X10_loaded (nt_sub hc (by decide) (by decide)) h1).trans rfl
  obtain ⟨r4, σ5, h2, hm⟩ := bd_some hm
  have e2 := (fr_X10_target (nt_sub hc (by decide) (by decide)) h2).trans e1
  obtain ⟨r7, σ8, h3, hm⟩ := bd_some hm
  have e3 := (fr_X1_add (nt_sub hc (by decide) (by decide)) h3).trans e2
  obtain ⟨r10, σ11, h4, hm⟩ := bd_some hm
  have e4 := (fr_X10_saveTarget (nt_sub hc (by decide) (by decide)) h4).trans e3
  cases hm
  exact e4
theorem fr_X10_writeWrite {N n : Nat} {σ : Sg} {p0 : Int32} {p1 : Int32} {r : Int32} {σ' : Sg} {c j : Nat} (hc : nt [41, 42] [(39, 2)] c j = true) (hm : f_X10_writeWrite N n σ p0 p1 = some (r, σ')) : σ' c j = σ c j := by
  unfold f_X10_writeWrite at hm
  obtain ⟨r1, σ2, h1, hm⟩ := bd_some hm
  have e1 := (fr_X10_loaded (nt_sub hc (by decide) (by decide)) h1).trans rfl
  obtain ⟨r4, σ5, h2, hm⟩ := bd_some hm
  have e2 := (fr_X10_loaded (nt_sub hc (by decide) (by decide)) h2).trans e1
  obtain ⟨r7, σ8, h3, hm⟩ := bd_some hm
  have e3 := (fr_X1_add (nt_sub hc (by decide) (by decide)) h3).trans e2
  cases hm
  exact e3
theorem fr_X10_writePlace {N n : Nat} {σ : Sg} {p0 : Int32} {r : Int32} {σ' : Sg} {c j : Nat} (hc : nt [41, 42] [(39, 2)] c j = true) (hm : f_X10_writePlace N n σ p0 = some (r, σ')) : σ' c j = σ c j := by
  unfold f_X10_writePlace at hm
  obtain ⟨_, hm⟩ := gb_some hm
  by_cases q1 : (σ 14 (ix p0)) = 0
  · have hm := (if_pos q1).symm.trans hm
    obtain ⟨_, hm⟩ := gb_some hm
    obtain ⟨r4, σ5, h2, hm⟩ := bd_some hm
    have e2 := (fr_X10_target (nt_sub hc (by decide) (by decide)) h2).trans rfl
    obtain ⟨_, hm⟩ := gb_some hm
    obtain ⟨r8, σ9, h3, hm⟩ := bd_some hm
    have e3 := (fr_X1_add (nt_sub hc (by decide) (by decide)) h3).trans e2
    obtain ⟨_, hm⟩ := gb_some hm
    obtain ⟨r12, σ13, h4, hm⟩ := bd_some hm
    have e4 := (fr_X10_saveTarget (nt_sub hc (by decide) (by decide)) h4).trans e3
    cases hm
    exact e4
  · have hm := (if_neg q1).symm.trans hm
    by_cases q5 : (σ 14 (ix p0)) = 1
    · have hm := (if_pos q5).symm.trans hm
      obtain ⟨_, hm⟩ := gb_some hm
      obtain ⟨_, hm⟩ := gb_some hm
      obtain ⟨_, hm⟩ := gb_some hm
      obtain ⟨r19, σ20, h6, hm⟩ := bd_some hm
      have e6 := (fr_X10_writeMove (nt_sub hc (by decide) (by decide)) h6).trans rfl
      cases hm
      exact e6
    · have hm := (if_neg q5).symm.trans hm
      by_cases q7 : (σ 14 (ix p0)) = 2
      · have hm := (if_pos q7).symm.trans hm
        obtain ⟨r23, σ24, h8, hm⟩ := bd_some hm
        have e8 := (fr_X10_writeWork (nt_sub hc (by decide) (by decide)) h8).trans rfl
        cases hm
        exact e8
      · have hm := (if_neg q7).symm.trans hm
        by_cases q9 : (σ 14 (ix p0)) = 3
        · have hm := (if_pos q9).symm.trans hm
          obtain ⟨_, hm⟩ := gb_some hm
          obtain ⟨_, hm⟩ := gb_some hm
          obtain ⟨_, hm⟩ := gb_some hm
          obtain ⟨_, hm⟩ := gb_some hm
          obtain ⟨r31, σ32, h10, hm⟩ := bd_some hm
          have e10 := (fr_X10_writeSwap (nt_sub hc (by decide) (by decide)) h10).trans rfl
          cases hm
          exact e10
        · have hm := (if_neg q9).symm.trans hm
          by_cases q11 : (σ 14 (ix p0)) = 4
          · have hm := (if_pos q11).symm.trans hm
            obtain ⟨_, hm⟩ := gb_some hm
            obtain ⟨r36, σ37, h12, hm⟩ := bd_some hm
            have e12 := (fr_X1_add (nt_sub hc (by decide) (by decide)) h12).trans rfl
            cases hm
            exact e12
          · have hm := (if_neg q11).symm.trans hm
            by_cases q13 : (σ 14 (ix p0)) = 5
            · have hm := (if_pos q13).symm.trans hm
              obtain ⟨_, hm⟩ := gb_some hm
              obtain ⟨_, hm⟩ := gb_some hm
              obtain ⟨r42, σ43, h14, hm⟩ := bd_some hm
              have e14 := (fr_X10_loaded (nt_sub hc (by decide) (by decide)) h14).trans rfl
              obtain ⟨_, hm⟩ := gb_some hm
              obtain ⟨r46, σ47, h15, hm⟩ := bd_some hm
              have e15 := (fr_X1_add (nt_sub hc (by decide) (by decide)) h15).trans e14
              cases hm
              exact e15
            · have hm := (if_neg q13).symm.trans hm
              by_cases q16 : (σ 14 (ix p0)) = 6
              · have hm := (if_pos q16).symm.trans hm
                obtain ⟨_, hm⟩ := gb_some hm
                obtain ⟨_, hm⟩ := gb_some hm
                obtain ⟨r52, σ53, h17, hm⟩ := bd_some hm
                have e17 := (fr_X10_loaded (nt_sub hc (by decide) (by decide)) h17).trans rfl
                obtain ⟨r55, σ56, h18, hm⟩ := bd_some hm
                have e18 := (fr_X1_add (nt_sub hc (by decide) (by decide)) h18).trans e17
                cases hm
                exact e18
              · have hm := (if_neg q16).symm.trans hm
                by_cases q19 : (σ 14 (ix p0)) = 7
                · have hm := (if_pos q19).symm.trans hm
                  obtain ⟨_, hm⟩ := gb_some hm
                  obtain ⟨_, hm⟩ := gb_some hm
                  obtain ⟨_, hm⟩ := gb_some hm
                  obtain ⟨r62, σ63, h20, hm⟩ := bd_some hm
                  have e20 := (fr_X10_writeRead (nt_sub hc (by decide) (by decide)) h20).trans rfl
                  cases hm
                  exact e20
                · have hm := (if_neg q19).symm.trans hm
                  by_cases q21 : (σ 14 (ix p0)) = 8
                  · have hm := (if_pos q21).symm.trans hm
                    obtain ⟨_, hm⟩ := gb_some hm
                    obtain ⟨_, hm⟩ := gb_some hm
                    obtain ⟨_, hm⟩ := gb_some hm
                    obtain ⟨_, hm⟩ := gb_some hm
                    obtain ⟨r70, σ71, h22, hm⟩ := bd_some hm
                    have e22 := (fr_X10_writeWrite (nt_sub hc (by decide) (by decide)) h22).trans rfl
                    cases hm
                    exact e22
                  · have hm := (if_neg q21).symm.trans hm
                    obtain ⟨r73, σ74, h23, hm⟩ := bd_some hm
                    have e23 := (fr_X10_writeCall (nt_sub hc (by decide) (by decide)) h23).trans rfl
                    cases hm
                    exact e23
theorem frl_X1_aim_44_2 {N n : Nat} {u1 : Int32} {K95 : (Sg → Int32 → Option (Int32 × Sg))} {out : Int32 × Sg} {c j : Nat} (hc : nt [42] [] c j = true) : ∀ (k : Nat) (σ : Sg) (v3 : Int32), lf_X1_aim_44_2 N n u1 K95 k σ v3 = some out → (∀ (σ : Sg) (v3 : Int32), K95 σ v3 = some out → out.2 c j = σ c j) → out.2 c j = σ c j := by
  intro k
  induction k with
  | zero => intro σ v3 hm; exact nomatch (show none = some out from hm)
  | succ k ih =>
    intro σ v3 hm hK95
    have hm : lb_X1_aim_44_2 N n u1 K95 (lf_X1_aim_44_2 N n u1 K95 k) σ v3 = some out := hm
    unfold lb_X1_aim_44_2 at hm
    obtain ⟨_, hm⟩ := gb_some hm
    by_cases q1 : (σ 41 (ix u1)) ≤ v3
    · have hm := (if_pos q1).symm.trans hm
      exact (hK95 _ _ hm).trans rfl
    · have hm := (if_neg q1).symm.trans hm
      obtain ⟨_, hm⟩ := gb_some hm
      obtain ⟨_, hm⟩ := gb_some hm
      by_cases q2 : (σ 42 (ix (((σ 40 (ix u1)) + v3) * 5))) = 4
      · have hm := (if_pos q2).symm.trans hm
        obtain ⟨_, hm⟩ := gb_some hm
        obtain ⟨_, hm⟩ := gb_some hm
        obtain ⟨_, hm⟩ := gb_some hm
        exact (ih _ _ hm hK95).trans ((sg_t hc (by decide)).trans rfl)
      · have hm := (if_neg q2).symm.trans hm
        obtain ⟨_, hm⟩ := gb_some hm
        by_cases q3 : (σ 42 (ix (((σ 40 (ix u1)) + v3) * 5))) = 5
        · have hm := (if_pos q3).symm.trans hm
          obtain ⟨_, hm⟩ := gb_some hm
          obtain ⟨_, hm⟩ := gb_some hm
          obtain ⟨_, hm⟩ := gb_some hm
          exact (ih _ _ hm hK95).trans ((sg_t hc (by decide)).trans rfl)
        · have hm := (if_neg q3).symm.trans hm
          exact (ih _ _ hm hK95).trans rfl
theorem fr_X1_aim_44 {N n : Nat} {σ : Sg} {p0 : Int32} {r : Int32} {σ' : Sg} {c j : Nat} (hc : nt [42] [] c j = true) (hm : f_X1_aim_44 N n σ p0 = some (r, σ')) : σ' c j = σ c j := by
  unfold f_X1_aim_44 at hm
  refine (frl_X1_aim_44_2 (nt_sub hc (by decide) (by decide)) N _ _ hm ?_).trans rfl
  intro σ14 w15 hm
  cases hm
  exact rfl
theorem frl_X10_writePlaces_2 {N n : Nat}  {K42 : (Sg → Int32 → Option (Int32 × Sg))} {out : Int32 × Sg} {c j : Nat} (hc : nt [41, 42, 44] [(39, 2)] c j = true) : ∀ (k : Nat) (σ : Sg) (v1 : Int32), lf_X10_writePlaces_2 N n  K42 k σ v1 = some out → (∀ (σ : Sg) (v1 : Int32), K42 σ v1 = some out → out.2 c j = σ c j) → out.2 c j = σ c j := by
  intro k
  induction k with
  | zero => intro σ v1 hm; exact nomatch (show none = some out from hm)
  | succ k ih =>
    intro σ v1 hm hK42
    have hm : lb_X10_writePlaces_2 N n  K42 (lf_X10_writePlaces_2 N n  K42 k) σ v1 = some out := hm
    unfold lb_X10_writePlaces_2 at hm
    by_cases q1 : (σ 13 6) ≤ v1
    · have hm := (if_pos q1).symm.trans hm
      exact (hK42 _ _ hm).trans rfl
    · have hm := (if_neg q1).symm.trans hm
      obtain ⟨_, hm⟩ := gb_some hm
      obtain ⟨_, hm⟩ := gb_some hm
      obtain ⟨r4, σ5, h2, hm⟩ := bd_some hm
      have e2 := (fr_X10_writePlace (nt_sub hc (by decide) (by decide)) h2).trans ((sg_t hc (by decide)).trans rfl)
      exact (ih _ _ hm hK42).trans e2
theorem fr_X10_writePlaces {N n : Nat} {σ : Sg}  {r : Int32} {σ' : Sg} {c j : Nat} (hc : nt [41, 42, 44] [(39, 2)] c j = true) (hm : f_X10_writePlaces N n σ  = some (r, σ')) : σ' c j = σ c j := by
  unfold f_X10_writePlaces at hm
  refine (frl_X10_writePlaces_2 (nt_sub hc (by decide) (by decide)) N _ _ hm ?_).trans rfl
  intro σ7 w8 hm
  obtain ⟨r9, σ10, h1, hm⟩ := bd_some hm
  have e1 := (fr_X1_aim_44 (nt_sub hc (by decide) (by decide)) h1).trans rfl
  cases hm
  exact e1
theorem fr_X4_begin_X8 {N n : Nat} {σ : Sg}  {r : Int32} {σ' : Sg} {c j : Nat} (hc : nt [] [(45, 3), (45, 4), (45, 5), (45, 6), (45, 7)] c j = true) (hm : f_X4_begin_X8 N n σ  = some (r, σ')) : σ' c j = σ c j := by
  unfold f_X4_begin_X8 at hm
  cases hm
  exact ((sg_u hc (by decide)).trans ((sg_u hc (by decide)).trans ((sg_u hc (by decide)).trans ((sg_u hc (by decide)).trans ((sg_u hc (by decide)).trans rfl)))))
theorem fr_X8_begin {N n : Nat} {σ : Sg}  {r : Int32} {σ' : Sg} {c j : Nat} (hc : nt [] [(45, 3), (45, 4), (45, 5), (45, 6), (45, 7), (45, 12)] c j = true) (hm : f_X8_begin N n σ  = some (r, σ')) : σ' c j = σ c j := by
  unfold f_X8_begin at hm
  obtain ⟨r1, σ2, h1, hm⟩ := bd_some hm
  have e1 := (fr_X4_begin_X8 (nt_sub hc (by decide) (by decide)) h1).trans rfl
  cases hm
  exact ((sg_u hc (by decide)).trans e1)
theorem fr_X4_begin_X7 {N n : Nat} {σ : Sg}  {r : Int32} {σ' : Sg} {c j : Nat} (hc : nt [] [(52, 3), (52, 4), (52, 5), (52, 6), (52, 7)] c j = true) (hm : f_X4_begin_X7 N n σ  = some (r, σ')) : σ' c j = σ c j := by
  unfold f_X4_begin_X7 at hm
  cases hm
  exact ((sg_u hc (by decide)).trans ((sg_u hc (by decide)).trans ((sg_u hc (by decide)).trans ((sg_u hc (by decide)).trans ((sg_u hc (by decide)).trans rfl)))))
theorem fr_X7_begin {N n : Nat} {σ : Sg}  {r : Int32} {σ' : Sg} {c j : Nat} (hc : nt [58] [(52, 3), (52, 4), (52, 5), (52, 6), (52, 7), (52, 12)] c j = true) (hm : f_X7_begin N n σ  = some (r, σ')) : σ' c j = σ c j := by
  unfold f_X7_begin at hm
  obtain ⟨r1, σ2, h1, hm⟩ := bd_some hm
  have e1 := (fr_X4_begin_X7 (nt_sub hc (by decide) (by decide)) h1).trans rfl
  obtain ⟨r4, σ5, h2, hm⟩ := bd_some hm
  have e2 := (fr_J7_fill_53178_58 (nt_sub hc (by decide) (by decide)) h2).trans ((sg_u hc (by decide)).trans e1)
  cases hm
  exact e2
theorem fr_X11_beginMachines {N n : Nat} {σ : Sg}  {r : Int32} {σ' : Sg} {c j : Nat} (hc : nt [58] [(45, 3), (45, 4), (45, 5), (45, 6), (45, 7), (45, 12), (52, 3), (52, 4), (52, 5), (52, 6), (52, 7), (52, 12)] c j = true) (hm : f_X11_beginMachines N n σ  = some (r, σ')) : σ' c j = σ c j := by
  unfold f_X11_beginMachines at hm
  obtain ⟨r1, σ2, h1, hm⟩ := bd_some hm
  have e1 := (fr_X8_begin (nt_sub hc (by decide) (by decide)) h1).trans rfl
  obtain ⟨r4, σ5, h2, hm⟩ := bd_some hm
  have e2 := (fr_X7_begin (nt_sub hc (by decide) (by decide)) h2).trans e1
  cases hm
  exact e2
theorem fr_X11_again {N n : Nat} {σ : Sg}  {r : Int32} {σ' : Sg} {c j : Nat} (hc : nt [58] [(45, 3), (45, 4), (45, 5), (45, 6), (45, 7), (45, 12), (52, 3), (52, 4), (52, 5), (52, 6), (52, 7), (52, 12)] c j = true) (hm : f_X11_again N n σ  = some (r, σ')) : σ' c j = σ c j := by
  unfold f_X11_again at hm
  by_cases q1 : (σ 1 9) = 0
  · have hm := (if_pos q1).symm.trans hm
    cases hm
    exact rfl
  · have hm := (if_neg q1).symm.trans hm
    obtain ⟨r2, σ3, h2, hm⟩ := bd_some hm
    have e2 := (fr_X11_beginMachines (nt_sub hc (by decide) (by decide)) h2).trans rfl
    cases hm
    exact e2
theorem fr_X11_cell {N n : Nat} {σ : Sg} {p0 : Int32} {p1 : Int32} {r : Int32} {σ' : Sg} {c j : Nat} (hc : nt [46, 53] [] c j = true) (hm : f_X11_cell N n σ p0 p1 = some (r, σ')) : σ' c j = σ c j := by
  unfold f_X11_cell at hm
  by_cases q1 : p0 < 0
  · have hm := (if_pos q1).symm.trans hm
    cases hm
    exact rfl
  · have hm := (if_neg q1).symm.trans hm
    by_cases q2 : p0 < 64
    · have hm := (if_pos q2).symm.trans hm
      obtain ⟨_, hm⟩ := gb_some hm
      obtain ⟨_, hm⟩ := gb_some hm
      cases hm
      exact ((sg_t hc (by decide)).trans ((sg_t hc (by decide)).trans rfl))
    · have hm := (if_neg q2).symm.trans hm
      cases hm
      exact rfl
theorem fr_X11_check {N n : Nat} {σ : Sg}  {r : Int32} {σ' : Sg} {c j : Nat} (hc : nt [8, 10] [(1, 9), (9, 2)] c j = true) (hm : f_X11_check N n σ  = some (r, σ')) : σ' c j = σ c j := by
  unfold f_X11_check at hm
  by_cases q1 : (σ 1 9) = 0
  · have hm := (if_pos q1).symm.trans hm
    obtain ⟨r2, σ3, h2, hm⟩ := bd_some hm
    have e2 := (fr_X0_firstFault (nt_sub hc (by decide) (by decide)) h2).trans rfl
    by_cases q3 : r2 = 0
    · have hm := (if_pos q3).symm.trans hm
      cases hm
      exact ((sg_u hc (by decide)).trans e2)
    · have hm := (if_neg q3).symm.trans hm
      cases hm
      exact ((sg_u hc (by decide)).trans e2)
  · have hm := (if_neg q1).symm.trans hm
    cases hm
    exact rfl
theorem fr_X6_empty {N n : Nat} {σ : Sg}  {r : Int32} {σ' : Sg} {c j : Nat} (hc : nt [] [(1, 7), (1, 8), (1, 9)] c j = true) (hm : f_X6_empty N n σ  = some (r, σ')) : σ' c j = σ c j := by
  unfold f_X6_empty at hm
  cases hm
  exact ((sg_u hc (by decide)).trans ((sg_u hc (by decide)).trans ((sg_u hc (by decide)).trans rfl)))
theorem fr_X11_clear {N n : Nat} {σ : Sg}  {r : Int32} {σ' : Sg} {c j : Nat} (hc : nt [46, 53, 58] [(1, 7), (1, 8), (1, 9), (11, 7), (45, 3), (45, 4), (45, 5), (45, 6), (45, 7), (45, 12), (52, 3), (52, 4), (52, 5), (52, 6), (52, 7), (52, 12)] c j = true) (hm : f_X11_clear N n σ  = some (r, σ')) : σ' c j = σ c j := by
  unfold f_X11_clear at hm
  obtain ⟨r1, σ2, h1, hm⟩ := bd_some hm
  have e1 := (fr_X6_empty (nt_sub hc (by decide) (by decide)) h1).trans rfl
  obtain ⟨r4, σ5, h2, hm⟩ := bd_some hm
  have e2 := (fr_X11_beginMachines (nt_sub hc (by decide) (by decide)) h2).trans ((sg_u hc (by decide)).trans e1)
  obtain ⟨r7, σ8, h3, hm⟩ := bd_some hm
  have e3 := (fr_J7_fill_53178_46 (nt_sub hc (by decide) (by decide)) h3).trans e2
  obtain ⟨r10, σ11, h4, hm⟩ := bd_some hm
  have e4 := (fr_J7_fill_53178_53 (nt_sub hc (by decide) (by decide)) h4).trans e3
  cases hm
  exact e4
theorem fr_X11_count {N n : Nat} {σ : Sg} {p0 : Int32} {r : Int32} {σ' : Sg} {c j : Nat} (hc : nt [] [] c j = true) (hm : f_X11_count N n σ p0 = some (r, σ')) : σ' c j = σ c j := by
  unfold f_X11_count at hm
  by_cases q1 : p0 = 0
  · have hm := (if_pos q1).symm.trans hm
    cases hm
    exact rfl
  · have hm := (if_neg q1).symm.trans hm
    by_cases q2 : p0 = 1
    · have hm := (if_pos q2).symm.trans hm
      cases hm
      exact rfl
    · have hm := (if_neg q2).symm.trans hm
      by_cases q3 : p0 = 2
      · have hm := (if_pos q3).symm.trans hm
        by_cases q4 : (σ 1 9) = 0
        · have hm := (if_pos q4).symm.trans hm
          cases hm
          exact rfl
        · have hm := (if_neg q4).symm.trans hm
          cases hm
          exact rfl
      · have hm := (if_neg q3).symm.trans hm
        by_cases q5 : p0 = 3
        · have hm := (if_pos q5).symm.trans hm
          cases hm
          exact rfl
        · have hm := (if_neg q5).symm.trans hm
          by_cases q6 : p0 = 4
          · have hm := (if_pos q6).symm.trans hm
            by_cases q7 : (σ 11 7) = 0
            · have hm := (if_pos q7).symm.trans hm
              cases hm
              exact rfl
            · have hm := (if_neg q7).symm.trans hm
              cases hm
              exact rfl
          · have hm := (if_neg q6).symm.trans hm
            cases hm
            exact rfl
theorem fr_X11_depth {N n : Nat} {σ : Sg} {p0 : Int32} {p1 : Int32} {r : Int32} {σ' : Sg} {c j : Nat} (hc : nt [] [] c j = true) (hm : f_X11_depth N n σ p0 p1 = some (r, σ')) : σ' c j = σ c j := by
  unfold f_X11_depth at hm
  by_cases q1 : (σ 1 9) = 0
  · have hm := (if_pos q1).symm.trans hm
    cases hm
    exact rfl
  · have hm := (if_neg q1).symm.trans hm
    obtain ⟨r2, σ3, h2, hm⟩ := bd_some hm
    have e2 := (fr_X6_hasFunc (nt_sub hc (by decide) (by decide)) h2).trans rfl
    by_cases q3 : r2 = 0
    · have hm := (if_pos q3).symm.trans hm
      cases hm
      exact e2
    · have hm := (if_neg q3).symm.trans hm
      by_cases q4 : p1 < 0
      · have hm := (if_pos q4).symm.trans hm
        cases hm
        exact e2
      · have hm := (if_neg q4).symm.trans hm
        obtain ⟨_, hm⟩ := gb_some hm
        by_cases q5 : p1 < (σ3 5 (ix p0))
        · have hm := (if_pos q5).symm.trans hm
          obtain ⟨_, hm⟩ := gb_some hm
          obtain ⟨_, hm⟩ := gb_some hm
          cases hm
          exact e2
        · have hm := (if_neg q5).symm.trans hm
          cases hm
          exact e2
theorem fr_X6_addFunc {N n : Nat} {σ : Sg} {p0 : Int32} {p1 : Int32} {r : Int32} {σ' : Sg} {c j : Nat} (hc : nt [2, 3, 4, 5] [(1, 7)] c j = true) (hm : f_X6_addFunc N n σ p0 p1 = some (r, σ')) : σ' c j = σ c j := by
  unfold f_X6_addFunc at hm
  obtain ⟨_, hm⟩ := gb_some hm
  obtain ⟨_, hm⟩ := gb_some hm
  obtain ⟨_, hm⟩ := gb_some hm
  obtain ⟨_, hm⟩ := gb_some hm
  cases hm
  exact ((sg_u hc (by decide)).trans ((sg_t hc (by decide)).trans ((sg_t hc (by decide)).trans ((sg_t hc (by decide)).trans ((sg_t hc (by decide)).trans rfl)))))
theorem fr_X11_func {N n : Nat} {σ : Sg} {p0 : Int32} {p1 : Int32} {r : Int32} {σ' : Sg} {c j : Nat} (hc : nt [2, 3, 4, 5] [(1, 7)] c j = true) (hm : f_X11_func N n σ p0 p1 = some (r, σ')) : σ' c j = σ c j := by
  unfold f_X11_func at hm
  by_cases q1 : p0 < 0
  · have hm := (if_pos q1).symm.trans hm
    cases hm
    exact rfl
  · have hm := (if_neg q1).symm.trans hm
    by_cases q2 : 6 < p0
    · have hm := (if_pos q2).symm.trans hm
      cases hm
      exact rfl
    · have hm := (if_neg q2).symm.trans hm
      by_cases q3 : p1 < p0
      · have hm := (if_pos q3).symm.trans hm
        cases hm
        exact rfl
      · have hm := (if_neg q3).symm.trans hm
        by_cases q4 : 10 < p1
        · have hm := (if_pos q4).symm.trans hm
          cases hm
          exact rfl
        · have hm := (if_neg q4).symm.trans hm
          by_cases q5 : (σ 1 9) = 0
          · have hm := (if_pos q5).symm.trans hm
            by_cases q6 : (σ 1 7) < 12
            · have hm := (if_pos q6).symm.trans hm
              obtain ⟨r7, σ8, h7, hm⟩ := bd_some hm
              have e7 := (fr_X6_addFunc (nt_sub hc (by decide) (by decide)) h7).trans rfl
              cases hm
              exact e7
            · have hm := (if_neg q6).symm.trans hm
              cases hm
              exact rfl
          · have hm := (if_neg q5).symm.trans hm
            cases hm
            exact rfl
theorem fr_X11_isTurned {N n : Nat} {σ : Sg} {p0 : Int32} {r : Int32} {σ' : Sg} {c j : Nat} (hc : nt [] [] c j = true) (hm : f_X11_isTurned N n σ p0 = some (r, σ')) : σ' c j = σ c j := by
  unfold f_X11_isTurned at hm
  by_cases q1 : (σ 11 7) = 0
  · have hm := (if_pos q1).symm.trans hm
    cases hm
    exact rfl
  · have hm := (if_neg q1).symm.trans hm
    obtain ⟨r2, σ3, h2, hm⟩ := bd_some hm
    have e2 := (fr_X6_hasFunc (nt_sub hc (by decide) (by decide)) h2).trans rfl
    by_cases q3 : r2 = 0
    · have hm := (if_pos q3).symm.trans hm
      cases hm
      exact e2
    · have hm := (if_neg q3).symm.trans hm
      cases hm
      exact e2
theorem fr_X11_places {N n : Nat} {σ : Sg} {p0 : Int32} {r : Int32} {σ' : Sg} {c j : Nat} (hc : nt [] [] c j = true) (hm : f_X11_places N n σ p0 = some (r, σ')) : σ' c j = σ c j := by
  unfold f_X11_places at hm
  obtain ⟨r1, σ2, h1, hm⟩ := bd_some hm
  have e1 := (fr_X11_isTurned (nt_sub hc (by decide) (by decide)) h1).trans rfl
  by_cases q2 : r1 = 0
  · have hm := (if_pos q2).symm.trans hm
    cases hm
    exact e1
  · have hm := (if_neg q2).symm.trans hm
    obtain ⟨_, hm⟩ := gb_some hm
    cases hm
    exact e1
theorem fr_X11_reckon {N n : Nat} {σ : Sg} {p0 : Int32} {p1 : Int32} {p2 : Int32} {r : Int32} {σ' : Sg} {c j : Nat} (hc : nt [] [] c j = true) (hm : f_X11_reckon N n σ p0 p1 p2 = some (r, σ')) : σ' c j = σ c j := by
  unfold f_X11_reckon at hm
  by_cases q1 : p0 = 3
  · have hm := (if_pos q1).symm.trans hm
    cases hm
    exact rfl
  · have hm := (if_neg q1).symm.trans hm
    by_cases q2 : p0 = 4
    · have hm := (if_pos q2).symm.trans hm
      cases hm
      exact rfl
    · have hm := (if_neg q2).symm.trans hm
      by_cases q3 : p0 = 5
      · have hm := (if_pos q3).symm.trans hm
        cases hm
        exact rfl
      · have hm := (if_neg q3).symm.trans hm
        by_cases q4 : p0 = 6
        · have hm := (if_pos q4).symm.trans hm
          by_cases q5 : p2 = 0
          · have hm := (if_pos q5).symm.trans hm
            cases hm
            exact rfl
          · have hm := (if_neg q5).symm.trans hm
            obtain ⟨_, hm⟩ := gdz_some hm
            cases hm
            exact rfl
        · have hm := (if_neg q4).symm.trans hm
          by_cases q6 : p0 = 7
          · have hm := (if_pos q6).symm.trans hm
            by_cases q7 : p2 ≤ p1
            · have hm := (if_pos q7).symm.trans hm
              cases hm
              exact rfl
            · have hm := (if_neg q7).symm.trans hm
              cases hm
              exact rfl
          · have hm := (if_neg q6).symm.trans hm
            by_cases q8 : p1 = p2
            · have hm := (if_pos q8).symm.trans hm
              cases hm
              exact rfl
            · have hm := (if_neg q8).symm.trans hm
              cases hm
              exact rfl
theorem fr_X4_room_X7 {N n : Nat} {σ : Sg}  {r : Int32} {σ' : Sg} {c j : Nat} (hc : nt [] [] c j = true) (hm : f_X4_room_X7 N n σ  = some (r, σ')) : σ' c j = σ c j := by
  unfold f_X4_room_X7 at hm
  cases hm
  exact rfl
theorem fr_X1_part {N n : Nat} {σ : Sg} {p0 : Int32} {p1 : Int32} {p2 : Int32} {r : Int32} {σ' : Sg} {c j : Nat} (hc : nt [] [] c j = true) (hm : f_X1_part N n σ p0 p1 p2 = some (r, σ')) : σ' c j = σ c j := by
  unfold f_X1_part at hm
  obtain ⟨_, hm⟩ := gb_some hm
  obtain ⟨_, hm⟩ := gb_some hm
  cases hm
  exact rfl
theorem fr_X4_finish_X7 {N n : Nat} {σ : Sg} {p0 : Int32} {r : Int32} {σ' : Sg} {c j : Nat} (hc : nt [] [(52, 3), (52, 7)] c j = true) (hm : f_X4_finish_X7 N n σ p0 = some (r, σ')) : σ' c j = σ c j := by
  unfold f_X4_finish_X7 at hm
  cases hm
  exact ((sg_u hc (by decide)).trans ((sg_u hc (by decide)).trans rfl))
theorem fr_X4_canReckon_X7 {N n : Nat} {σ : Sg} {p0 : Int32} {p1 : Int32} {r : Int32} {σ' : Sg} {c j : Nat} (hc : nt [] [(52, 3), (52, 7)] c j = true) (hm : f_X4_canReckon_X7 N n σ p0 p1 = some (r, σ')) : σ' c j = σ c j := by
  unfold f_X4_canReckon_X7 at hm
  by_cases q1 : p0 = 6
  · have hm := (if_pos q1).symm.trans hm
    by_cases q2 : p1 = 0
    · have hm := (if_pos q2).symm.trans hm
      obtain ⟨r3, σ4, h3, hm⟩ := bd_some hm
      have e3 := (fr_X4_finish_X7 (nt_sub hc (by decide) (by decide)) h3).trans rfl
      cases hm
      exact e3
    · have hm := (if_neg q2).symm.trans hm
      cases hm
      exact rfl
  · have hm := (if_neg q1).symm.trans hm
    cases hm
    exact rfl
theorem fr_X7_work {N n : Nat} {σ : Sg} {p0 : Int32} {p1 : Int32} {p2 : Int32} {r : Int32} {σ' : Sg} {c j : Nat} (hc : nt [56] [(52, 3), (52, 7)] c j = true) (hm : f_X7_work N n σ p0 p1 p2 = some (r, σ')) : σ' c j = σ c j := by
  unfold f_X7_work at hm
  obtain ⟨r1, σ2, h1, hm⟩ := bd_some hm
  have e1 := (fr_X1_part (nt_sub hc (by decide) (by decide)) h1).trans rfl
  obtain ⟨r4, σ5, h2, hm⟩ := bd_some hm
  have e2 := (fr_X1_part (nt_sub hc (by decide) (by decide)) h2).trans e1
  obtain ⟨_, hm⟩ := gb_some hm
  obtain ⟨r8, σ9, h3, hm⟩ := bd_some hm
  have e3 := (fr_X1_part (nt_sub hc (by decide) (by decide)) h3).trans e2
  obtain ⟨_, hm⟩ := gb_some hm
  obtain ⟨r12, σ13, h4, hm⟩ := bd_some hm
  have e4 := (fr_X4_canReckon_X7 (nt_sub hc (by decide) (by decide)) h4).trans e3
  by_cases q5 : r12 = 0
  · have hm := (if_pos q5).symm.trans hm
    cases hm
    exact e4
  · have hm := (if_neg q5).symm.trans hm
    obtain ⟨r16, σ17, h6, hm⟩ := bd_some hm
    have e6 := (fr_X1_part (nt_sub hc (by decide) (by decide)) h6).trans e4
    obtain ⟨r19, σ20, h7, hm⟩ := bd_some hm
    have e7 := (fr_X11_reckon (nt_sub hc (by decide) (by decide)) h7).trans e6
    obtain ⟨_, hm⟩ := gb_some hm
    cases hm
    exact ((sg_t hc (by decide)).trans e7)
theorem fr_X7_swap {N n : Nat} {σ : Sg} {p0 : Int32} {p1 : Int32} {r : Int32} {σ' : Sg} {c j : Nat} (hc : nt [56] [] c j = true) (hm : f_X7_swap N n σ p0 p1 = some (r, σ')) : σ' c j = σ c j := by
  unfold f_X7_swap at hm
  obtain ⟨_, hm⟩ := gb_some hm
  obtain ⟨_, hm⟩ := gb_some hm
  obtain ⟨_, hm⟩ := gb_some hm
  obtain ⟨_, hm⟩ := gb_some hm
  cases hm
  exact ((sg_t hc (by decide)).trans ((sg_t hc (by decide)).trans rfl))
theorem fr_X4_jump_X7 {N n : Nat} {σ : Sg} {p0 : Int32} {r : Int32} {σ' : Sg} {c j : Nat} (hc : nt [55] [] c j = true) (hm : f_X4_jump_X7 N n σ p0 = some (r, σ')) : σ' c j = σ c j := by
  unfold f_X4_jump_X7 at hm
  obtain ⟨r1, σ2, h1, hm⟩ := bd_some hm
  have e1 := (fr_X4_room_X7 (nt_sub hc (by decide) (by decide)) h1).trans rfl
  obtain ⟨_, hm⟩ := gb_some hm
  cases hm
  exact ((sg_t hc (by decide)).trans e1)
theorem fr_X7_takeAnswer {N n : Nat} {σ : Sg} {p0 : Int32} {r : Int32} {σ' : Sg} {c j : Nat} (hc : nt [] [(52, 12)] c j = true) (hm : f_X7_takeAnswer N n σ p0 = some (r, σ')) : σ' c j = σ c j := by
  unfold f_X7_takeAnswer at hm
  cases hm
  exact ((sg_u hc (by decide)).trans rfl)
theorem fr_X4_leave_X7 {N n : Nat} {σ : Sg} {p0 : Int32} {r : Int32} {σ' : Sg} {c j : Nat} (hc : nt [] [(52, 3), (52, 4), (52, 7), (52, 12)] c j = true) (hm : f_X4_leave_X7 N n σ p0 = some (r, σ')) : σ' c j = σ c j := by
  unfold f_X4_leave_X7 at hm
  by_cases q1 : 1 < (σ 52 7)
  · have hm := (if_pos q1).symm.trans hm
    obtain ⟨r2, σ3, h2, hm⟩ := bd_some hm
    have e2 := (fr_X7_takeAnswer (nt_sub hc (by decide) (by decide)) h2).trans ((sg_u hc (by decide)).trans rfl)
    cases hm
    exact e2
  · have hm := (if_neg q1).symm.trans hm
    obtain ⟨r5, σ6, h3, hm⟩ := bd_some hm
    have e3 := (fr_X4_finish_X7 (nt_sub hc (by decide) (by decide)) h3).trans ((sg_u hc (by decide)).trans rfl)
    cases hm
    exact e3
theorem fr_X4_hasCell_X7 {N n : Nat} {σ : Sg} {p0 : Int32} {r : Int32} {σ' : Sg} {c j : Nat} (hc : nt [] [(52, 3), (52, 7)] c j = true) (hm : f_X4_hasCell_X7 N n σ p0 = some (r, σ')) : σ' c j = σ c j := by
  unfold f_X4_hasCell_X7 at hm
  by_cases q1 : p0 < 0
  · have hm := (if_pos q1).symm.trans hm
    obtain ⟨r2, σ3, h2, hm⟩ := bd_some hm
    have e2 := (fr_X4_finish_X7 (nt_sub hc (by decide) (by decide)) h2).trans rfl
    cases hm
    exact e2
  · have hm := (if_neg q1).symm.trans hm
    by_cases q3 : 64 ≤ p0
    · have hm := (if_pos q3).symm.trans hm
      obtain ⟨r6, σ7, h4, hm⟩ := bd_some hm
      have e4 := (fr_X4_finish_X7 (nt_sub hc (by decide) (by decide)) h4).trans rfl
      cases hm
      exact e4
    · have hm := (if_neg q3).symm.trans hm
      cases hm
      exact rfl
theorem fr_X7_fetch {N n : Nat} {σ : Sg} {p0 : Int32} {p1 : Int32} {r : Int32} {σ' : Sg} {c j : Nat} (hc : nt [56] [(52, 3), (52, 7)] c j = true) (hm : f_X7_fetch N n σ p0 p1 = some (r, σ')) : σ' c j = σ c j := by
  unfold f_X7_fetch at hm
  obtain ⟨r1, σ2, h1, hm⟩ := bd_some hm
  have e1 := (fr_X4_hasCell_X7 (nt_sub hc (by decide) (by decide)) h1).trans rfl
  by_cases q2 : r1 = 0
  · have hm := (if_pos q2).symm.trans hm
    cases hm
    exact e1
  · have hm := (if_neg q2).symm.trans hm
    obtain ⟨_, hm⟩ := gb_some hm
    obtain ⟨_, hm⟩ := gb_some hm
    cases hm
    exact ((sg_t hc (by decide)).trans e1)
theorem fr_X7_store {N n : Nat} {σ : Sg} {p0 : Int32} {p1 : Int32} {r : Int32} {σ' : Sg} {c j : Nat} (hc : nt [53] [(52, 3), (52, 7)] c j = true) (hm : f_X7_store N n σ p0 p1 = some (r, σ')) : σ' c j = σ c j := by
  unfold f_X7_store at hm
  obtain ⟨r1, σ2, h1, hm⟩ := bd_some hm
  have e1 := (fr_X4_hasCell_X7 (nt_sub hc (by decide) (by decide)) h1).trans rfl
  by_cases q2 : r1 = 0
  · have hm := (if_pos q2).symm.trans hm
    cases hm
    exact e1
  · have hm := (if_neg q2).symm.trans hm
    obtain ⟨_, hm⟩ := gb_some hm
    cases hm
    exact ((sg_t hc (by decide)).trans e1)
theorem frl_X7_openRoom_8 {N n : Nat} {u2 : Int32} {u3 : Int32} {K31 : (Sg → Int32 → Option (Int32 × Sg))} {out : Int32 × Sg} {c j : Nat} (hc : nt [56] [] c j = true) : ∀ (k : Nat) (σ : Sg) (v4 : Int32), lf_X7_openRoom_8 N n u2 u3 K31 k σ v4 = some out → (∀ (σ : Sg) (v4 : Int32), K31 σ v4 = some out → out.2 c j = σ c j) → out.2 c j = σ c j := by
  intro k
  induction k with
  | zero => intro σ v4 hm; exact nomatch (show none = some out from hm)
  | succ k ih =>
    intro σ v4 hm hK31
    have hm : lb_X7_openRoom_8 N n u2 u3 K31 (lf_X7_openRoom_8 N n u2 u3 K31 k) σ v4 = some out := hm
    unfold lb_X7_openRoom_8 at hm
    by_cases q1 : 16 ≤ v4
    · have hm := (if_pos q1).symm.trans hm
      exact (hK31 _ _ hm).trans rfl
    · have hm := (if_neg q1).symm.trans hm
      obtain ⟨_, hm⟩ := gb_some hm
      exact (ih _ _ hm hK31).trans ((sg_t hc (by decide)).trans rfl)
theorem frl_X7_openRoom_40 {N n : Nat} {u4 : Int32} {K64 : (Sg → Int32 → Option (Int32 × Sg))} {out : Int32 × Sg} {c j : Nat} (hc : nt [57] [] c j = true) : ∀ (k : Nat) (σ : Sg) (v5 : Int32), lf_X7_openRoom_40 N n u4 K64 k σ v5 = some out → (∀ (σ : Sg) (v5 : Int32), K64 σ v5 = some out → out.2 c j = σ c j) → out.2 c j = σ c j := by
  intro k
  induction k with
  | zero => intro σ v5 hm; exact nomatch (show none = some out from hm)
  | succ k ih =>
    intro σ v5 hm hK64
    have hm : lb_X7_openRoom_40 N n u4 K64 (lf_X7_openRoom_40 N n u4 K64 k) σ v5 = some out := hm
    unfold lb_X7_openRoom_40 at hm
    by_cases q1 : 22 ≤ v5
    · have hm := (if_pos q1).symm.trans hm
      exact (hK64 _ _ hm).trans rfl
    · have hm := (if_neg q1).symm.trans hm
      obtain ⟨_, hm⟩ := gb_some hm
      exact (ih _ _ hm hK64).trans ((sg_t hc (by decide)).trans rfl)
theorem fr_X7_openRoom {N n : Nat} {σ : Sg} {p0 : Int32} {p1 : Int32} {r : Int32} {σ' : Sg} {c j : Nat} (hc : nt [56, 57] [] c j = true) (hm : f_X7_openRoom N n σ p0 p1 = some (r, σ')) : σ' c j = σ c j := by
  unfold f_X7_openRoom at hm
  refine (frl_X7_openRoom_8 (nt_sub hc (by decide) (by decide)) N _ _ hm ?_).trans rfl
  intro σ3 w4 hm
  refine (frl_X7_openRoom_40 (nt_sub hc (by decide) (by decide)) N _ _ hm ?_).trans rfl
  intro σ7 w8 hm
  cases hm
  exact rfl
theorem fr_X4_enter_X7 {N n : Nat} {σ : Sg} {p0 : Int32} {r : Int32} {σ' : Sg} {c j : Nat} (hc : nt [54, 55, 56, 57] [(52, 3), (52, 6), (52, 7)] c j = true) (hm : f_X4_enter_X7 N n σ p0 = some (r, σ')) : σ' c j = σ c j := by
  unfold f_X4_enter_X7 at hm
  by_cases q1 : (σ 52 7) < 30
  · have hm := (if_pos q1).symm.trans hm
    obtain ⟨r2, σ3, h2, hm⟩ := bd_some hm
    have e2 := (fr_X7_openRoom (nt_sub hc (by decide) (by decide)) h2).trans rfl
    obtain ⟨_, hm⟩ := gb_some hm
    obtain ⟨_, hm⟩ := gb_some hm
    cases hm
    exact ((sg_u hc (by decide)).trans ((sg_u hc (by decide)).trans ((sg_t hc (by decide)).trans ((sg_t hc (by decide)).trans e2))))
  · have hm := (if_neg q1).symm.trans hm
    obtain ⟨r7, σ8, h3, hm⟩ := bd_some hm
    have e3 := (fr_X4_finish_X7 (nt_sub hc (by decide) (by decide)) h3).trans rfl
    cases hm
    exact e3
theorem fr_X7_step {N n : Nat} {σ : Sg} {p0 : Int32} {p1 : Int32} {r : Int32} {σ' : Sg} {c j : Nat} (hc : nt [53, 54, 55, 56, 57, 58] [(52, 3), (52, 4), (52, 6), (52, 7), (52, 12)] c j = true) (hm : f_X7_step N n σ p0 p1 = some (r, σ')) : σ' c j = σ c j := by
  unfold f_X7_step at hm
  obtain ⟨r1, σ2, h1, hm⟩ := bd_some hm
  have e1 := (fr_X1_part (nt_sub hc (by decide) (by decide)) h1).trans rfl
  obtain ⟨r4, σ5, h2, hm⟩ := bd_some hm
  have e2 := (fr_X1_part (nt_sub hc (by decide) (by decide)) h2).trans e1
  obtain ⟨r7, σ8, h3, hm⟩ := bd_some hm
  have e3 := (fr_X4_room_X7 (nt_sub hc (by decide) (by decide)) h3).trans e2
  obtain ⟨r10, σ11, h4, hm⟩ := bd_some hm
  have e4 := (fr_X1_part (nt_sub hc (by decide) (by decide)) h4).trans e3
  by_cases q5 : r10 = 0
  · have hm := (if_pos q5).symm.trans hm
    obtain ⟨_, hm⟩ := gb_some hm
    cases hm
    exact ((sg_t hc (by decide)).trans e4)
  · have hm := (if_neg q5).symm.trans hm
    by_cases q6 : r10 = 1
    · have hm := (if_pos q6).symm.trans hm
      obtain ⟨_, hm⟩ := gb_some hm
      obtain ⟨_, hm⟩ := gb_some hm
      cases hm
      exact ((sg_t hc (by decide)).trans e4)
    · have hm := (if_neg q6).symm.trans hm
      by_cases q7 : r10 = 2
      · have hm := (if_pos q7).symm.trans hm
        obtain ⟨r19, σ20, h8, hm⟩ := bd_some hm
        have e8 := (fr_X7_work (nt_sub hc (by decide) (by decide)) h8).trans e4
        cases hm
        exact e8
      · have hm := (if_neg q7).symm.trans hm
        by_cases q9 : r10 = 3
        · have hm := (if_pos q9).symm.trans hm
          obtain ⟨r23, σ24, h10, hm⟩ := bd_some hm
          have e10 := (fr_X7_swap (nt_sub hc (by decide) (by decide)) h10).trans e4
          cases hm
          exact e10
        · have hm := (if_neg q9).symm.trans hm
          by_cases q11 : r10 = 4
          · have hm := (if_pos q11).symm.trans hm
            obtain ⟨r27, σ28, h12, hm⟩ := bd_some hm
            have e12 := (fr_X4_jump_X7 (nt_sub hc (by decide) (by decide)) h12).trans e4
            cases hm
            exact e12
          · have hm := (if_neg q11).symm.trans hm
            by_cases q13 : r10 = 5
            · have hm := (if_pos q13).symm.trans hm
              obtain ⟨_, hm⟩ := gb_some hm
              by_cases q14 : (σ11 56 (ix ((r7 * 16) + r1))) = 0
              · have hm := (if_pos q14).symm.trans hm
                obtain ⟨r33, σ34, h15, hm⟩ := bd_some hm
                have e15 := (fr_X4_jump_X7 (nt_sub hc (by decide) (by decide)) h15).trans e4
                cases hm
                exact e15
              · have hm := (if_neg q14).symm.trans hm
                cases hm
                exact e4
            · have hm := (if_neg q13).symm.trans hm
              by_cases q16 : r10 = 6
              · have hm := (if_pos q16).symm.trans hm
                obtain ⟨_, hm⟩ := gb_some hm
                obtain ⟨r38, σ39, h17, hm⟩ := bd_some hm
                have e17 := (fr_X4_leave_X7 (nt_sub hc (by decide) (by decide)) h17).trans e4
                cases hm
                exact e17
              · have hm := (if_neg q16).symm.trans hm
                by_cases q18 : r10 = 7
                · have hm := (if_pos q18).symm.trans hm
                  obtain ⟨_, hm⟩ := gb_some hm
                  obtain ⟨r43, σ44, h19, hm⟩ := bd_some hm
                  have e19 := (fr_X7_fetch (nt_sub hc (by decide) (by decide)) h19).trans e4
                  cases hm
                  exact e19
                · have hm := (if_neg q18).symm.trans hm
                  by_cases q20 : r10 = 8
                  · have hm := (if_pos q20).symm.trans hm
                    obtain ⟨_, hm⟩ := gb_some hm
                    obtain ⟨_, hm⟩ := gb_some hm
                    obtain ⟨r49, σ50, h21, hm⟩ := bd_some hm
                    have e21 := (fr_X7_store (nt_sub hc (by decide) (by decide)) h21).trans e4
                    cases hm
                    exact e21
                  · have hm := (if_neg q20).symm.trans hm
                    by_cases q22 : r10 = 9
                    · have hm := (if_pos q22).symm.trans hm
                      obtain ⟨r53, σ54, h23, hm⟩ := bd_some hm
                      have e23 := (fr_X4_room_X7 (nt_sub hc (by decide) (by decide)) h23).trans e4
                      obtain ⟨_, hm⟩ := gb_some hm
                      obtain ⟨_, hm⟩ := gb_some hm
                      cases hm
                      exact ((sg_t hc (by decide)).trans e23)
                    · have hm := (if_neg q22).symm.trans hm
                      by_cases q24 : r10 = 10
                      · have hm := (if_pos q24).symm.trans hm
                        obtain ⟨r59, σ60, h25, hm⟩ := bd_some hm
                        have e25 := (fr_X4_room_X7 (nt_sub hc (by decide) (by decide)) h25).trans e4
                        obtain ⟨_, hm⟩ := gb_some hm
                        obtain ⟨_, hm⟩ := gb_some hm
                        cases hm
                        exact ((sg_t hc (by decide)).trans e25)
                      · have hm := (if_neg q24).symm.trans hm
                        by_cases q26 : r10 = 11
                        · have hm := (if_pos q26).symm.trans hm
                          obtain ⟨_, hm⟩ := gb_some hm
                          obtain ⟨_, hm⟩ := gb_some hm
                          cases hm
                          exact ((sg_t hc (by decide)).trans e4)
                        · have hm := (if_neg q26).symm.trans hm
                          by_cases q27 : r10 = 12
                          · have hm := (if_pos q27).symm.trans hm
                            obtain ⟨_, hm⟩ := gb_some hm
                            obtain ⟨_, hm⟩ := gb_some hm
                            cases hm
                            exact ((sg_t hc (by decide)).trans e4)
                          · have hm := (if_neg q27).symm.trans hm
                            by_cases q28 : r10 = 13
                            · have hm := (if_pos q28).symm.trans hm
                              obtain ⟨r71, σ72, h29, hm⟩ := bd_some hm
                              have e29 := (fr_X4_enter_X7 (nt_sub hc (by decide) (by decide)) h29).trans e4
                              cases hm
                              exact e29
                            · have hm := (if_neg q28).symm.trans hm
                              obtain ⟨_, hm⟩ := gb_some hm
                              cases hm
                              exact ((sg_t hc (by decide)).trans e4)
theorem frl_X4_goOn_X7_2 {N n : Nat} {u1 : Int32} {K75 : (Sg → Int32 → Option (Int32 × Sg))} {out : Int32 × Sg} {c j : Nat} (hc : nt [53, 54, 55, 56, 57, 58] [(52, 3), (52, 4), (52, 5), (52, 6), (52, 7), (52, 12)] c j = true) : ∀ (k : Nat) (σ : Sg) (v2 : Int32), lf_X4_goOn_X7_2 N n u1 K75 k σ v2 = some out → (∀ (σ : Sg) (v2 : Int32), K75 σ v2 = some out → out.2 c j = σ c j) → out.2 c j = σ c j := by
  intro k
  induction k with
  | zero => intro σ v2 hm; exact nomatch (show none = some out from hm)
  | succ k ih =>
    intro σ v2 hm hK75
    have hm : lb_X4_goOn_X7_2 N n u1 K75 (lf_X4_goOn_X7_2 N n u1 K75 k) σ v2 = some out := hm
    unfold lb_X4_goOn_X7_2 at hm
    by_cases q1 : u1 ≤ v2
    · have hm := (if_pos q1).symm.trans hm
      exact (hK75 _ _ hm).trans rfl
    · have hm := (if_neg q1).symm.trans hm
      by_cases q2 : (σ 52 3) = 0
      · have hm := (if_pos q2).symm.trans hm
        by_cases q3 : (σ 52 7) = 0
        · have hm := (if_pos q3).symm.trans hm
          obtain ⟨r14, σ15, h4, hm⟩ := bd_some hm
          have e4 := (fr_X4_enter_X7 (nt_sub hc (by decide) (by decide)) h4).trans rfl
          obtain ⟨r17, σ18, h5, hm⟩ := bd_some hm
          have e5 := (fr_X4_room_X7 (nt_sub hc (by decide) (by decide)) h5).trans e4
          obtain ⟨_, hm⟩ := gb_some hm
          obtain ⟨_, hm⟩ := gb_some hm
          obtain ⟨_, hm⟩ := gb_some hm
          obtain ⟨_, hm⟩ := gb_some hm
          obtain ⟨r24, σ25, h6, hm⟩ := bd_some hm
          have e6 := (fr_X7_step (nt_sub hc (by decide) (by decide)) h6).trans ((sg_t hc (by decide)).trans ((sg_u hc (by decide)).trans e5))
          exact (ih _ _ hm hK75).trans e6
        · have hm := (if_neg q3).symm.trans hm
          obtain ⟨r4, σ5, h7, hm⟩ := bd_some hm
          have e7 := (fr_X4_room_X7 (nt_sub hc (by decide) (by decide)) h7).trans rfl
          obtain ⟨_, hm⟩ := gb_some hm
          obtain ⟨_, hm⟩ := gb_some hm
          obtain ⟨_, hm⟩ := gb_some hm
          obtain ⟨_, hm⟩ := gb_some hm
          obtain ⟨r11, σ12, h8, hm⟩ := bd_some hm
          have e8 := (fr_X7_step (nt_sub hc (by decide) (by decide)) h8).trans ((sg_t hc (by decide)).trans ((sg_u hc (by decide)).trans e7))
          exact (ih _ _ hm hK75).trans e8
      · have hm := (if_neg q2).symm.trans hm
        exact (hK75 _ _ hm).trans rfl
theorem fr_X4_goOn_X7 {N n : Nat} {σ : Sg} {p0 : Int32} {r : Int32} {σ' : Sg} {c j : Nat} (hc : nt [53, 54, 55, 56, 57, 58] [(52, 3), (52, 4), (52, 5), (52, 6), (52, 7), (52, 12)] c j = true) (hm : f_X4_goOn_X7 N n σ p0 = some (r, σ')) : σ' c j = σ c j := by
  unfold f_X4_goOn_X7 at hm
  refine (frl_X4_goOn_X7_2 (nt_sub hc (by decide) (by decide)) N _ _ hm ?_).trans rfl
  intro σ27 w28 hm
  cases hm
  exact rfl
theorem fr_X11_runRegisters {N n : Nat} {σ : Sg} {p0 : Int32} {r : Int32} {σ' : Sg} {c j : Nat} (hc : nt [53, 54, 55, 56, 57, 58] [(52, 3), (52, 4), (52, 5), (52, 6), (52, 7), (52, 12)] c j = true) (hm : f_X11_runRegisters N n σ p0 = some (r, σ')) : σ' c j = σ c j := by
  unfold f_X11_runRegisters at hm
  by_cases q1 : (σ 11 7) = 0
  · have hm := (if_pos q1).symm.trans hm
    cases hm
    exact rfl
  · have hm := (if_neg q1).symm.trans hm
    by_cases q2 : p0 < 1
    · have hm := (if_pos q2).symm.trans hm
      cases hm
      exact rfl
    · have hm := (if_neg q2).symm.trans hm
      by_cases q3 : p0 ≤ 20000
      · have hm := (if_pos q3).symm.trans hm
        obtain ⟨r4, σ5, h4, hm⟩ := bd_some hm
        have e4 := (fr_X4_goOn_X7 (nt_sub hc (by decide) (by decide)) h4).trans rfl
        cases hm
        exact e4
      · have hm := (if_neg q3).symm.trans hm
        cases hm
        exact rfl
theorem fr_X4_room_X8 {N n : Nat} {σ : Sg}  {r : Int32} {σ' : Sg} {c j : Nat} (hc : nt [] [] c j = true) (hm : f_X4_room_X8 N n σ  = some (r, σ')) : σ' c j = σ c j := by
  unfold f_X4_room_X8 at hm
  cases hm
  exact rfl
theorem fr_X8_push {N n : Nat} {σ : Sg} {p0 : Int32} {r : Int32} {σ' : Sg} {c j : Nat} (hc : nt [50] [(45, 12)] c j = true) (hm : f_X8_push N n σ p0 = some (r, σ')) : σ' c j = σ c j := by
  unfold f_X8_push at hm
  obtain ⟨_, hm⟩ := gb_some hm
  cases hm
  exact ((sg_u hc (by decide)).trans ((sg_t hc (by decide)).trans rfl))
theorem fr_X8_pop {N n : Nat} {σ : Sg}  {r : Int32} {σ' : Sg} {c j : Nat} (hc : nt [] [(45, 12)] c j = true) (hm : f_X8_pop N n σ  = some (r, σ')) : σ' c j = σ c j := by
  unfold f_X8_pop at hm
  obtain ⟨_, hm⟩ := gb_some hm
  cases hm
  exact ((sg_u hc (by decide)).trans rfl)
theorem fr_X8_flip {N n : Nat} {σ : Sg}  {r : Int32} {σ' : Sg} {c j : Nat} (hc : nt [50] [(45, 12)] c j = true) (hm : f_X8_flip N n σ  = some (r, σ')) : σ' c j = σ c j := by
  unfold f_X8_flip at hm
  obtain ⟨r1, σ2, h1, hm⟩ := bd_some hm
  have e1 := (fr_X8_pop (nt_sub hc (by decide) (by decide)) h1).trans rfl
  obtain ⟨r4, σ5, h2, hm⟩ := bd_some hm
  have e2 := (fr_X8_pop (nt_sub hc (by decide) (by decide)) h2).trans e1
  obtain ⟨r7, σ8, h3, hm⟩ := bd_some hm
  have e3 := (fr_X8_push (nt_sub hc (by decide) (by decide)) h3).trans e2
  obtain ⟨r10, σ11, h4, hm⟩ := bd_some hm
  have e4 := (fr_X8_push (nt_sub hc (by decide) (by decide)) h4).trans e3
  cases hm
  exact e4
theorem fr_X4_jump_X8 {N n : Nat} {σ : Sg} {p0 : Int32} {r : Int32} {σ' : Sg} {c j : Nat} (hc : nt [48] [] c j = true) (hm : f_X4_jump_X8 N n σ p0 = some (r, σ')) : σ' c j = σ c j := by
  unfold f_X4_jump_X8 at hm
  obtain ⟨r1, σ2, h1, hm⟩ := bd_some hm
  have e1 := (fr_X4_room_X8 (nt_sub hc (by decide) (by decide)) h1).trans rfl
  obtain ⟨_, hm⟩ := gb_some hm
  cases hm
  exact ((sg_t hc (by decide)).trans e1)
theorem frl_X8_openRoom_38 {N n : Nat} {u2 : Int32} {u3 : Int32} {u4 : Int32} {K83 : (Sg → Int32 → Option (Int32 × Sg))} {out : Int32 × Sg} {c j : Nat} (hc : nt [49] [] c j = true) : ∀ (k : Nat) (σ : Sg) (v5 : Int32), lf_X8_openRoom_38 N n u2 u3 u4 K83 k σ v5 = some out → (∀ (σ : Sg) (v5 : Int32), K83 σ v5 = some out → out.2 c j = σ c j) → out.2 c j = σ c j := by
  intro k
  induction k with
  | zero => intro σ v5 hm; exact nomatch (show none = some out from hm)
  | succ k ih =>
    intro σ v5 hm hK83
    have hm : lb_X8_openRoom_38 N n u2 u3 u4 K83 (lf_X8_openRoom_38 N n u2 u3 u4 K83 k) σ v5 = some out := hm
    unfold lb_X8_openRoom_38 at hm
    by_cases q1 : 10 ≤ v5
    · have hm := (if_pos q1).symm.trans hm
      exact (hK83 _ _ hm).trans rfl
    · have hm := (if_neg q1).symm.trans hm
      by_cases q2 : u4 ≤ v5
      · have hm := (if_pos q2).symm.trans hm
        obtain ⟨_, hm⟩ := gb_some hm
        exact (ih _ _ hm hK83).trans ((sg_t hc (by decide)).trans rfl)
      · have hm := (if_neg q2).symm.trans hm
        obtain ⟨_, hm⟩ := gb_some hm
        obtain ⟨_, hm⟩ := gb_some hm
        exact (ih _ _ hm hK83).trans ((sg_t hc (by decide)).trans rfl)
theorem fr_X8_openRoom {N n : Nat} {σ : Sg} {p0 : Int32} {p1 : Int32} {r : Int32} {σ' : Sg} {c j : Nat} (hc : nt [49, 51] [(45, 12)] c j = true) (hm : f_X8_openRoom N n σ p0 p1 = some (r, σ')) : σ' c j = σ c j := by
  unfold f_X8_openRoom at hm
  by_cases q1 : p1 = 0
  · have hm := (if_pos q1).symm.trans hm
    refine (frl_X8_openRoom_38 (nt_sub hc (by decide) (by decide)) N _ _ hm ?_).trans ((sg_u hc (by decide)).trans rfl)
    intro σ11 w12 hm
    obtain ⟨_, hm⟩ := gb_some hm
    cases hm
    exact ((sg_t hc (by decide)).trans rfl)
  · have hm := (if_neg q1).symm.trans hm
    obtain ⟨_, hm⟩ := gb_some hm
    refine (frl_X8_openRoom_38 (nt_sub hc (by decide) (by decide)) N _ _ hm ?_).trans ((sg_u hc (by decide)).trans rfl)
    intro σ8 w9 hm
    obtain ⟨_, hm⟩ := gb_some hm
    cases hm
    exact ((sg_t hc (by decide)).trans rfl)
theorem fr_X4_finish_X8 {N n : Nat} {σ : Sg} {p0 : Int32} {r : Int32} {σ' : Sg} {c j : Nat} (hc : nt [] [(45, 3), (45, 7)] c j = true) (hm : f_X4_finish_X8 N n σ p0 = some (r, σ')) : σ' c j = σ c j := by
  unfold f_X4_finish_X8 at hm
  cases hm
  exact ((sg_u hc (by decide)).trans ((sg_u hc (by decide)).trans rfl))
theorem fr_X4_enter_X8 {N n : Nat} {σ : Sg} {p0 : Int32} {r : Int32} {σ' : Sg} {c j : Nat} (hc : nt [47, 48, 49, 51] [(45, 3), (45, 6), (45, 7), (45, 12)] c j = true) (hm : f_X4_enter_X8 N n σ p0 = some (r, σ')) : σ' c j = σ c j := by
  unfold f_X4_enter_X8 at hm
  by_cases q1 : (σ 45 7) < 30
  · have hm := (if_pos q1).symm.trans hm
    obtain ⟨r2, σ3, h2, hm⟩ := bd_some hm
    have e2 := (fr_X8_openRoom (nt_sub hc (by decide) (by decide)) h2).trans rfl
    obtain ⟨_, hm⟩ := gb_some hm
    obtain ⟨_, hm⟩ := gb_some hm
    cases hm
    exact ((sg_u hc (by decide)).trans ((sg_u hc (by decide)).trans ((sg_t hc (by decide)).trans ((sg_t hc (by decide)).trans e2))))
  · have hm := (if_neg q1).symm.trans hm
    obtain ⟨r7, σ8, h3, hm⟩ := bd_some hm
    have e3 := (fr_X4_finish_X8 (nt_sub hc (by decide) (by decide)) h3).trans rfl
    cases hm
    exact e3
theorem fr_X8_takeAnswer {N n : Nat} {σ : Sg} {p0 : Int32} {r : Int32} {σ' : Sg} {c j : Nat} (hc : nt [50] [(45, 12)] c j = true) (hm : f_X8_takeAnswer N n σ p0 = some (r, σ')) : σ' c j = σ c j := by
  unfold f_X8_takeAnswer at hm
  obtain ⟨r1, σ2, h1, hm⟩ := bd_some hm
  have e1 := (fr_X4_room_X8 (nt_sub hc (by decide) (by decide)) h1).trans rfl
  obtain ⟨_, hm⟩ := gb_some hm
  obtain ⟨r5, σ6, h2, hm⟩ := bd_some hm
  have e2 := (fr_X8_push (nt_sub hc (by decide) (by decide)) h2).trans ((sg_u hc (by decide)).trans e1)
  cases hm
  exact e2
theorem fr_X4_leave_X8 {N n : Nat} {σ : Sg} {p0 : Int32} {r : Int32} {σ' : Sg} {c j : Nat} (hc : nt [50] [(45, 3), (45, 4), (45, 7), (45, 12)] c j = true) (hm : f_X4_leave_X8 N n σ p0 = some (r, σ')) : σ' c j = σ c j := by
  unfold f_X4_leave_X8 at hm
  by_cases q1 : 1 < (σ 45 7)
  · have hm := (if_pos q1).symm.trans hm
    obtain ⟨r2, σ3, h2, hm⟩ := bd_some hm
    have e2 := (fr_X8_takeAnswer (nt_sub hc (by decide) (by decide)) h2).trans ((sg_u hc (by decide)).trans rfl)
    cases hm
    exact e2
  · have hm := (if_neg q1).symm.trans hm
    obtain ⟨r5, σ6, h3, hm⟩ := bd_some hm
    have e3 := (fr_X4_finish_X8 (nt_sub hc (by decide) (by decide)) h3).trans ((sg_u hc (by decide)).trans rfl)
    cases hm
    exact e3
theorem fr_X4_hasCell_X8 {N n : Nat} {σ : Sg} {p0 : Int32} {r : Int32} {σ' : Sg} {c j : Nat} (hc : nt [] [(45, 3), (45, 7)] c j = true) (hm : f_X4_hasCell_X8 N n σ p0 = some (r, σ')) : σ' c j = σ c j := by
  unfold f_X4_hasCell_X8 at hm
  by_cases q1 : p0 < 0
  · have hm := (if_pos q1).symm.trans hm
    obtain ⟨r2, σ3, h2, hm⟩ := bd_some hm
    have e2 := (fr_X4_finish_X8 (nt_sub hc (by decide) (by decide)) h2).trans rfl
    cases hm
    exact e2
  · have hm := (if_neg q1).symm.trans hm
    by_cases q3 : 64 ≤ p0
    · have hm := (if_pos q3).symm.trans hm
      obtain ⟨r6, σ7, h4, hm⟩ := bd_some hm
      have e4 := (fr_X4_finish_X8 (nt_sub hc (by decide) (by decide)) h4).trans rfl
      cases hm
      exact e4
    · have hm := (if_neg q3).symm.trans hm
      cases hm
      exact rfl
theorem fr_X8_fetch {N n : Nat} {σ : Sg} {p0 : Int32} {r : Int32} {σ' : Sg} {c j : Nat} (hc : nt [50] [(45, 3), (45, 7), (45, 12)] c j = true) (hm : f_X8_fetch N n σ p0 = some (r, σ')) : σ' c j = σ c j := by
  unfold f_X8_fetch at hm
  obtain ⟨r1, σ2, h1, hm⟩ := bd_some hm
  have e1 := (fr_X4_hasCell_X8 (nt_sub hc (by decide) (by decide)) h1).trans rfl
  by_cases q2 : r1 = 0
  · have hm := (if_pos q2).symm.trans hm
    cases hm
    exact e1
  · have hm := (if_neg q2).symm.trans hm
    obtain ⟨_, hm⟩ := gb_some hm
    obtain ⟨r6, σ7, h3, hm⟩ := bd_some hm
    have e3 := (fr_X8_push (nt_sub hc (by decide) (by decide)) h3).trans e1
    cases hm
    exact e3
theorem fr_X8_store {N n : Nat} {σ : Sg} {p0 : Int32} {p1 : Int32} {r : Int32} {σ' : Sg} {c j : Nat} (hc : nt [46] [(45, 3), (45, 7)] c j = true) (hm : f_X8_store N n σ p0 p1 = some (r, σ')) : σ' c j = σ c j := by
  unfold f_X8_store at hm
  obtain ⟨r1, σ2, h1, hm⟩ := bd_some hm
  have e1 := (fr_X4_hasCell_X8 (nt_sub hc (by decide) (by decide)) h1).trans rfl
  by_cases q2 : r1 = 0
  · have hm := (if_pos q2).symm.trans hm
    cases hm
    exact e1
  · have hm := (if_neg q2).symm.trans hm
    obtain ⟨_, hm⟩ := gb_some hm
    cases hm
    exact ((sg_t hc (by decide)).trans e1)
theorem fr_X4_canReckon_X8 {N n : Nat} {σ : Sg} {p0 : Int32} {p1 : Int32} {r : Int32} {σ' : Sg} {c j : Nat} (hc : nt [] [(45, 3), (45, 7)] c j = true) (hm : f_X4_canReckon_X8 N n σ p0 p1 = some (r, σ')) : σ' c j = σ c j := by
  unfold f_X4_canReckon_X8 at hm
  by_cases q1 : p0 = 6
  · have hm := (if_pos q1).symm.trans hm
    by_cases q2 : p1 = 0
    · have hm := (if_pos q2).symm.trans hm
      obtain ⟨r3, σ4, h3, hm⟩ := bd_some hm
      have e3 := (fr_X4_finish_X8 (nt_sub hc (by decide) (by decide)) h3).trans rfl
      cases hm
      exact e3
    · have hm := (if_neg q2).symm.trans hm
      cases hm
      exact rfl
  · have hm := (if_neg q1).symm.trans hm
    cases hm
    exact rfl
theorem fr_X8_work {N n : Nat} {σ : Sg} {p0 : Int32} {p1 : Int32} {p2 : Int32} {r : Int32} {σ' : Sg} {c j : Nat} (hc : nt [50] [(45, 3), (45, 7), (45, 12)] c j = true) (hm : f_X8_work N n σ p0 p1 p2 = some (r, σ')) : σ' c j = σ c j := by
  unfold f_X8_work at hm
  obtain ⟨r1, σ2, h1, hm⟩ := bd_some hm
  have e1 := (fr_X4_canReckon_X8 (nt_sub hc (by decide) (by decide)) h1).trans rfl
  by_cases q2 : r1 = 0
  · have hm := (if_pos q2).symm.trans hm
    cases hm
    exact e1
  · have hm := (if_neg q2).symm.trans hm
    obtain ⟨r5, σ6, h3, hm⟩ := bd_some hm
    have e3 := (fr_X11_reckon (nt_sub hc (by decide) (by decide)) h3).trans e1
    obtain ⟨r8, σ9, h4, hm⟩ := bd_some hm
    have e4 := (fr_X8_push (nt_sub hc (by decide) (by decide)) h4).trans e3
    cases hm
    exact e4
theorem fr_X8_step {N n : Nat} {σ : Sg} {p0 : Int32} {p1 : Int32} {r : Int32} {σ' : Sg} {c j : Nat} (hc : nt [46, 47, 48, 49, 50, 51] [(45, 3), (45, 4), (45, 6), (45, 7), (45, 12)] c j = true) (hm : f_X8_step N n σ p0 p1 = some (r, σ')) : σ' c j = σ c j := by
  unfold f_X8_step at hm
  obtain ⟨_, hm⟩ := gb_some hm
  obtain ⟨_, hm⟩ := gb_some hm
  obtain ⟨_, hm⟩ := gb_some hm
  obtain ⟨_, hm⟩ := gb_some hm
  by_cases q1 : (σ 6 (ix ((σ 4 (ix p0)) + p1))) = 0
  · have hm := (if_pos q1).symm.trans hm
    obtain ⟨r6, σ7, h2, hm⟩ := bd_some hm
    have e2 := (fr_X8_push (nt_sub hc (by decide) (by decide)) h2).trans rfl
    cases hm
    exact e2
  · have hm := (if_neg q1).symm.trans hm
    by_cases q3 : (σ 6 (ix ((σ 4 (ix p0)) + p1))) = 1
    · have hm := (if_pos q3).symm.trans hm
      obtain ⟨r10, σ11, h4, hm⟩ := bd_some hm
      have e4 := (fr_X4_room_X8 (nt_sub hc (by decide) (by decide)) h4).trans rfl
      obtain ⟨_, hm⟩ := gb_some hm
      obtain ⟨r14, σ15, h5, hm⟩ := bd_some hm
      have e5 := (fr_X8_push (nt_sub hc (by decide) (by decide)) h5).trans e4
      cases hm
      exact e5
    · have hm := (if_neg q3).symm.trans hm
      by_cases q6 : (σ 6 (ix ((σ 4 (ix p0)) + p1))) = 2
      · have hm := (if_pos q6).symm.trans hm
        obtain ⟨r18, σ19, h7, hm⟩ := bd_some hm
        have e7 := (fr_X4_room_X8 (nt_sub hc (by decide) (by decide)) h7).trans rfl
        obtain ⟨r21, σ22, h8, hm⟩ := bd_some hm
        have e8 := (fr_X8_pop (nt_sub hc (by decide) (by decide)) h8).trans e7
        obtain ⟨_, hm⟩ := gb_some hm
        cases hm
        exact ((sg_t hc (by decide)).trans e8)
      · have hm := (if_neg q6).symm.trans hm
        by_cases q9 : (σ 6 (ix ((σ 4 (ix p0)) + p1))) = 9
        · have hm := (if_pos q9).symm.trans hm
          obtain ⟨_, hm⟩ := gb_some hm
          obtain ⟨r27, σ28, h10, hm⟩ := bd_some hm
          have e10 := (fr_X8_push (nt_sub hc (by decide) (by decide)) h10).trans rfl
          cases hm
          exact e10
        · have hm := (if_neg q9).symm.trans hm
          by_cases q11 : (σ 6 (ix ((σ 4 (ix p0)) + p1))) = 10
          · have hm := (if_pos q11).symm.trans hm
            obtain ⟨r31, σ32, h12, hm⟩ := bd_some hm
            have e12 := (fr_X8_flip (nt_sub hc (by decide) (by decide)) h12).trans rfl
            cases hm
            exact e12
          · have hm := (if_neg q11).symm.trans hm
            by_cases q13 : (σ 6 (ix ((σ 4 (ix p0)) + p1))) = 11
            · have hm := (if_pos q13).symm.trans hm
              obtain ⟨r35, σ36, h14, hm⟩ := bd_some hm
              have e14 := (fr_X8_pop (nt_sub hc (by decide) (by decide)) h14).trans rfl
              cases hm
              exact e14
            · have hm := (if_neg q13).symm.trans hm
              by_cases q15 : (σ 6 (ix ((σ 4 (ix p0)) + p1))) = 12
              · have hm := (if_pos q15).symm.trans hm
                obtain ⟨r39, σ40, h16, hm⟩ := bd_some hm
                have e16 := (fr_X4_jump_X8 (nt_sub hc (by decide) (by decide)) h16).trans rfl
                cases hm
                exact e16
              · have hm := (if_neg q15).symm.trans hm
                by_cases q17 : (σ 6 (ix ((σ 4 (ix p0)) + p1))) = 13
                · have hm := (if_pos q17).symm.trans hm
                  obtain ⟨r43, σ44, h18, hm⟩ := bd_some hm
                  have e18 := (fr_X8_pop (nt_sub hc (by decide) (by decide)) h18).trans rfl
                  by_cases q19 : r43 = 0
                  · have hm := (if_pos q19).symm.trans hm
                    obtain ⟨r47, σ48, h20, hm⟩ := bd_some hm
                    have e20 := (fr_X4_jump_X8 (nt_sub hc (by decide) (by decide)) h20).trans e18
                    cases hm
                    exact e20
                  · have hm := (if_neg q19).symm.trans hm
                    cases hm
                    exact e18
                · have hm := (if_neg q17).symm.trans hm
                  by_cases q21 : (σ 6 (ix ((σ 4 (ix p0)) + p1))) = 14
                  · have hm := (if_pos q21).symm.trans hm
                    obtain ⟨r51, σ52, h22, hm⟩ := bd_some hm
                    have e22 := (fr_X4_enter_X8 (nt_sub hc (by decide) (by decide)) h22).trans rfl
                    cases hm
                    exact e22
                  · have hm := (if_neg q21).symm.trans hm
                    by_cases q23 : (σ 6 (ix ((σ 4 (ix p0)) + p1))) = 15
                    · have hm := (if_pos q23).symm.trans hm
                      obtain ⟨r55, σ56, h24, hm⟩ := bd_some hm
                      have e24 := (fr_X8_pop (nt_sub hc (by decide) (by decide)) h24).trans rfl
                      obtain ⟨r58, σ59, h25, hm⟩ := bd_some hm
                      have e25 := (fr_X4_leave_X8 (nt_sub hc (by decide) (by decide)) h25).trans e24
                      cases hm
                      exact e25
                    · have hm := (if_neg q23).symm.trans hm
                      by_cases q26 : (σ 6 (ix ((σ 4 (ix p0)) + p1))) = 16
                      · have hm := (if_pos q26).symm.trans hm
                        obtain ⟨r62, σ63, h27, hm⟩ := bd_some hm
                        have e27 := (fr_X8_pop (nt_sub hc (by decide) (by decide)) h27).trans rfl
                        obtain ⟨r65, σ66, h28, hm⟩ := bd_some hm
                        have e28 := (fr_X8_fetch (nt_sub hc (by decide) (by decide)) h28).trans e27
                        cases hm
                        exact e28
                      · have hm := (if_neg q26).symm.trans hm
                        by_cases q29 : (σ 6 (ix ((σ 4 (ix p0)) + p1))) = 17
                        · have hm := (if_pos q29).symm.trans hm
                          obtain ⟨r69, σ70, h30, hm⟩ := bd_some hm
                          have e30 := (fr_X8_pop (nt_sub hc (by decide) (by decide)) h30).trans rfl
                          obtain ⟨r72, σ73, h31, hm⟩ := bd_some hm
                          have e31 := (fr_X8_pop (nt_sub hc (by decide) (by decide)) h31).trans e30
                          obtain ⟨r75, σ76, h32, hm⟩ := bd_some hm
                          have e32 := (fr_X8_store (nt_sub hc (by decide) (by decide)) h32).trans e31
                          cases hm
                          exact e32
                        · have hm := (if_neg q29).symm.trans hm
                          obtain ⟨r78, σ79, h33, hm⟩ := bd_some hm
                          have e33 := (fr_X8_pop (nt_sub hc (by decide) (by decide)) h33).trans rfl
                          obtain ⟨r81, σ82, h34, hm⟩ := bd_some hm
                          have e34 := (fr_X8_pop (nt_sub hc (by decide) (by decide)) h34).trans e33
                          obtain ⟨r84, σ85, h35, hm⟩ := bd_some hm
                          have e35 := (fr_X8_work (nt_sub hc (by decide) (by decide)) h35).trans e34
                          cases hm
                          exact e35
theorem frl_X4_goOn_X8_2 {N n : Nat} {u1 : Int32} {K75 : (Sg → Int32 → Option (Int32 × Sg))} {out : Int32 × Sg} {c j : Nat} (hc : nt [46, 47, 48, 49, 50, 51] [(45, 3), (45, 4), (45, 5), (45, 6), (45, 7), (45, 12)] c j = true) : ∀ (k : Nat) (σ : Sg) (v2 : Int32), lf_X4_goOn_X8_2 N n u1 K75 k σ v2 = some out → (∀ (σ : Sg) (v2 : Int32), K75 σ v2 = some out → out.2 c j = σ c j) → out.2 c j = σ c j := by
  intro k
  induction k with
  | zero => intro σ v2 hm; exact nomatch (show none = some out from hm)
  | succ k ih =>
    intro σ v2 hm hK75
    have hm : lb_X4_goOn_X8_2 N n u1 K75 (lf_X4_goOn_X8_2 N n u1 K75 k) σ v2 = some out := hm
    unfold lb_X4_goOn_X8_2 at hm
    by_cases q1 : u1 ≤ v2
    · have hm := (if_pos q1).symm.trans hm
      exact (hK75 _ _ hm).trans rfl
    · have hm := (if_neg q1).symm.trans hm
      by_cases q2 : (σ 45 3) = 0
      · have hm := (if_pos q2).symm.trans hm
        by_cases q3 : (σ 45 7) = 0
        · have hm := (if_pos q3).symm.trans hm
          obtain ⟨r14, σ15, h4, hm⟩ := bd_some hm
          have e4 := (fr_X4_enter_X8 (nt_sub hc (by decide) (by decide)) h4).trans rfl
          obtain ⟨r17, σ18, h5, hm⟩ := bd_some hm
          have e5 := (fr_X4_room_X8 (nt_sub hc (by decide) (by decide)) h5).trans e4
          obtain ⟨_, hm⟩ := gb_some hm
          obtain ⟨_, hm⟩ := gb_some hm
          obtain ⟨_, hm⟩ := gb_some hm
          obtain ⟨_, hm⟩ := gb_some hm
          obtain ⟨r24, σ25, h6, hm⟩ := bd_some hm
          have e6 := (fr_X8_step (nt_sub hc (by decide) (by decide)) h6).trans ((sg_t hc (by decide)).trans ((sg_u hc (by decide)).trans e5))
          exact (ih _ _ hm hK75).trans e6
        · have hm := (if_neg q3).symm.trans hm
          obtain ⟨r4, σ5, h7, hm⟩ := bd_some hm
          have e7 := (fr_X4_room_X8 (nt_sub hc (by decide) (by decide)) h7).trans rfl
          obtain ⟨_, hm⟩ := gb_some hm
          obtain ⟨_, hm⟩ := gb_some hm
          obtain ⟨_, hm⟩ := gb_some hm
          obtain ⟨_, hm⟩ := gb_some hm
          obtain ⟨r11, σ12, h8, hm⟩ := bd_some hm
          have e8 := (fr_X8_step (nt_sub hc (by decide) (by decide)) h8).trans ((sg_t hc (by decide)).trans ((sg_u hc (by decide)).trans e7))
          exact (ih _ _ hm hK75).trans e8
      · have hm := (if_neg q2).symm.trans hm
        exact (hK75 _ _ hm).trans rfl
theorem fr_X4_goOn_X8 {N n : Nat} {σ : Sg} {p0 : Int32} {r : Int32} {σ' : Sg} {c j : Nat} (hc : nt [46, 47, 48, 49, 50, 51] [(45, 3), (45, 4), (45, 5), (45, 6), (45, 7), (45, 12)] c j = true) (hm : f_X4_goOn_X8 N n σ p0 = some (r, σ')) : σ' c j = σ c j := by
  unfold f_X4_goOn_X8 at hm
  refine (frl_X4_goOn_X8_2 (nt_sub hc (by decide) (by decide)) N _ _ hm ?_).trans rfl
  intro σ27 w28 hm
  cases hm
  exact rfl
theorem fr_X11_runStack {N n : Nat} {σ : Sg} {p0 : Int32} {r : Int32} {σ' : Sg} {c j : Nat} (hc : nt [46, 47, 48, 49, 50, 51] [(45, 3), (45, 4), (45, 5), (45, 6), (45, 7), (45, 12)] c j = true) (hm : f_X11_runStack N n σ p0 = some (r, σ')) : σ' c j = σ c j := by
  unfold f_X11_runStack at hm
  by_cases q1 : (σ 1 9) = 0
  · have hm := (if_pos q1).symm.trans hm
    cases hm
    exact rfl
  · have hm := (if_neg q1).symm.trans hm
    by_cases q2 : p0 < 1
    · have hm := (if_pos q2).symm.trans hm
      cases hm
      exact rfl
    · have hm := (if_neg q2).symm.trans hm
      by_cases q3 : p0 ≤ 20000
      · have hm := (if_pos q3).symm.trans hm
        obtain ⟨r4, σ5, h4, hm⟩ := bd_some hm
        have e4 := (fr_X4_goOn_X8 (nt_sub hc (by decide) (by decide)) h4).trans rfl
        cases hm
        exact e4
      · have hm := (if_neg q3).symm.trans hm
        cases hm
        exact rfl
theorem fr_X11_size {N n : Nat} {σ : Sg} {p0 : Int32} {r : Int32} {σ' : Sg} {c j : Nat} (hc : nt [] [] c j = true) (hm : f_X11_size N n σ p0 = some (r, σ')) : σ' c j = σ c j := by
  unfold f_X11_size at hm
  obtain ⟨r1, σ2, h1, hm⟩ := bd_some hm
  have e1 := (fr_X11_isTurned (nt_sub hc (by decide) (by decide)) h1).trans rfl
  by_cases q2 : r1 = 0
  · have hm := (if_pos q2).symm.trans hm
    cases hm
    exact e1
  · have hm := (if_neg q2).symm.trans hm
    obtain ⟨_, hm⟩ := gb_some hm
    cases hm
    exact e1
theorem fr_X11_slots {N n : Nat} {σ : Sg} {p0 : Int32} {r : Int32} {σ' : Sg} {c j : Nat} (hc : nt [] [] c j = true) (hm : f_X11_slots N n σ p0 = some (r, σ')) : σ' c j = σ c j := by
  unfold f_X11_slots at hm
  obtain ⟨r1, σ2, h1, hm⟩ := bd_some hm
  have e1 := (fr_X11_isTurned (nt_sub hc (by decide) (by decide)) h1).trans rfl
  by_cases q2 : r1 = 0
  · have hm := (if_pos q2).symm.trans hm
    cases hm
    exact e1
  · have hm := (if_neg q2).symm.trans hm
    obtain ⟨_, hm⟩ := gb_some hm
    cases hm
    exact e1
theorem fr_X2_tell {N n : Nat} {σ : Sg} {p0 : Int32} {p1 : Int32} {p2 : Int32} {r : Int32} {σ' : Sg} {c j : Nat} (hc : nt [] [] c j = true) (hm : f_X2_tell N n σ p0 p1 p2 = some (r, σ')) : σ' c j = σ c j := by
  unfold f_X2_tell at hm
  by_cases q1 : p2 = 0
  · have hm := (if_pos q1).symm.trans hm
    obtain ⟨_, hm⟩ := gb_some hm
    cases hm
    exact rfl
  · have hm := (if_neg q1).symm.trans hm
    by_cases q2 : p2 = 1
    · have hm := (if_pos q2).symm.trans hm
      obtain ⟨_, hm⟩ := gb_some hm
      cases hm
      exact rfl
    · have hm := (if_neg q2).symm.trans hm
      by_cases q3 : p2 = 2
      · have hm := (if_pos q3).symm.trans hm
        obtain ⟨_, hm⟩ := gb_some hm
        cases hm
        exact rfl
      · have hm := (if_neg q3).symm.trans hm
        by_cases q4 : p2 = 3
        · have hm := (if_pos q4).symm.trans hm
          obtain ⟨_, hm⟩ := gb_some hm
          cases hm
          exact rfl
        · have hm := (if_neg q4).symm.trans hm
          cases hm
          exact rfl
theorem fr_X11_value {N n : Nat} {σ : Sg} {p0 : Int32} {p1 : Int32} {p2 : Int32} {r : Int32} {σ' : Sg} {c j : Nat} (hc : nt [] [] c j = true) (hm : f_X11_value N n σ p0 p1 p2 = some (r, σ')) : σ' c j = σ c j := by
  unfold f_X11_value at hm
  obtain ⟨r1, σ2, h1, hm⟩ := bd_some hm
  have e1 := (fr_X11_isTurned (nt_sub hc (by decide) (by decide)) h1).trans rfl
  by_cases q2 : r1 = 0
  · have hm := (if_pos q2).symm.trans hm
    cases hm
    exact e1
  · have hm := (if_neg q2).symm.trans hm
    by_cases q3 : p1 < 0
    · have hm := (if_pos q3).symm.trans hm
      cases hm
      exact e1
    · have hm := (if_neg q3).symm.trans hm
      obtain ⟨_, hm⟩ := gb_some hm
      by_cases q4 : p1 < ((σ2 3 (ix p0)) + 12)
      · have hm := (if_pos q4).symm.trans hm
        obtain ⟨r8, σ9, h5, hm⟩ := bd_some hm
        have e5 := (fr_X2_tell (nt_sub hc (by decide) (by decide)) h5).trans e1
        cases hm
        exact e5
      · have hm := (if_neg q4).symm.trans hm
        cases hm
        exact e1
theorem fr_X6_addWord {N n : Nat} {σ : Sg} {p0 : Int32} {p1 : Int32} {r : Int32} {σ' : Sg} {c j : Nat} (hc : nt [5, 6, 7] [(1, 8)] c j = true) (hm : f_X6_addWord N n σ p0 p1 = some (r, σ')) : σ' c j = σ c j := by
  unfold f_X6_addWord at hm
  obtain ⟨_, hm⟩ := gb_some hm
  obtain ⟨_, hm⟩ := gb_some hm
  obtain ⟨_, hm⟩ := gb_some hm
  obtain ⟨_, hm⟩ := gb_some hm
  obtain ⟨_, hm⟩ := gb_some hm
  cases hm
  exact ((sg_t hc (by decide)).trans ((sg_u hc (by decide)).trans ((sg_t hc (by decide)).trans ((sg_t hc (by decide)).trans rfl))))
theorem fr_X11_word {N n : Nat} {σ : Sg} {p0 : Int32} {p1 : Int32} {r : Int32} {σ' : Sg} {c j : Nat} (hc : nt [5, 6, 7] [(1, 8)] c j = true) (hm : f_X11_word N n σ p0 p1 = some (r, σ')) : σ' c j = σ c j := by
  unfold f_X11_word at hm
  by_cases q1 : (σ 1 7) = 0
  · have hm := (if_pos q1).symm.trans hm
    cases hm
    exact rfl
  · have hm := (if_neg q1).symm.trans hm
    by_cases q2 : (σ 1 9) = 0
    · have hm := (if_pos q2).symm.trans hm
      by_cases q3 : (σ 1 8) < 300
      · have hm := (if_pos q3).symm.trans hm
        obtain ⟨r4, σ5, h4, hm⟩ := bd_some hm
        have e4 := (fr_X6_addWord (nt_sub hc (by decide) (by decide)) h4).trans rfl
        cases hm
        exact e4
      · have hm := (if_neg q3).symm.trans hm
        cases hm
        exact rfl
    · have hm := (if_neg q2).symm.trans hm
      cases hm
      exact rfl
theorem frl_X12_begin_2 {N n : Nat}  {K55 : (Sg → Int32 → Option (Int32 × Sg))} {out : Int32 × Sg} {c j : Nat} (hc : nt [89, 90, 91, 92, 93, 101] [] c j = true) : ∀ (k : Nat) (σ : Sg) (v1 : Int32), lf_X12_begin_2 N n  K55 k σ v1 = some out → (∀ (σ : Sg) (v1 : Int32), K55 σ v1 = some out → out.2 c j = σ c j) → out.2 c j = σ c j := by
  intro k
  induction k with
  | zero => intro σ v1 hm; exact nomatch (show none = some out from hm)
  | succ k ih =>
    intro σ v1 hm hK55
    have hm : lb_X12_begin_2 N n  K55 (lf_X12_begin_2 N n  K55 k) σ v1 = some out := hm
    unfold lb_X12_begin_2 at hm
    by_cases q1 : 2 ≤ v1
    · have hm := (if_pos q1).symm.trans hm
      exact (hK55 _ _ hm).trans rfl
    · have hm := (if_neg q1).symm.trans hm
      obtain ⟨_, hm⟩ := gb_some hm
      obtain ⟨_, hm⟩ := gb_some hm
      obtain ⟨_, hm⟩ := gb_some hm
      obtain ⟨_, hm⟩ := gb_some hm
      obtain ⟨_, hm⟩ := gb_some hm
      obtain ⟨_, hm⟩ := gb_some hm
      exact (ih _ _ hm hK55).trans ((sg_t hc (by decide)).trans ((sg_t hc (by decide)).trans ((sg_t hc (by decide)).trans ((sg_t hc (by decide)).trans ((sg_t hc (by decide)).trans ((sg_t hc (by decide)).trans rfl))))))
theorem frl_X12_begin_57 {N n : Nat}  {K76 : (Sg → Int32 → Option (Int32 × Sg))} {out : Int32 × Sg} {c j : Nat} (hc : nt [100] [] c j = true) : ∀ (k : Nat) (σ : Sg) (v1 : Int32), lf_X12_begin_57 N n  K76 k σ v1 = some out → (∀ (σ : Sg) (v1 : Int32), K76 σ v1 = some out → out.2 c j = σ c j) → out.2 c j = σ c j := by
  intro k
  induction k with
  | zero => intro σ v1 hm; exact nomatch (show none = some out from hm)
  | succ k ih =>
    intro σ v1 hm hK76
    have hm : lb_X12_begin_57 N n  K76 (lf_X12_begin_57 N n  K76 k) σ v1 = some out := hm
    unfold lb_X12_begin_57 at hm
    by_cases q1 : 12 ≤ v1
    · have hm := (if_pos q1).symm.trans hm
      exact (hK76 _ _ hm).trans rfl
    · have hm := (if_neg q1).symm.trans hm
      obtain ⟨_, hm⟩ := gb_some hm
      exact (ih _ _ hm hK76).trans ((sg_t hc (by decide)).trans rfl)
theorem fr_X12_begin {N n : Nat} {σ : Sg}  {r : Int32} {σ' : Sg} {c j : Nat} (hc : nt [89, 90, 91, 92, 93, 100, 101] [] c j = true) (hm : f_X12_begin N n σ  = some (r, σ')) : σ' c j = σ c j := by
  unfold f_X12_begin at hm
  refine (frl_X12_begin_2 (nt_sub hc (by decide) (by decide)) N _ _ hm ?_).trans rfl
  intro σ8 w9 hm
  refine (frl_X12_begin_57 (nt_sub hc (by decide) (by decide)) N _ _ hm ?_).trans rfl
  intro σ12 w13 hm
  cases hm
  exact rfl
theorem fr_X12_again {N n : Nat} {σ : Sg}  {r : Int32} {σ' : Sg} {c j : Nat} (hc : nt [89, 90, 91, 92, 93, 100, 101] [(59, 0)] c j = true) (hm : f_X12_again N n σ  = some (r, σ')) : σ' c j = σ c j := by
  unfold f_X12_again at hm
  by_cases q1 : (σ 59 10) = 0
  · have hm := (if_pos q1).symm.trans hm
    obtain ⟨_, hm⟩ := g01_some hm
    cases hm
    exact ((sg_u hc (by decide)).trans rfl)
  · have hm := (if_neg q1).symm.trans hm
    obtain ⟨r3, σ4, h2, hm⟩ := bd_some hm
    have e2 := (fr_X12_begin (nt_sub hc (by decide) (by decide)) h2).trans ((sg_u hc (by decide)).trans rfl)
    obtain ⟨_, hm⟩ := g01_some hm
    cases hm
    exact e2
theorem fr_X12_takes {N n : Nat} {σ : Sg} {p0 : Int32} {p1 : Int32} {r : Int32} {σ' : Sg} {c j : Nat} (hc : nt [] [] c j = true) (hm : f_X12_takes N n σ p0 p1 = some (r, σ')) : σ' c j = σ c j := by
  unfold f_X12_takes at hm
  by_cases q1 : p0 = 0 ∨ p0 = 1 ∨ p0 = 12
  · have hm := (if_pos q1).symm.trans hm
    cases hm
    exact rfl
  · have hm := (if_neg q1).symm.trans hm
    by_cases q2 : p0 = 2 ∨ p0 = 9 ∨ p0 = 11 ∨ p0 = 13 ∨ p0 = 15 ∨ p0 = 16
    · have hm := (if_pos q2).symm.trans hm
      cases hm
      exact rfl
    · have hm := (if_neg q2).symm.trans hm
      by_cases q3 : p0 = 14
      · have hm := (if_pos q3).symm.trans hm
        obtain ⟨_, hm⟩ := gb_some hm
        cases hm
        exact rfl
      · have hm := (if_neg q3).symm.trans hm
        cases hm
        exact rfl
theorem fr_X12_behind {N n : Nat} {σ : Sg} {p0 : Int32} {p1 : Int32} {p2 : Int32} {r : Int32} {σ' : Sg} {c j : Nat} (hc : nt [] [] c j = true) (hm : f_X12_behind N n σ p0 p1 p2 = some (r, σ')) : σ' c j = σ c j := by
  unfold f_X12_behind at hm
  by_cases q1 : p0 = 10
  · have hm := (if_pos q1).symm.trans hm
    obtain ⟨r2, σ3, h2, hm⟩ := bd_some hm
    have e2 := (fr_X12_takes (nt_sub hc (by decide) (by decide)) h2).trans rfl
    cases hm
    exact e2
  · have hm := (if_neg q1).symm.trans hm
    by_cases q3 : p0 = 9
    · have hm := (if_pos q3).symm.trans hm
      obtain ⟨r33, σ34, h4, hm⟩ := bd_some hm
      have e4 := (fr_X12_takes (nt_sub hc (by decide) (by decide)) h4).trans rfl
      cases hm
      exact e4
    · have hm := (if_neg q3).symm.trans hm
      by_cases q5 : p0 = 2
      · have hm := (if_pos q5).symm.trans hm
        obtain ⟨r7, σ8, h6, hm⟩ := bd_some hm
        have e6 := (fr_X12_takes (nt_sub hc (by decide) (by decide)) h6).trans rfl
        cases hm
        exact e6
      · have hm := (if_neg q5).symm.trans hm
        by_cases q7 : p0 = 11
        · have hm := (if_pos q7).symm.trans hm
          obtain ⟨r11, σ12, h8, hm⟩ := bd_some hm
          have e8 := (fr_X12_takes (nt_sub hc (by decide) (by decide)) h8).trans rfl
          cases hm
          exact e8
        · have hm := (if_neg q7).symm.trans hm
          by_cases q9 : p0 = 12
          · have hm := (if_pos q9).symm.trans hm
            obtain ⟨r15, σ16, h10, hm⟩ := bd_some hm
            have e10 := (fr_X12_takes (nt_sub hc (by decide) (by decide)) h10).trans rfl
            cases hm
            exact e10
          · have hm := (if_neg q9).symm.trans hm
            by_cases q11 : p0 = 13
            · have hm := (if_pos q11).symm.trans hm
              obtain ⟨r19, σ20, h12, hm⟩ := bd_some hm
              have e12 := (fr_X12_takes (nt_sub hc (by decide) (by decide)) h12).trans rfl
              cases hm
              exact e12
            · have hm := (if_neg q11).symm.trans hm
              by_cases q13 : p0 = 15
              · have hm := (if_pos q13).symm.trans hm
                obtain ⟨r23, σ24, h14, hm⟩ := bd_some hm
                have e14 := (fr_X12_takes (nt_sub hc (by decide) (by decide)) h14).trans rfl
                cases hm
                exact e14
              · have hm := (if_neg q13).symm.trans hm
                by_cases q15 : p0 = 17
                · have hm := (if_pos q15).symm.trans hm
                  obtain ⟨r30, σ31, h16, hm⟩ := bd_some hm
                  have e16 := (fr_X12_takes (nt_sub hc (by decide) (by decide)) h16).trans rfl
                  cases hm
                  exact e16
                · have hm := (if_neg q15).symm.trans hm
                  obtain ⟨r27, σ28, h17, hm⟩ := bd_some hm
                  have e17 := (fr_X12_takes (nt_sub hc (by decide) (by decide)) h17).trans rfl
                  cases hm
                  exact e17
theorem fr_X12_pop {N n : Nat} {σ : Sg}  {r : Int32} {σ' : Sg} {c j : Nat} (hc : nt [97] [] c j = true) (hm : f_X12_pop N n σ  = some (r, σ')) : σ' c j = σ c j := by
  unfold f_X12_pop at hm
  obtain ⟨_, hm⟩ := gb_some hm
  obtain ⟨_, hm⟩ := gb_some hm
  obtain ⟨_, hm⟩ := gb_some hm
  obtain ⟨_, hm⟩ := gb_some hm
  obtain ⟨_, hm⟩ := gb_some hm
  cases hm
  exact ((sg_t hc (by decide)).trans rfl)
theorem frl_X12_enters_49 {N n : Nat} {u1 : Int32} {u2 : Int32} {u3 : Int32} {K118 : (Sg → Int32 → Option (Int32 × Sg))} {out : Int32 × Sg} {c j : Nat} (hc : nt [96, 98] [] c j = true) : ∀ (k : Nat) (σ : Sg) (v4 : Int32), lf_X12_enters_49 N n u1 u2 u3 K118 k σ v4 = some out → (∀ (σ : Sg) (v4 : Int32), K118 σ v4 = some out → out.2 c j = σ c j) → out.2 c j = σ c j := by
  intro k
  induction k with
  | zero => intro σ v4 hm; exact nomatch (show none = some out from hm)
  | succ k ih =>
    intro σ v4 hm hK118
    have hm : lb_X12_enters_49 N n u1 u2 u3 K118 (lf_X12_enters_49 N n u1 u2 u3 K118 k) σ v4 = some out := hm
    unfold lb_X12_enters_49 at hm
    by_cases q1 : 24 ≤ v4
    · have hm := (if_pos q1).symm.trans hm
      exact (hK118 _ _ hm).trans rfl
    · have hm := (if_neg q1).symm.trans hm
      by_cases q2 : u1 = 0
      · have hm := (if_pos q2).symm.trans hm
        obtain ⟨_, hm⟩ := gb_some hm
        by_cases q3 : (σ 60 (ix u2)) ≤ v4
        · have hm := (if_pos q3).symm.trans hm
          obtain ⟨_, hm⟩ := gb_some hm
          obtain ⟨_, hm⟩ := gb_some hm
          exact (ih _ _ hm hK118).trans ((sg_t hc (by decide)).trans ((sg_t hc (by decide)).trans rfl))
        · have hm := (if_neg q3).symm.trans hm
          obtain ⟨_, hm⟩ := gb_some hm
          obtain ⟨_, hm⟩ := gb_some hm
          obtain ⟨_, hm⟩ := gb_some hm
          exact (ih _ _ hm hK118).trans ((sg_t hc (by decide)).trans ((sg_t hc (by decide)).trans rfl))
      · have hm := (if_neg q2).symm.trans hm
        obtain ⟨_, hm⟩ := gb_some hm
        obtain ⟨_, hm⟩ := gb_some hm
        exact (ih _ _ hm hK118).trans ((sg_t hc (by decide)).trans ((sg_t hc (by decide)).trans rfl))
theorem frl_X12_enters_121 {N n : Nat} {u1 : Int32} {u2 : Int32} {u3 : Int32} {K173 : (Sg → Int32 → Option (Int32 × Sg))} {out : Int32 × Sg} {c j : Nat} (hc : nt [99] [] c j = true) : ∀ (k : Nat) (σ : Sg) (v4 : Int32), lf_X12_enters_121 N n u1 u2 u3 K173 k σ v4 = some out → (∀ (σ : Sg) (v4 : Int32), K173 σ v4 = some out → out.2 c j = σ c j) → out.2 c j = σ c j := by
  intro k
  induction k with
  | zero => intro σ v4 hm; exact nomatch (show none = some out from hm)
  | succ k ih =>
    intro σ v4 hm hK173
    have hm : lb_X12_enters_121 N n u1 u2 u3 K173 (lf_X12_enters_121 N n u1 u2 u3 K173 k) σ v4 = some out := hm
    unfold lb_X12_enters_121 at hm
    by_cases q1 : 6 ≤ v4
    · have hm := (if_pos q1).symm.trans hm
      exact (hK173 _ _ hm).trans rfl
    · have hm := (if_neg q1).symm.trans hm
      obtain ⟨_, hm⟩ := gb_some hm
      by_cases q2 : (σ 60 (ix u2)) ≤ v4
      · have hm := (if_pos q2).symm.trans hm
        obtain ⟨_, hm⟩ := gb_some hm
        exact (ih _ _ hm hK173).trans ((sg_t hc (by decide)).trans rfl)
      · have hm := (if_neg q2).symm.trans hm
        obtain ⟨_, hm⟩ := gb_some hm
        obtain ⟨_, hm⟩ := gb_some hm
        exact (ih _ _ hm hK173).trans ((sg_t hc (by decide)).trans rfl)
theorem fr_X12_enters {N n : Nat} {σ : Sg} {p0 : Int32} {p1 : Int32} {r : Int32} {σ' : Sg} {c j : Nat} (hc : nt [92, 93, 94, 95, 96, 97, 98, 99] [] c j = true) (hm : f_X12_enters N n σ p0 p1 = some (r, σ')) : σ' c j = σ c j := by
  unfold f_X12_enters at hm
  obtain ⟨_, hm⟩ := gb_some hm
  obtain ⟨_, hm⟩ := gb_some hm
  obtain ⟨_, hm⟩ := gb_some hm
  obtain ⟨_, hm⟩ := gb_some hm
  obtain ⟨_, hm⟩ := gb_some hm
  obtain ⟨_, hm⟩ := gb_some hm
  obtain ⟨_, hm⟩ := gb_some hm
  refine (frl_X12_enters_49 (nt_sub hc (by decide) (by decide)) N _ _ hm ?_).trans ((sg_t hc (by decide)).trans ((sg_t hc (by decide)).trans ((sg_t hc (by decide)).trans ((sg_t hc (by decide)).trans rfl))))
  intro σ19 w20 hm
  refine (frl_X12_enters_121 (nt_sub hc (by decide) (by decide)) N _ _ hm ?_).trans rfl
  intro σ27 w28 hm
  obtain ⟨_, hm⟩ := gb_some hm
  obtain ⟨_, hm⟩ := gb_some hm
  cases hm
  exact ((sg_t hc (by decide)).trans rfl)
theorem fr_X12_ends {N n : Nat} {σ : Sg} {p0 : Int32} {p1 : Int32} {r : Int32} {σ' : Sg} {c j : Nat} (hc : nt [89, 93] [] c j = true) (hm : f_X12_ends N n σ p0 p1 = some (r, σ')) : σ' c j = σ c j := by
  unfold f_X12_ends at hm
  obtain ⟨_, hm⟩ := gb_some hm
  obtain ⟨_, hm⟩ := gb_some hm
  cases hm
  exact ((sg_t hc (by decide)).trans ((sg_t hc (by decide)).trans rfl))
theorem frl_X12_callStack_27 {N n : Nat} {u1 : Int32} {K47 : (Sg → Int32 → Option (Int32 × Sg))} {out : Int32 × Sg} {c j : Nat} (hc : nt [97, 100] [] c j = true) : ∀ (k : Nat) (σ : Sg) (v2 : Int32), lf_X12_callStack_27 N n u1 K47 k σ v2 = some out → (∀ (σ : Sg) (v2 : Int32), K47 σ v2 = some out → out.2 c j = σ c j) → out.2 c j = σ c j := by
  intro k
  induction k with
  | zero => intro σ v2 hm; exact nomatch (show none = some out from hm)
  | succ k ih =>
    intro σ v2 hm hK47
    have hm : lb_X12_callStack_27 N n u1 K47 (lf_X12_callStack_27 N n u1 K47 k) σ v2 = some out := hm
    unfold lb_X12_callStack_27 at hm
    by_cases q1 : v2 < 0
    · have hm := (if_pos q1).symm.trans hm
      exact (hK47 _ _ hm).trans rfl
    · have hm := (if_neg q1).symm.trans hm
      obtain ⟨r5, σ6, h2, hm⟩ := bd_some hm
      have e2 := (fr_X12_pop (nt_sub hc (by decide) (by decide)) h2).trans rfl
      obtain ⟨_, hm⟩ := gb_some hm
      exact (ih _ _ hm hK47).trans ((sg_t hc (by decide)).trans e2)
theorem fr_X12_callStack {N n : Nat} {σ : Sg} {p0 : Int32} {r : Int32} {σ' : Sg} {c j : Nat} (hc : nt [89, 92, 93, 94, 95, 96, 97, 98, 99, 100] [] c j = true) (hm : f_X12_callStack N n σ p0 = some (r, σ')) : σ' c j = σ c j := by
  unfold f_X12_callStack at hm
  obtain ⟨_, hm⟩ := gb_some hm
  by_cases q1 : (σ 93 (ix 0)) = 30
  · have hm := (if_pos q1).symm.trans hm
    obtain ⟨r14, σ15, h2, hm⟩ := bd_some hm
    have e2 := (fr_X12_ends (nt_sub hc (by decide) (by decide)) h2).trans rfl
    cases hm
    exact e2
  · have hm := (if_neg q1).symm.trans hm
    obtain ⟨_, hm⟩ := gb_some hm
    refine (frl_X12_callStack_27 (nt_sub hc (by decide) (by decide)) N _ _ hm ?_).trans rfl
    intro σ9 w10 hm
    obtain ⟨r11, σ12, h3, hm⟩ := bd_some hm
    have e3 := (fr_X12_enters (nt_sub hc (by decide) (by decide)) h3).trans rfl
    cases hm
    exact e3
theorem fr_X12_isCell {N n : Nat} {σ : Sg} {p0 : Int32} {r : Int32} {σ' : Sg} {c j : Nat} (hc : nt [] [] c j = true) (hm : f_X12_isCell N n σ p0 = some (r, σ')) : σ' c j = σ c j := by
  unfold f_X12_isCell at hm
  by_cases q1 : p0 < 0
  · have hm := (if_pos q1).symm.trans hm
    cases hm
    exact rfl
  · have hm := (if_neg q1).symm.trans hm
    by_cases q2 : 64 ≤ p0
    · have hm := (if_pos q2).symm.trans hm
      cases hm
      exact rfl
    · have hm := (if_neg q2).symm.trans hm
      cases hm
      exact rfl
theorem fr_X12_cell {N n : Nat} {σ : Sg} {p0 : Int32} {p1 : Int32} {r : Int32} {σ' : Sg} {c j : Nat} (hc : nt [88] [(59, 0)] c j = true) (hm : f_X12_cell N n σ p0 p1 = some (r, σ')) : σ' c j = σ c j := by
  unfold f_X12_cell at hm
  obtain ⟨r1, σ2, h1, hm⟩ := bd_some hm
  have e1 := (fr_X12_isCell (nt_sub hc (by decide) (by decide)) h1).trans ((sg_u hc (by decide)).trans rfl)
  by_cases q2 : r1 = 0
  · have hm := (if_pos q2).symm.trans hm
    cases hm
    exact e1
  · have hm := (if_neg q2).symm.trans hm
    obtain ⟨_, hm⟩ := gb_some hm
    obtain ⟨_, hm⟩ := gb_some hm
    cases hm
    exact ((sg_t hc (by decide)).trans ((sg_t hc (by decide)).trans e1))
theorem fr_X12_isTold {N n : Nat} {σ : Sg} {p0 : Int32} {p1 : Int32} {p2 : Int32} {r : Int32} {σ' : Sg} {c j : Nat} (hc : nt [] [] c j = true) (hm : f_X12_isTold N n σ p0 p1 p2 = some (r, σ')) : σ' c j = σ c j := by
  unfold f_X12_isTold at hm
  by_cases q1 : p1 < 0
  · have hm := (if_pos q1).symm.trans hm
    cases hm
    exact rfl
  · have hm := (if_neg q1).symm.trans hm
    by_cases q2 : p1 ≤ 17
    · have hm := (if_pos q2).symm.trans hm
      by_cases q3 : p1 = 1
      · have hm := (if_pos q3).symm.trans hm
        by_cases q4 : p2 < 0
        · have hm := (if_pos q4).symm.trans hm
          cases hm
          exact rfl
        · have hm := (if_neg q4).symm.trans hm
          obtain ⟨_, hm⟩ := gb_some hm
          by_cases q5 : (σ 61 (ix p0)) ≤ p2
          · have hm := (if_pos q5).symm.trans hm
            cases hm
            exact rfl
          · have hm := (if_neg q5).symm.trans hm
            cases hm
            exact rfl
      · have hm := (if_neg q3).symm.trans hm
        by_cases q6 : p1 = 2
        · have hm := (if_pos q6).symm.trans hm
          by_cases q7 : p2 < 0
          · have hm := (if_pos q7).symm.trans hm
            cases hm
            exact rfl
          · have hm := (if_neg q7).symm.trans hm
            obtain ⟨_, hm⟩ := gb_some hm
            by_cases q8 : (σ 61 (ix p0)) ≤ p2
            · have hm := (if_pos q8).symm.trans hm
              cases hm
              exact rfl
            · have hm := (if_neg q8).symm.trans hm
              cases hm
              exact rfl
        · have hm := (if_neg q6).symm.trans hm
          by_cases q9 : p1 = 12
          · have hm := (if_pos q9).symm.trans hm
            by_cases q10 : p2 < 0
            · have hm := (if_pos q10).symm.trans hm
              cases hm
              exact rfl
            · have hm := (if_neg q10).symm.trans hm
              obtain ⟨_, hm⟩ := gb_some hm
              by_cases q11 : (σ 63 (ix p0)) ≤ p2
              · have hm := (if_pos q11).symm.trans hm
                cases hm
                exact rfl
              · have hm := (if_neg q11).symm.trans hm
                cases hm
                exact rfl
          · have hm := (if_neg q9).symm.trans hm
            by_cases q12 : p1 = 13
            · have hm := (if_pos q12).symm.trans hm
              by_cases q13 : p2 < 0
              · have hm := (if_pos q13).symm.trans hm
                cases hm
                exact rfl
              · have hm := (if_neg q13).symm.trans hm
                obtain ⟨_, hm⟩ := gb_some hm
                by_cases q14 : (σ 63 (ix p0)) ≤ p2
                · have hm := (if_pos q14).symm.trans hm
                  cases hm
                  exact rfl
                · have hm := (if_neg q14).symm.trans hm
                  cases hm
                  exact rfl
            · have hm := (if_neg q12).symm.trans hm
              by_cases q15 : p1 = 14
              · have hm := (if_pos q15).symm.trans hm
                by_cases q16 : p2 < 0
                · have hm := (if_pos q16).symm.trans hm
                  cases hm
                  exact rfl
                · have hm := (if_neg q16).symm.trans hm
                  by_cases q17 : (σ 59 1) ≤ p2
                  · have hm := (if_pos q17).symm.trans hm
                    cases hm
                    exact rfl
                  · have hm := (if_neg q17).symm.trans hm
                    cases hm
                    exact rfl
              · have hm := (if_neg q15).symm.trans hm
                cases hm
                exact rfl
    · have hm := (if_neg q2).symm.trans hm
      cases hm
      exact rfl
theorem fr_X12_comes {N n : Nat} {σ : Sg} {p0 : Int32} {p1 : Int32} {p2 : Int32} {r : Int32} {σ' : Sg} {c j : Nat} (hc : nt [66] [] c j = true) (hm : f_X12_comes N n σ p0 p1 p2 = some (r, σ')) : σ' c j = σ c j := by
  unfold f_X12_comes at hm
  obtain ⟨_, hm⟩ := gb_some hm
  obtain ⟨_, hm⟩ := gb_some hm
  by_cases q1 : (σ 66 (ix ((σ 62 (ix p0)) + p1))) < 0
  · have hm := (if_pos q1).symm.trans hm
    obtain ⟨_, hm⟩ := gb_some hm
    cases hm
    exact ((sg_t hc (by decide)).trans rfl)
  · have hm := (if_neg q1).symm.trans hm
    obtain ⟨_, hm⟩ := gb_some hm
    by_cases q2 : (σ 66 (ix ((σ 62 (ix p0)) + p1))) = p2
    · have hm := (if_pos q2).symm.trans hm
      cases hm
      exact rfl
    · have hm := (if_neg q2).symm.trans hm
      cases hm
      exact rfl
theorem fr_X12_looksAt {N n : Nat} {σ : Sg} {p0 : Int32} {p1 : Int32} {r : Int32} {σ' : Sg} {c j : Nat} (hc : nt [66] [] c j = true) (hm : f_X12_looksAt N n σ p0 p1 = some (r, σ')) : σ' c j = σ c j := by
  unfold f_X12_looksAt at hm
  obtain ⟨_, hm⟩ := gb_some hm
  obtain ⟨_, hm⟩ := gb_some hm
  obtain ⟨_, hm⟩ := gb_some hm
  obtain ⟨_, hm⟩ := gb_some hm
  obtain ⟨_, hm⟩ := gb_some hm
  obtain ⟨_, hm⟩ := gb_some hm
  obtain ⟨r7, σ8, h1, hm⟩ := bd_some hm
  have e1 := (fr_X12_isTold (nt_sub hc (by decide) (by decide)) h1).trans rfl
  by_cases q2 : r7 = 0
  · have hm := (if_pos q2).symm.trans hm
    cases hm
    exact e1
  · have hm := (if_neg q2).symm.trans hm
    obtain ⟨r11, σ12, h3, hm⟩ := bd_some hm
    have e3 := (fr_X12_takes (nt_sub hc (by decide) (by decide)) h3).trans e1
    by_cases q4 : r11 ≤ (σ 66 (ix ((σ 62 (ix p0)) + p1)))
    · have hm := (if_pos q4).symm.trans hm
      obtain ⟨r15, σ16, h5, hm⟩ := bd_some hm
      have e5 := (fr_X12_behind (nt_sub hc (by decide) (by decide)) h5).trans e3
      by_cases q6 : r15 ≤ 12
      · have hm := (if_pos q6).symm.trans hm
        by_cases q7 : (σ 64 (ix ((σ 62 (ix p0)) + p1))) = 12
        · have hm := (if_pos q7).symm.trans hm
          obtain ⟨r20, σ21, h8, hm⟩ := bd_some hm
          have e8 := (fr_X12_comes (nt_sub hc (by decide) (by decide)) h8).trans e5
          cases hm
          exact e8
        · have hm := (if_neg q7).symm.trans hm
          by_cases q9 : (σ 64 (ix ((σ 62 (ix p0)) + p1))) = 15
          · have hm := (if_pos q9).symm.trans hm
            by_cases q10 : (σ 64 (ix ((σ 62 (ix p0)) + p1))) = 13
            · have hm := (if_pos q10).symm.trans hm
              obtain ⟨r25, σ26, h11, hm⟩ := bd_some hm
              have e11 := (fr_X12_comes (nt_sub hc (by decide) (by decide)) h11).trans e5
              cases hm
              exact e11
            · have hm := (if_neg q10).symm.trans hm
              cases hm
              exact e5
          · have hm := (if_neg q9).symm.trans hm
            obtain ⟨_, hm⟩ := gb_some hm
            by_cases q12 : (p1 + 1) = (σ16 63 (ix p0))
            · have hm := (if_pos q12).symm.trans hm
              cases hm
              exact e5
            · have hm := (if_neg q12).symm.trans hm
              obtain ⟨r30, σ31, h13, hm⟩ := bd_some hm
              have e13 := (fr_X12_comes (nt_sub hc (by decide) (by decide)) h13).trans e5
              by_cases q14 : r30 = 0
              · have hm := (if_pos q14).symm.trans hm
                by_cases q15 : (σ 64 (ix ((σ 62 (ix p0)) + p1))) = 13
                · have hm := (if_pos q15).symm.trans hm
                  obtain ⟨r35, σ36, h16, hm⟩ := bd_some hm
                  have e16 := (fr_X12_comes (nt_sub hc (by decide) (by decide)) h16).trans e13
                  cases hm
                  exact e16
                · have hm := (if_neg q15).symm.trans hm
                  cases hm
                  exact e13
              · have hm := (if_neg q14).symm.trans hm
                cases hm
                exact e13
      · have hm := (if_neg q6).symm.trans hm
        cases hm
        exact e5
    · have hm := (if_neg q4).symm.trans hm
      cases hm
      exact e3
theorem frl_X12_checks_9 {N n : Nat} {u1 : Int32} {u2 : Int32} {K43 : (Sg → Int32 → Option (Int32 × Sg))} {out : Int32 × Sg} {c j : Nat} (hc : nt [66, 67] [] c j = true) : ∀ (k : Nat) (σ : Sg) (v3 : Int32), lf_X12_checks_9 N n u1 u2 K43 k σ v3 = some out → (∀ (σ : Sg) (v3 : Int32), K43 σ v3 = some out → out.2 c j = σ c j) → out.2 c j = σ c j := by
  intro k
  induction k with
  | zero => intro σ v3 hm; exact nomatch (show none = some out from hm)
  | succ k ih =>
    intro σ v3 hm hK43
    have hm : lb_X12_checks_9 N n u1 u2 K43 (lf_X12_checks_9 N n u1 u2 K43 k) σ v3 = some out := hm
    unfold lb_X12_checks_9 at hm
    obtain ⟨_, hm⟩ := gb_some hm
    by_cases q1 : (σ 63 (ix u1)) ≤ v3
    · have hm := (if_pos q1).symm.trans hm
      exact (hK43 _ _ hm).trans rfl
    · have hm := (if_neg q1).symm.trans hm
      obtain ⟨_, hm⟩ := gb_some hm
      obtain ⟨_, hm⟩ := gb_some hm
      exact (ih _ _ hm hK43).trans ((sg_t hc (by decide)).trans ((sg_t hc (by decide)).trans rfl))
theorem frl_X12_checks_52 {N n : Nat} {u1 : Int32} {u2 : Int32} {K131 : (Sg → Int32 → Option (Int32 × Sg))} {out : Int32 × Sg} {c j : Nat} (hc : nt [66, 67] [] c j = true) : ∀ (k : Nat) (σ : Sg) (v3 : Int32), lf_X12_checks_52 N n u1 u2 K131 k σ v3 = some out → (∀ (σ : Sg) (v3 : Int32), K131 σ v3 = some out → out.2 c j = σ c j) → out.2 c j = σ c j := by
  intro k
  induction k with
  | zero => intro σ v3 hm; exact nomatch (show none = some out from hm)
  | succ k ih =>
    intro σ v3 hm hK131
    have hm : lb_X12_checks_52 N n u1 u2 K131 (lf_X12_checks_52 N n u1 u2 K131 k) σ v3 = some out := hm
    unfold lb_X12_checks_52 at hm
    obtain ⟨_, hm⟩ := gb_some hm
    by_cases q1 : (σ 63 (ix u1)) ≤ v3
    · have hm := (if_pos q1).symm.trans hm
      exact (hK131 _ _ hm).trans rfl
    · have hm := (if_neg q1).symm.trans hm
      obtain ⟨_, hm⟩ := gb_some hm
      by_cases q2 : (σ 66 (ix (u2 + v3))) < 0
      · have hm := (if_pos q2).symm.trans hm
        exact (ih _ _ hm hK131).trans rfl
      · have hm := (if_neg q2).symm.trans hm
        obtain ⟨_, hm⟩ := gb_some hm
        by_cases q3 : (σ 67 (ix (u2 + v3))) = 0
        · have hm := (if_pos q3).symm.trans hm
          obtain ⟨_, hm⟩ := gb_some hm
          obtain ⟨r16, σ17, h4, hm⟩ := bd_some hm
          have e4 := (fr_X12_looksAt (nt_sub hc (by decide) (by decide)) h4).trans ((sg_t hc (by decide)).trans rfl)
          by_cases q5 : r16 ≤ 0
          · have hm := (if_pos q5).symm.trans hm
            exact (ih _ _ hm hK131).trans e4
          · have hm := (if_neg q5).symm.trans hm
            cases hm
            exact e4
        · have hm := (if_neg q3).symm.trans hm
          exact (ih _ _ hm hK131).trans rfl
theorem fr_X12_checks {N n : Nat} {σ : Sg} {p0 : Int32} {r : Int32} {σ' : Sg} {c j : Nat} (hc : nt [66, 67] [] c j = true) (hm : f_X12_checks N n σ p0 = some (r, σ')) : σ' c j = σ c j := by
  unfold f_X12_checks at hm
  obtain ⟨_, hm⟩ := gb_some hm
  refine (frl_X12_checks_9 (nt_sub hc (by decide) (by decide)) N _ _ hm ?_).trans rfl
  intro σ6 w7 hm
  obtain ⟨_, hm⟩ := gb_some hm
  refine (frl_X12_checks_52 (nt_sub hc (by decide) (by decide)) N _ _ hm ?_).trans ((sg_t hc (by decide)).trans rfl)
  intro σ20 w21 hm
  cases hm
  exact rfl
theorem frl_X12_check_26 {N n : Nat}  {K57 : (Sg → Int32 → Option (Int32 × Sg))} {out : Int32 × Sg} {c j : Nat} (hc : nt [] [] c j = true) : ∀ (k : Nat) (σ : Sg) (v1 : Int32), lf_X12_check_26 N n  K57 k σ v1 = some out → (∀ (σ : Sg) (v1 : Int32), K57 σ v1 = some out → out.2 c j = σ c j) → out.2 c j = σ c j := by
  intro k
  induction k with
  | zero => intro σ v1 hm; exact nomatch (show none = some out from hm)
  | succ k ih =>
    intro σ v1 hm hK57
    have hm : lb_X12_check_26 N n  K57 (lf_X12_check_26 N n  K57 k) σ v1 = some out := hm
    unfold lb_X12_check_26 at hm
    by_cases q1 : (σ 59 1) ≤ v1
    · have hm := (if_pos q1).symm.trans hm
      exact (hK57 _ _ hm).trans rfl
    · have hm := (if_neg q1).symm.trans hm
      obtain ⟨_, hm⟩ := gb_some hm
      by_cases q2 : (σ 63 (ix v1)) = 0
      · have hm := (if_pos q2).symm.trans hm
        cases hm
        exact rfl
      · have hm := (if_neg q2).symm.trans hm
        exact (ih _ _ hm hK57).trans rfl
theorem frl_X12_check_59 {N n : Nat}  {K85 : (Sg → Int32 → Option (Int32 × Sg))} {out : Int32 × Sg} {c j : Nat} (hc : nt [66, 67] [] c j = true) : ∀ (k : Nat) (σ : Sg) (v1 : Int32), lf_X12_check_59 N n  K85 k σ v1 = some out → (∀ (σ : Sg) (v1 : Int32), K85 σ v1 = some out → out.2 c j = σ c j) → out.2 c j = σ c j := by
  intro k
  induction k with
  | zero => intro σ v1 hm; exact nomatch (show none = some out from hm)
  | succ k ih =>
    intro σ v1 hm hK85
    have hm : lb_X12_check_59 N n  K85 (lf_X12_check_59 N n  K85 k) σ v1 = some out := hm
    unfold lb_X12_check_59 at hm
    by_cases q1 : (σ 59 1) ≤ v1
    · have hm := (if_pos q1).symm.trans hm
      exact (hK85 _ _ hm).trans rfl
    · have hm := (if_neg q1).symm.trans hm
      obtain ⟨r9, σ10, h2, hm⟩ := bd_some hm
      have e2 := (fr_X12_checks (nt_sub hc (by decide) (by decide)) h2).trans rfl
      by_cases q3 : r9 ≤ 0
      · have hm := (if_pos q3).symm.trans hm
        exact (ih _ _ hm hK85).trans e2
      · have hm := (if_neg q3).symm.trans hm
        cases hm
        exact e2
theorem fr_X12_check {N n : Nat} {σ : Sg}  {r : Int32} {σ' : Sg} {c j : Nat} (hc : nt [66, 67, 89, 90, 91, 92, 93, 100, 101] [(59, 0), (59, 10)] c j = true) (hm : f_X12_check N n σ  = some (r, σ')) : σ' c j = σ c j := by
  unfold f_X12_check at hm
  by_cases q1 : (σ 59 10) = 0
  · have hm := (if_pos q1).symm.trans hm
    by_cases q2 : (σ 59 1) = 0
    · have hm := (if_pos q2).symm.trans hm
      cases hm
      exact ((sg_u hc (by decide)).trans rfl)
    · have hm := (if_neg q2).symm.trans hm
      refine (frl_X12_check_26 (nt_sub hc (by decide) (by decide)) N _ _ hm ?_).trans ((sg_u hc (by decide)).trans rfl)
      intro σ6 w7 hm
      refine (frl_X12_check_59 (nt_sub hc (by decide) (by decide)) N _ _ hm ?_).trans rfl
      intro σ13 w14 hm
      obtain ⟨r15, σ16, h3, hm⟩ := bd_some hm
      have e3 := (fr_X12_begin (nt_sub hc (by decide) (by decide)) h3).trans ((sg_u hc (by decide)).trans rfl)
      cases hm
      exact e3
  · have hm := (if_neg q1).symm.trans hm
    cases hm
    exact ((sg_u hc (by decide)).trans rfl)
theorem frl_X12_clear_27 {N n : Nat}  {K47 : (Sg → Int32 → Option (Int32 × Sg))} {out : Int32 × Sg} {c j : Nat} (hc : nt [88] [] c j = true) : ∀ (k : Nat) (σ : Sg) (v1 : Int32), lf_X12_clear_27 N n  K47 k σ v1 = some out → (∀ (σ : Sg) (v1 : Int32), K47 σ v1 = some out → out.2 c j = σ c j) → out.2 c j = σ c j := by
  intro k
  induction k with
  | zero => intro σ v1 hm; exact nomatch (show none = some out from hm)
  | succ k ih =>
    intro σ v1 hm hK47
    have hm : lb_X12_clear_27 N n  K47 (lf_X12_clear_27 N n  K47 k) σ v1 = some out := hm
    unfold lb_X12_clear_27 at hm
    by_cases q1 : 128 ≤ v1
    · have hm := (if_pos q1).symm.trans hm
      exact (hK47 _ _ hm).trans rfl
    · have hm := (if_neg q1).symm.trans hm
      obtain ⟨_, hm⟩ := gb_some hm
      exact (ih _ _ hm hK47).trans ((sg_t hc (by decide)).trans rfl)
theorem fr_X12_clear {N n : Nat} {σ : Sg}  {r : Int32} {σ' : Sg} {c j : Nat} (hc : nt [88, 89, 90, 91, 92, 93, 100, 101] [(59, 0), (59, 1), (59, 6), (59, 10), (59, 37)] c j = true) (hm : f_X12_clear N n σ  = some (r, σ')) : σ' c j = σ c j := by
  unfold f_X12_clear at hm
  refine (frl_X12_clear_27 (nt_sub hc (by decide) (by decide)) N _ _ hm ?_).trans ((sg_u hc (by decide)).trans ((sg_u hc (by decide)).trans ((sg_u hc (by decide)).trans ((sg_u hc (by decide)).trans ((sg_u hc (by decide)).trans rfl)))))
  intro σ3 w4 hm
  obtain ⟨r5, σ6, h1, hm⟩ := bd_some hm
  have e1 := (fr_X12_begin (nt_sub hc (by decide) (by decide)) h1).trans rfl
  cases hm
  exact e1
theorem fr_X12_isJump {N n : Nat} {σ : Sg} {p0 : Int32} {r : Int32} {σ' : Sg} {c j : Nat} (hc : nt [] [] c j = true) (hm : f_X12_isJump N n σ p0 = some (r, σ')) : σ' c j = σ c j := by
  unfold f_X12_isJump at hm
  by_cases q1 : p0 = 4
  · have hm := (if_pos q1).symm.trans hm
    cases hm
    exact rfl
  · have hm := (if_neg q1).symm.trans hm
    by_cases q2 : p0 = 5
    · have hm := (if_pos q2).symm.trans hm
      cases hm
      exact rfl
    · have hm := (if_neg q2).symm.trans hm
      cases hm
      exact rfl
theorem frl_X12_closesUp_99 {N n : Nat} {u1 : Int32} {u2 : Int32} {u3 : Int32} {K140 : (Sg → Int32 → Option (Int32 × Sg))} {out : Int32 × Sg} {c j : Nat} (hc : nt [70] [] c j = true) : ∀ (k : Nat) (σ : Sg) (v4 : Int32), lf_X12_closesUp_99 N n u1 u2 u3 K140 k σ v4 = some out → (∀ (σ : Sg) (v4 : Int32), K140 σ v4 = some out → out.2 c j = σ c j) → out.2 c j = σ c j := by
  intro k
  induction k with
  | zero => intro σ v4 hm; exact nomatch (show none = some out from hm)
  | succ k ih =>
    intro σ v4 hm hK140
    have hm : lb_X12_closesUp_99 N n u1 u2 u3 K140 (lf_X12_closesUp_99 N n u1 u2 u3 K140 k) σ v4 = some out := hm
    unfold lb_X12_closesUp_99 at hm
    obtain ⟨_, hm⟩ := gb_some hm
    by_cases q1 : (σ 71 (ix u2)) ≤ v4
    · have hm := (if_pos q1).symm.trans hm
      exact (hK140 _ _ hm).trans rfl
    · have hm := (if_neg q1).symm.trans hm
      obtain ⟨_, hm⟩ := gb_some hm
      obtain ⟨_, hm⟩ := gb_some hm
      exact (ih _ _ hm hK140).trans ((sg_t hc (by decide)).trans rfl)
theorem frl_X12_closesUp_2 {N n : Nat} {u1 : Int32} {K146 : (Sg → Int32 → Option (Int32 × Sg))} {out : Int32 × Sg} {c j : Nat} (hc : nt [68, 69, 70, 71] [] c j = true) : ∀ (k : Nat) (σ : Sg) (v2 : Int32), lf_X12_closesUp_2 N n u1 K146 k σ v2 = some out → (∀ (σ : Sg) (v2 : Int32), K146 σ v2 = some out → out.2 c j = σ c j) → out.2 c j = σ c j := by
  intro k
  induction k with
  | zero => intro σ v2 hm; exact nomatch (show none = some out from hm)
  | succ k ih =>
    intro σ v2 hm hK146
    have hm : lb_X12_closesUp_2 N n u1 K146 (lf_X12_closesUp_2 N n u1 K146 k) σ v2 = some out := hm
    unfold lb_X12_closesUp_2 at hm
    by_cases q1 : (σ 59 12) ≤ v2
    · have hm := (if_pos q1).symm.trans hm
      exact (hK146 _ _ hm).trans rfl
    · have hm := (if_neg q1).symm.trans hm
      obtain ⟨_, hm⟩ := gb_some hm
      obtain ⟨_, hm⟩ := gb_some hm
      by_cases q2 : (σ 73 (ix (v2 + 1))) ≤ (σ 73 (ix v2))
      · have hm := (if_pos q2).symm.trans hm
        exact (ih _ _ hm hK146).trans rfl
      · have hm := (if_neg q2).symm.trans hm
        obtain ⟨_, hm⟩ := gb_some hm
        obtain ⟨_, hm⟩ := gb_some hm
        obtain ⟨_, hm⟩ := gb_some hm
        obtain ⟨_, hm⟩ := gb_some hm
        obtain ⟨r9, σ10, h3, hm⟩ := bd_some hm
        have e3 := (fr_X12_isJump (nt_sub hc (by decide) (by decide)) h3).trans ((sg_t hc (by decide)).trans rfl)
        by_cases q4 : r9 = 0
        · have hm := (if_pos q4).symm.trans hm
          obtain ⟨_, hm⟩ := gb_some hm
          obtain ⟨_, hm⟩ := gb_some hm
          obtain ⟨_, hm⟩ := gb_some hm
          obtain ⟨_, hm⟩ := gb_some hm
          refine (frl_X12_closesUp_99 (nt_sub hc (by decide) (by decide)) N _ _ hm ?_).trans ((sg_t hc (by decide)).trans ((sg_t hc (by decide)).trans e3))
          intro σ21 w22 hm
          exact (ih _ _ hm hK146).trans rfl
        · have hm := (if_neg q4).symm.trans hm
          obtain ⟨_, hm⟩ := gb_some hm
          obtain ⟨_, hm⟩ := gb_some hm
          obtain ⟨_, hm⟩ := gb_some hm
          obtain ⟨_, hm⟩ := gb_some hm
          obtain ⟨_, hm⟩ := gb_some hm
          refine (frl_X12_closesUp_99 (nt_sub hc (by decide) (by decide)) N _ _ hm ?_).trans ((sg_t hc (by decide)).trans ((sg_t hc (by decide)).trans e3))
          intro σ28 w29 hm
          exact (ih _ _ hm hK146).trans rfl
theorem fr_X12_closesUp {N n : Nat} {σ : Sg} {p0 : Int32} {r : Int32} {σ' : Sg} {c j : Nat} (hc : nt [68, 69, 70, 71] [(59, 12)] c j = true) (hm : f_X12_closesUp N n σ p0 = some (r, σ')) : σ' c j = σ c j := by
  unfold f_X12_closesUp at hm
  refine (frl_X12_closesUp_2 (nt_sub hc (by decide) (by decide)) N _ _ hm ?_).trans rfl
  intro σ30 w31 hm
  cases hm
  exact ((sg_u hc (by decide)).trans rfl)
theorem fr_X12_slotOf {N n : Nat} {σ : Sg} {p0 : Int32} {r : Int32} {σ' : Sg} {c j : Nat} (hc : nt [] [] c j = true) (hm : f_X12_slotOf N n σ p0 = some (r, σ')) : σ' c j = σ c j := by
  unfold f_X12_slotOf at hm
  obtain ⟨_, hm⟩ := gb_some hm
  cases hm
  exact rfl
theorem fr_X12_registerOf {N n : Nat} {σ : Sg} {p0 : Int32} {r : Int32} {σ' : Sg} {c j : Nat} (hc : nt [] [] c j = true) (hm : f_X12_registerOf N n σ p0 = some (r, σ')) : σ' c j = σ c j := by
  unfold f_X12_registerOf at hm
  obtain ⟨_, hm⟩ := gb_some hm
  cases hm
  exact rfl
theorem fr_X12_written {N n : Nat} {σ : Sg} {p0 : Int32} {r : Int32} {σ' : Sg} {c j : Nat} (hc : nt [] [] c j = true) (hm : f_X12_written N n σ p0 = some (r, σ')) : σ' c j = σ c j := by
  unfold f_X12_written at hm
  obtain ⟨r1, σ2, h1, hm⟩ := bd_some hm
  have e1 := (fr_X12_slotOf (nt_sub hc (by decide) (by decide)) h1).trans rfl
  by_cases q2 : 0 ≤ r1
  · have hm := (if_pos q2).symm.trans hm
    cases hm
    exact e1
  · have hm := (if_neg q2).symm.trans hm
    obtain ⟨r5, σ6, h3, hm⟩ := bd_some hm
    have e3 := (fr_X12_registerOf (nt_sub hc (by decide) (by decide)) h3).trans e1
    cases hm
    exact e3
theorem fr_X12_emit {N n : Nat} {σ : Sg} {p0 : Int32} {p1 : Int32} {p2 : Int32} {p3 : Int32} {p4 : Int32} {r : Int32} {σ' : Sg} {c j : Nat} (hc : nt [84] [(59, 30), (59, 34)] c j = true) (hm : f_X12_emit N n σ p0 p1 p2 p3 p4 = some (r, σ')) : σ' c j = σ c j := by
  unfold f_X12_emit at hm
  by_cases q1 : (σ 59 30) = 2000
  · have hm := (if_pos q1).symm.trans hm
    cases hm
    exact ((sg_u hc (by decide)).trans rfl)
  · have hm := (if_neg q1).symm.trans hm
    obtain ⟨_, hm⟩ := gb_some hm
    obtain ⟨_, hm⟩ := gb_some hm
    obtain ⟨_, hm⟩ := gb_some hm
    obtain ⟨_, hm⟩ := gb_some hm
    obtain ⟨_, hm⟩ := gb_some hm
    cases hm
    exact ((sg_u hc (by decide)).trans ((sg_t hc (by decide)).trans ((sg_t hc (by decide)).trans ((sg_t hc (by decide)).trans ((sg_t hc (by decide)).trans ((sg_t hc (by decide)).trans rfl))))))
theorem fr_X12_saved {N n : Nat} {σ : Sg} {p0 : Int32} {r : Int32} {σ' : Sg} {c j : Nat} (hc : nt [84] [(59, 30), (59, 34)] c j = true) (hm : f_X12_saved N n σ p0 = some (r, σ')) : σ' c j = σ c j := by
  unfold f_X12_saved at hm
  obtain ⟨r1, σ2, h1, hm⟩ := bd_some hm
  have e1 := (fr_X12_slotOf (nt_sub hc (by decide) (by decide)) h1).trans rfl
  by_cases q2 : r1 < 0
  · have hm := (if_pos q2).symm.trans hm
    cases hm
    exact e1
  · have hm := (if_neg q2).symm.trans hm
    obtain ⟨r5, σ6, h3, hm⟩ := bd_some hm
    have e3 := (fr_X12_slotOf (nt_sub hc (by decide) (by decide)) h3).trans e1
    obtain ⟨r8, σ9, h4, hm⟩ := bd_some hm
    have e4 := (fr_X12_emit (nt_sub hc (by decide) (by decide)) h4).trans e3
    cases hm
    exact e4
theorem fr_X12_moves {N n : Nat} {σ : Sg} {p0 : Int32} {p1 : Int32} {r : Int32} {σ' : Sg} {c j : Nat} (hc : nt [84] [(59, 30), (59, 34)] c j = true) (hm : f_X12_moves N n σ p0 p1 = some (r, σ')) : σ' c j = σ c j := by
  unfold f_X12_moves at hm
  obtain ⟨r1, σ2, h1, hm⟩ := bd_some hm
  have e1 := (fr_X12_slotOf (nt_sub hc (by decide) (by decide)) h1).trans rfl
  by_cases q2 : 0 ≤ r1
  · have hm := (if_pos q2).symm.trans hm
    obtain ⟨r5, σ6, h3, hm⟩ := bd_some hm
    have e3 := (fr_X12_slotOf (nt_sub hc (by decide) (by decide)) h3).trans e1
    by_cases q4 : 0 ≤ r5
    · have hm := (if_pos q4).symm.trans hm
      obtain ⟨r9, σ10, h5, hm⟩ := bd_some hm
      have e5 := (fr_X12_slotOf (nt_sub hc (by decide) (by decide)) h5).trans e3
      by_cases q6 : 0 ≤ r9
      · have hm := (if_pos q6).symm.trans hm
        obtain ⟨r13, σ14, h7, hm⟩ := bd_some hm
        have e7 := (fr_X12_slotOf (nt_sub hc (by decide) (by decide)) h7).trans e5
        obtain ⟨r16, σ17, h8, hm⟩ := bd_some hm
        have e8 := (fr_X12_slotOf (nt_sub hc (by decide) (by decide)) h8).trans e7
        by_cases q9 : r13 = r16
        · have hm := (if_pos q9).symm.trans hm
          cases hm
          exact e8
        · have hm := (if_neg q9).symm.trans hm
          obtain ⟨r20, σ21, h10, hm⟩ := bd_some hm
          have e10 := (fr_X12_slotOf (nt_sub hc (by decide) (by decide)) h10).trans e8
          obtain ⟨r23, σ24, h11, hm⟩ := bd_some hm
          have e11 := (fr_X12_emit (nt_sub hc (by decide) (by decide)) h11).trans e10
          obtain ⟨r26, σ27, h12, hm⟩ := bd_some hm
          have e12 := (fr_X12_slotOf (nt_sub hc (by decide) (by decide)) h12).trans e11
          obtain ⟨r29, σ30, h13, hm⟩ := bd_some hm
          have e13 := (fr_X12_emit (nt_sub hc (by decide) (by decide)) h13).trans e12
          cases hm
          exact e13
      · have hm := (if_neg q6).symm.trans hm
        obtain ⟨r32, σ33, h14, hm⟩ := bd_some hm
        have e14 := (fr_X12_slotOf (nt_sub hc (by decide) (by decide)) h14).trans e5
        obtain ⟨r35, σ36, h15, hm⟩ := bd_some hm
        have e15 := (fr_X12_registerOf (nt_sub hc (by decide) (by decide)) h15).trans e14
        obtain ⟨r38, σ39, h16, hm⟩ := bd_some hm
        have e16 := (fr_X12_emit (nt_sub hc (by decide) (by decide)) h16).trans e15
        cases hm
        exact e16
    · have hm := (if_neg q4).symm.trans hm
      obtain ⟨r41, σ42, h17, hm⟩ := bd_some hm
      have e17 := (fr_X12_registerOf (nt_sub hc (by decide) (by decide)) h17).trans e3
      obtain ⟨r44, σ45, h18, hm⟩ := bd_some hm
      have e18 := (fr_X12_slotOf (nt_sub hc (by decide) (by decide)) h18).trans e17
      obtain ⟨r47, σ48, h19, hm⟩ := bd_some hm
      have e19 := (fr_X12_emit (nt_sub hc (by decide) (by decide)) h19).trans e18
      cases hm
      exact e19
  · have hm := (if_neg q2).symm.trans hm
    obtain ⟨r50, σ51, h20, hm⟩ := bd_some hm
    have e20 := (fr_X12_slotOf (nt_sub hc (by decide) (by decide)) h20).trans e1
    by_cases q21 : 0 ≤ r50
    · have hm := (if_pos q21).symm.trans hm
      obtain ⟨r54, σ55, h22, hm⟩ := bd_some hm
      have e22 := (fr_X12_slotOf (nt_sub hc (by decide) (by decide)) h22).trans e20
      by_cases q23 : 0 ≤ r54
      · have hm := (if_pos q23).symm.trans hm
        obtain ⟨r58, σ59, h24, hm⟩ := bd_some hm
        have e24 := (fr_X12_slotOf (nt_sub hc (by decide) (by decide)) h24).trans e22
        by_cases q25 : 0 ≤ r58
        · have hm := (if_pos q25).symm.trans hm
          obtain ⟨r62, σ63, h26, hm⟩ := bd_some hm
          have e26 := (fr_X12_slotOf (nt_sub hc (by decide) (by decide)) h26).trans e24
          obtain ⟨r65, σ66, h27, hm⟩ := bd_some hm
          have e27 := (fr_X12_slotOf (nt_sub hc (by decide) (by decide)) h27).trans e26
          by_cases q28 : r62 = r65
          · have hm := (if_pos q28).symm.trans hm
            cases hm
            exact e27
          · have hm := (if_neg q28).symm.trans hm
            obtain ⟨r69, σ70, h29, hm⟩ := bd_some hm
            have e29 := (fr_X12_slotOf (nt_sub hc (by decide) (by decide)) h29).trans e27
            obtain ⟨r72, σ73, h30, hm⟩ := bd_some hm
            have e30 := (fr_X12_emit (nt_sub hc (by decide) (by decide)) h30).trans e29
            obtain ⟨r75, σ76, h31, hm⟩ := bd_some hm
            have e31 := (fr_X12_slotOf (nt_sub hc (by decide) (by decide)) h31).trans e30
            obtain ⟨r78, σ79, h32, hm⟩ := bd_some hm
            have e32 := (fr_X12_emit (nt_sub hc (by decide) (by decide)) h32).trans e31
            cases hm
            exact e32
        · have hm := (if_neg q25).symm.trans hm
          obtain ⟨r81, σ82, h33, hm⟩ := bd_some hm
          have e33 := (fr_X12_slotOf (nt_sub hc (by decide) (by decide)) h33).trans e24
          obtain ⟨r84, σ85, h34, hm⟩ := bd_some hm
          have e34 := (fr_X12_registerOf (nt_sub hc (by decide) (by decide)) h34).trans e33
          obtain ⟨r87, σ88, h35, hm⟩ := bd_some hm
          have e35 := (fr_X12_emit (nt_sub hc (by decide) (by decide)) h35).trans e34
          cases hm
          exact e35
      · have hm := (if_neg q23).symm.trans hm
        obtain ⟨r90, σ91, h36, hm⟩ := bd_some hm
        have e36 := (fr_X12_registerOf (nt_sub hc (by decide) (by decide)) h36).trans e22
        obtain ⟨r93, σ94, h37, hm⟩ := bd_some hm
        have e37 := (fr_X12_slotOf (nt_sub hc (by decide) (by decide)) h37).trans e36
        obtain ⟨r96, σ97, h38, hm⟩ := bd_some hm
        have e38 := (fr_X12_emit (nt_sub hc (by decide) (by decide)) h38).trans e37
        cases hm
        exact e38
    · have hm := (if_neg q21).symm.trans hm
      obtain ⟨r99, σ100, h39, hm⟩ := bd_some hm
      have e39 := (fr_X12_registerOf (nt_sub hc (by decide) (by decide)) h39).trans e20
      obtain ⟨r102, σ103, h40, hm⟩ := bd_some hm
      have e40 := (fr_X12_registerOf (nt_sub hc (by decide) (by decide)) h40).trans e39
      by_cases q41 : r99 = r102
      · have hm := (if_pos q41).symm.trans hm
        cases hm
        exact e40
      · have hm := (if_neg q41).symm.trans hm
        obtain ⟨r106, σ107, h42, hm⟩ := bd_some hm
        have e42 := (fr_X12_registerOf (nt_sub hc (by decide) (by decide)) h42).trans e40
        obtain ⟨r109, σ110, h43, hm⟩ := bd_some hm
        have e43 := (fr_X12_registerOf (nt_sub hc (by decide) (by decide)) h43).trans e42
        obtain ⟨r112, σ113, h44, hm⟩ := bd_some hm
        have e44 := (fr_X12_emit (nt_sub hc (by decide) (by decide)) h44).trans e43
        cases hm
        exact e44
theorem fr_X12_read {N n : Nat} {σ : Sg} {p0 : Int32} {p1 : Int32} {r : Int32} {σ' : Sg} {c j : Nat} (hc : nt [84] [(59, 30), (59, 34)] c j = true) (hm : f_X12_read N n σ p0 p1 = some (r, σ')) : σ' c j = σ c j := by
  unfold f_X12_read at hm
  obtain ⟨r1, σ2, h1, hm⟩ := bd_some hm
  have e1 := (fr_X12_slotOf (nt_sub hc (by decide) (by decide)) h1).trans rfl
  by_cases q2 : 0 ≤ r1
  · have hm := (if_pos q2).symm.trans hm
    obtain ⟨r5, σ6, h3, hm⟩ := bd_some hm
    have e3 := (fr_X12_slotOf (nt_sub hc (by decide) (by decide)) h3).trans e1
    obtain ⟨r8, σ9, h4, hm⟩ := bd_some hm
    have e4 := (fr_X12_emit (nt_sub hc (by decide) (by decide)) h4).trans e3
    cases hm
    exact e4
  · have hm := (if_neg q2).symm.trans hm
    obtain ⟨r11, σ12, h5, hm⟩ := bd_some hm
    have e5 := (fr_X12_registerOf (nt_sub hc (by decide) (by decide)) h5).trans e1
    cases hm
    exact e5
