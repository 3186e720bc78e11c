theorem fr_X12_into {N n : Nat} {σ : Sg} {p0 : Int32} {p1 : Int32} {r : Int32} {σ' : Sg} {c j : Nat} (hc : nt [84] [(59, 30), (59, 34)] c j = true) (hm : f_X12_into N n σ p0 p1 = some (r, σ')) : σ' c j = σ c j := by
  unfold f_X12_into at hm
  obtain ⟨r1, σ2, h1, hm⟩ := bd_some hm
  have e1 := (fr_X12_slotOf (nt_sub hc (by decide) (by decide)) h1).trans rfl
  by_cases q2 : 0 ≤ r1
  · have hm := (if_pos q2).symm.trans hm
    obtain ⟨r5, σ6, h3, hm⟩ := bd_some hm
    have e3 := (fr_X12_slotOf (nt_sub hc (by decide) (by decide)) h3).trans e1
    obtain ⟨r8, σ9, h4, hm⟩ := bd_some hm
    have e4 := (fr_X12_emit (nt_sub hc (by decide) (by decide)) h4).trans e3
    cases hm
    exact e4
  · have hm := (if_neg q2).symm.trans hm
    obtain ⟨r11, σ12, h5, hm⟩ := bd_some hm
    have e5 := (fr_X12_registerOf (nt_sub hc (by decide) (by decide)) h5).trans e1
    obtain ⟨r14, σ15, h6, hm⟩ := bd_some hm
    have e6 := (fr_X12_emit (nt_sub hc (by decide) (by decide)) h6).trans e5
    cases hm
    exact e6
theorem fr_X12_outOf {N n : Nat} {σ : Sg} {p0 : Int32} {p1 : Int32} {r : Int32} {σ' : Sg} {c j : Nat} (hc : nt [84] [(59, 30), (59, 34)] c j = true) (hm : f_X12_outOf N n σ p0 p1 = some (r, σ')) : σ' c j = σ c j := by
  unfold f_X12_outOf at hm
  obtain ⟨r1, σ2, h1, hm⟩ := bd_some hm
  have e1 := (fr_X12_slotOf (nt_sub hc (by decide) (by decide)) h1).trans rfl
  by_cases q2 : 0 ≤ r1
  · have hm := (if_pos q2).symm.trans hm
    obtain ⟨r5, σ6, h3, hm⟩ := bd_some hm
    have e3 := (fr_X12_slotOf (nt_sub hc (by decide) (by decide)) h3).trans e1
    obtain ⟨r8, σ9, h4, hm⟩ := bd_some hm
    have e4 := (fr_X12_emit (nt_sub hc (by decide) (by decide)) h4).trans e3
    cases hm
    exact e4
  · have hm := (if_neg q2).symm.trans hm
    obtain ⟨r11, σ12, h5, hm⟩ := bd_some hm
    have e5 := (fr_X12_registerOf (nt_sub hc (by decide) (by decide)) h5).trans e1
    obtain ⟨r14, σ15, h6, hm⟩ := bd_some hm
    have e6 := (fr_X12_emit (nt_sub hc (by decide) (by decide)) h6).trans e5
    cases hm
    exact e6
theorem fr_X12_swaps {N n : Nat} {σ : Sg} {p0 : Int32} {p1 : Int32} {p2 : Int32} {p3 : Int32} {r : Int32} {σ' : Sg} {c j : Nat} (hc : nt [84] [(59, 30), (59, 34)] c j = true) (hm : f_X12_swaps N n σ p0 p1 p2 p3 = some (r, σ')) : σ' c j = σ c j := by
  unfold f_X12_swaps at hm
  obtain ⟨r1, σ2, h1, hm⟩ := bd_some hm
  have e1 := (fr_X12_slotOf (nt_sub hc (by decide) (by decide)) h1).trans rfl
  by_cases q2 : 0 ≤ r1
  · have hm := (if_pos q2).symm.trans hm
    obtain ⟨r5, σ6, h3, hm⟩ := bd_some hm
    have e3 := (fr_X12_into (nt_sub hc (by decide) (by decide)) h3).trans e1
    obtain ⟨r8, σ9, h4, hm⟩ := bd_some hm
    have e4 := (fr_X12_into (nt_sub hc (by decide) (by decide)) h4).trans e3
    obtain ⟨r11, σ12, h5, hm⟩ := bd_some hm
    have e5 := (fr_X12_outOf (nt_sub hc (by decide) (by decide)) h5).trans e4
    obtain ⟨r14, σ15, h6, hm⟩ := bd_some hm
    have e6 := (fr_X12_outOf (nt_sub hc (by decide) (by decide)) h6).trans e5
    cases hm
    exact e6
  · have hm := (if_neg q2).symm.trans hm
    obtain ⟨r17, σ18, h7, hm⟩ := bd_some hm
    have e7 := (fr_X12_slotOf (nt_sub hc (by decide) (by decide)) h7).trans e1
    by_cases q8 : 0 ≤ r17
    · have hm := (if_pos q8).symm.trans hm
      obtain ⟨r21, σ22, h9, hm⟩ := bd_some hm
      have e9 := (fr_X12_into (nt_sub hc (by decide) (by decide)) h9).trans e7
      obtain ⟨r24, σ25, h10, hm⟩ := bd_some hm
      have e10 := (fr_X12_into (nt_sub hc (by decide) (by decide)) h10).trans e9
      obtain ⟨r27, σ28, h11, hm⟩ := bd_some hm
      have e11 := (fr_X12_outOf (nt_sub hc (by decide) (by decide)) h11).trans e10
      obtain ⟨r30, σ31, h12, hm⟩ := bd_some hm
      have e12 := (fr_X12_outOf (nt_sub hc (by decide) (by decide)) h12).trans e11
      cases hm
      exact e12
    · have hm := (if_neg q8).symm.trans hm
      obtain ⟨r33, σ34, h13, hm⟩ := bd_some hm
      have e13 := (fr_X12_registerOf (nt_sub hc (by decide) (by decide)) h13).trans e7
      obtain ⟨r36, σ37, h14, hm⟩ := bd_some hm
      have e14 := (fr_X12_registerOf (nt_sub hc (by decide) (by decide)) h14).trans e13
      obtain ⟨r39, σ40, h15, hm⟩ := bd_some hm
      have e15 := (fr_X12_emit (nt_sub hc (by decide) (by decide)) h15).trans e14
      cases hm
      exact e15
theorem frl_X12_codePlace_327 {N n : Nat} {u1 : Int32} {u2 : Int32} {u4 : Int32} {K377 : (Sg → Int32 → Option (Int32 × Sg))} {out : Int32 × Sg} {c j : Nat} (hc : nt [84] [(59, 30), (59, 34)] c j = true) : ∀ (k : Nat) (σ : Sg) (v9 : Int32), lf_X12_codePlace_327 N n u1 u2 u4 K377 k σ v9 = some out → (∀ (σ : Sg) (v9 : Int32), K377 σ v9 = some out → out.2 c j = σ c j) → out.2 c j = σ c j := by
  intro k
  induction k with
  | zero => intro σ v9 hm; exact nomatch (show none = some out from hm)
  | succ k ih =>
    intro σ v9 hm hK377
    have hm : lb_X12_codePlace_327 N n u1 u2 u4 K377 (lf_X12_codePlace_327 N n u1 u2 u4 K377 k) σ v9 = some out := hm
    unfold lb_X12_codePlace_327 at hm
    obtain ⟨_, hm⟩ := gb_some hm
    by_cases q1 : (σ 71 (ix u1)) ≤ v9
    · have hm := (if_pos q1).symm.trans hm
      exact (hK377 _ _ hm).trans rfl
    · have hm := (if_neg q1).symm.trans hm
      obtain ⟨_, hm⟩ := gb_some hm
      obtain ⟨r87, σ88, h2, hm⟩ := bd_some hm
      have e2 := (fr_X12_read (nt_sub hc (by decide) (by decide)) h2).trans rfl
      obtain ⟨r90, σ91, h3, hm⟩ := bd_some hm
      have e3 := (fr_X12_emit (nt_sub hc (by decide) (by decide)) h3).trans e2
      exact (ih _ _ hm hK377).trans e3
theorem fr_X12_codePlace {N n : Nat} {σ : Sg} {p0 : Int32} {r : Int32} {σ' : Sg} {c j : Nat} (hc : nt [84] [(59, 30), (59, 34)] c j = true) (hm : f_X12_codePlace N n σ p0 = some (r, σ')) : σ' c j = σ c j := by
  unfold f_X12_codePlace at hm
  obtain ⟨_, hm⟩ := gb_some hm
  obtain ⟨_, hm⟩ := gb_some hm
  obtain ⟨_, hm⟩ := gb_some hm
  obtain ⟨_, hm⟩ := gb_some hm
  by_cases q1 : (σ 68 (ix p0)) = 0
  · have hm := (if_pos q1).symm.trans hm
    obtain ⟨r6, σ7, h2, hm⟩ := bd_some hm
    have e2 := (fr_X12_written (nt_sub hc (by decide) (by decide)) h2).trans rfl
    obtain ⟨_, hm⟩ := gb_some hm
    obtain ⟨r10, σ11, h3, hm⟩ := bd_some hm
    have e3 := (fr_X12_emit (nt_sub hc (by decide) (by decide)) h3).trans e2
    obtain ⟨r13, σ14, h4, hm⟩ := bd_some hm
    have e4 := (fr_X12_saved (nt_sub hc (by decide) (by decide)) h4).trans e3
    cases hm
    exact e4
  · have hm := (if_neg q1).symm.trans hm
    by_cases q5 : (σ 68 (ix p0)) = 1
    · have hm := (if_pos q5).symm.trans hm
      obtain ⟨r17, σ18, h6, hm⟩ := bd_some hm
      have e6 := (fr_X12_moves (nt_sub hc (by decide) (by decide)) h6).trans rfl
      cases hm
      exact e6
    · have hm := (if_neg q5).symm.trans hm
      by_cases q7 : (σ 68 (ix p0)) = 2
      · have hm := (if_pos q7).symm.trans hm
        obtain ⟨r21, σ22, h8, hm⟩ := bd_some hm
        have e8 := (fr_X12_read (nt_sub hc (by decide) (by decide)) h8).trans rfl
        obtain ⟨r24, σ25, h9, hm⟩ := bd_some hm
        have e9 := (fr_X12_read (nt_sub hc (by decide) (by decide)) h9).trans e8
        obtain ⟨r27, σ28, h10, hm⟩ := bd_some hm
        have e10 := (fr_X12_written (nt_sub hc (by decide) (by decide)) h10).trans e9
        obtain ⟨_, hm⟩ := gb_some hm
        obtain ⟨r31, σ32, h11, hm⟩ := bd_some hm
        have e11 := (fr_X12_emit (nt_sub hc (by decide) (by decide)) h11).trans e10
        obtain ⟨r34, σ35, h12, hm⟩ := bd_some hm
        have e12 := (fr_X12_saved (nt_sub hc (by decide) (by decide)) h12).trans e11
        cases hm
        exact e12
      · have hm := (if_neg q7).symm.trans hm
        by_cases q13 : (σ 68 (ix p0)) = 3
        · have hm := (if_pos q13).symm.trans hm
          obtain ⟨r38, σ39, h14, hm⟩ := bd_some hm
          have e14 := (fr_X12_swaps (nt_sub hc (by decide) (by decide)) h14).trans rfl
          cases hm
          exact e14
        · have hm := (if_neg q13).symm.trans hm
          by_cases q15 : (σ 68 (ix p0)) = 4
          · have hm := (if_pos q15).symm.trans hm
            obtain ⟨_, hm⟩ := gb_some hm
            obtain ⟨r43, σ44, h16, hm⟩ := bd_some hm
            have e16 := (fr_X12_emit (nt_sub hc (by decide) (by decide)) h16).trans rfl
            cases hm
            exact e16
          · have hm := (if_neg q15).symm.trans hm
            by_cases q17 : (σ 68 (ix p0)) = 5
            · have hm := (if_pos q17).symm.trans hm
              obtain ⟨r47, σ48, h18, hm⟩ := bd_some hm
              have e18 := (fr_X12_read (nt_sub hc (by decide) (by decide)) h18).trans rfl
              obtain ⟨_, hm⟩ := gb_some hm
              obtain ⟨r51, σ52, h19, hm⟩ := bd_some hm
              have e19 := (fr_X12_emit (nt_sub hc (by decide) (by decide)) h19).trans e18
              cases hm
              exact e19
            · have hm := (if_neg q17).symm.trans hm
              by_cases q20 : (σ 68 (ix p0)) = 6
              · have hm := (if_pos q20).symm.trans hm
                obtain ⟨r55, σ56, h21, hm⟩ := bd_some hm
                have e21 := (fr_X12_read (nt_sub hc (by decide) (by decide)) h21).trans rfl
                obtain ⟨r58, σ59, h22, hm⟩ := bd_some hm
                have e22 := (fr_X12_emit (nt_sub hc (by decide) (by decide)) h22).trans e21
                cases hm
                exact e22
              · have hm := (if_neg q20).symm.trans hm
                by_cases q23 : (σ 68 (ix p0)) = 7
                · have hm := (if_pos q23).symm.trans hm
                  obtain ⟨r62, σ63, h24, hm⟩ := bd_some hm
                  have e24 := (fr_X12_read (nt_sub hc (by decide) (by decide)) h24).trans rfl
                  obtain ⟨r65, σ66, h25, hm⟩ := bd_some hm
                  have e25 := (fr_X12_written (nt_sub hc (by decide) (by decide)) h25).trans e24
                  obtain ⟨r68, σ69, h26, hm⟩ := bd_some hm
                  have e26 := (fr_X12_emit (nt_sub hc (by decide) (by decide)) h26).trans e25
                  obtain ⟨r71, σ72, h27, hm⟩ := bd_some hm
                  have e27 := (fr_X12_saved (nt_sub hc (by decide) (by decide)) h27).trans e26
                  cases hm
                  exact e27
                · have hm := (if_neg q23).symm.trans hm
                  by_cases q28 : (σ 68 (ix p0)) = 8
                  · have hm := (if_pos q28).symm.trans hm
                    obtain ⟨r75, σ76, h29, hm⟩ := bd_some hm
                    have e29 := (fr_X12_read (nt_sub hc (by decide) (by decide)) h29).trans rfl
                    obtain ⟨r78, σ79, h30, hm⟩ := bd_some hm
                    have e30 := (fr_X12_read (nt_sub hc (by decide) (by decide)) h30).trans e29
                    obtain ⟨r81, σ82, h31, hm⟩ := bd_some hm
                    have e31 := (fr_X12_emit (nt_sub hc (by decide) (by decide)) h31).trans e30
                    cases hm
                    exact e31
                  · have hm := (if_neg q28).symm.trans hm
                    refine (frl_X12_codePlace_327 (nt_sub hc (by decide) (by decide)) N _ _ hm ?_).trans rfl
                    intro σ93 w94 hm
                    obtain ⟨_, hm⟩ := gb_some hm
                    obtain ⟨r96, σ97, h32, hm⟩ := bd_some hm
                    have e32 := (fr_X12_emit (nt_sub hc (by decide) (by decide)) h32).trans rfl
                    obtain ⟨r99, σ100, h33, hm⟩ := bd_some hm
                    have e33 := (fr_X12_written (nt_sub hc (by decide) (by decide)) h33).trans e32
                    obtain ⟨r102, σ103, h34, hm⟩ := bd_some hm
                    have e34 := (fr_X12_emit (nt_sub hc (by decide) (by decide)) h34).trans e33
                    obtain ⟨r105, σ106, h35, hm⟩ := bd_some hm
                    have e35 := (fr_X12_saved (nt_sub hc (by decide) (by decide)) h35).trans e34
                    cases hm
                    exact e35
theorem frl_X12_codes_17 {N n : Nat} {u1 : Int32} {K99 : (Sg → Int32 → Option (Int32 × Sg))} {out : Int32 × Sg} {c j : Nat} (hc : nt [84] [(59, 30), (59, 34)] c j = true) : ∀ (k : Nat) (σ : Sg) (v2 : Int32), lf_X12_codes_17 N n u1 K99 k σ v2 = some out → (∀ (σ : Sg) (v2 : Int32), K99 σ v2 = some out → out.2 c j = σ c j) → out.2 c j = σ c j := by
  intro k
  induction k with
  | zero => intro σ v2 hm; exact nomatch (show none = some out from hm)
  | succ k ih =>
    intro σ v2 hm hK99
    have hm : lb_X12_codes_17 N n u1 K99 (lf_X12_codes_17 N n u1 K99 k) σ v2 = some out := hm
    unfold lb_X12_codes_17 at hm
    obtain ⟨_, hm⟩ := gb_some hm
    by_cases q1 : (σ 61 (ix u1)) ≤ v2
    · have hm := (if_pos q1).symm.trans hm
      exact (hK99 _ _ hm).trans rfl
    · have hm := (if_neg q1).symm.trans hm
      by_cases q2 : (σ 59 12) ≤ 0
      · have hm := (if_pos q2).symm.trans hm
        exact (ih _ _ hm hK99).trans rfl
      · have hm := (if_neg q2).symm.trans hm
        obtain ⟨_, hm⟩ := gb_some hm
        by_cases q3 : (((σ 76 (ix 0)) >>> (v2 &&& 31)) &&& 1) = 1
        · have hm := (if_pos q3).symm.trans hm
          obtain ⟨_, hm⟩ := gb_some hm
          by_cases q4 : (σ 60 (ix u1)) ≤ v2
          · have hm := (if_pos q4).symm.trans hm
            obtain ⟨r9, σ10, h5, hm⟩ := bd_some hm
            have e5 := (fr_X12_written (nt_sub hc (by decide) (by decide)) h5).trans rfl
            obtain ⟨r12, σ13, h6, hm⟩ := bd_some hm
            have e6 := (fr_X12_emit (nt_sub hc (by decide) (by decide)) h6).trans e5
            obtain ⟨r15, σ16, h7, hm⟩ := bd_some hm
            have e7 := (fr_X12_saved (nt_sub hc (by decide) (by decide)) h7).trans e6
            exact (ih _ _ hm hK99).trans e7
          · have hm := (if_neg q4).symm.trans hm
            obtain ⟨r18, σ19, h8, hm⟩ := bd_some hm
            have e8 := (fr_X12_written (nt_sub hc (by decide) (by decide)) h8).trans rfl
            obtain ⟨r21, σ22, h9, hm⟩ := bd_some hm
            have e9 := (fr_X12_emit (nt_sub hc (by decide) (by decide)) h9).trans e8
            obtain ⟨r24, σ25, h10, hm⟩ := bd_some hm
            have e10 := (fr_X12_saved (nt_sub hc (by decide) (by decide)) h10).trans e9
            exact (ih _ _ hm hK99).trans e10
        · have hm := (if_neg q3).symm.trans hm
          exact (ih _ _ hm hK99).trans rfl
theorem frl_X12_codes_101 {N n : Nat} {u1 : Int32} {K137 : (Sg → Int32 → Option (Int32 × Sg))} {out : Int32 × Sg} {c j : Nat} (hc : nt [84, 87] [(59, 30), (59, 34)] c j = true) : ∀ (k : Nat) (σ : Sg) (v2 : Int32), lf_X12_codes_101 N n u1 K137 k σ v2 = some out → (∀ (σ : Sg) (v2 : Int32), K137 σ v2 = some out → out.2 c j = σ c j) → out.2 c j = σ c j := by
  intro k
  induction k with
  | zero => intro σ v2 hm; exact nomatch (show none = some out from hm)
  | succ k ih =>
    intro σ v2 hm hK137
    have hm : lb_X12_codes_101 N n u1 K137 (lf_X12_codes_101 N n u1 K137 k) σ v2 = some out := hm
    unfold lb_X12_codes_101 at hm
    by_cases q1 : (σ 59 12) ≤ v2
    · have hm := (if_pos q1).symm.trans hm
      exact (hK137 _ _ hm).trans rfl
    · have hm := (if_neg q1).symm.trans hm
      obtain ⟨_, hm⟩ := gb_some hm
      obtain ⟨_, hm⟩ := gb_some hm
      obtain ⟨r32, σ33, h2, hm⟩ := bd_some hm
      have e2 := (fr_X12_codePlace (nt_sub hc (by decide) (by decide)) h2).trans ((sg_t hc (by decide)).trans rfl)
      exact (ih _ _ hm hK137).trans e2
theorem frl_X12_codes_181 {N n : Nat}  {K272 : (Sg → Int32 → Option (Int32 × Sg))} {out : Int32 × Sg} {c j : Nat} (hc : nt [84] [] c j = true) : ∀ (k : Nat) (σ : Sg) (v2 : Int32), lf_X12_codes_181 N n  K272 k σ v2 = some out → (∀ (σ : Sg) (v2 : Int32), K272 σ v2 = some out → out.2 c j = σ c j) → out.2 c j = σ c j := by
  intro k
  induction k with
  | zero => intro σ v2 hm; exact nomatch (show none = some out from hm)
  | succ k ih =>
    intro σ v2 hm hK272
    have hm : lb_X12_codes_181 N n  K272 (lf_X12_codes_181 N n  K272 k) σ v2 = some out := hm
    unfold lb_X12_codes_181 at hm
    by_cases q1 : (σ 59 30) ≤ v2
    · have hm := (if_pos q1).symm.trans hm
      exact (hK272 _ _ hm).trans rfl
    · have hm := (if_neg q1).symm.trans hm
      obtain ⟨_, hm⟩ := gb_some hm
      by_cases q2 : (σ 84 (ix (5 * v2))) = 4
      · have hm := (if_pos q2).symm.trans hm
        obtain ⟨_, hm⟩ := gb_some hm
        obtain ⟨_, hm⟩ := gb_some hm
        obtain ⟨_, hm⟩ := gb_some hm
        exact (ih _ _ hm hK272).trans ((sg_t hc (by decide)).trans rfl)
      · have hm := (if_neg q2).symm.trans hm
        obtain ⟨_, hm⟩ := gb_some hm
        by_cases q3 : (σ 84 (ix (5 * v2))) = 5
        · have hm := (if_pos q3).symm.trans hm
          obtain ⟨_, hm⟩ := gb_some hm
          obtain ⟨_, hm⟩ := gb_some hm
          obtain ⟨_, hm⟩ := gb_some hm
          exact (ih _ _ hm hK272).trans ((sg_t hc (by decide)).trans rfl)
        · have hm := (if_neg q3).symm.trans hm
          exact (ih _ _ hm hK272).trans rfl
theorem fr_X12_codes {N n : Nat} {σ : Sg} {p0 : Int32} {r : Int32} {σ' : Sg} {c j : Nat} (hc : nt [84, 85, 86, 87] [(59, 30), (59, 34), (59, 35)] c j = true) (hm : f_X12_codes N n σ p0 = some (r, σ')) : σ' c j = σ c j := by
  unfold f_X12_codes at hm
  obtain ⟨_, hm⟩ := gb_some hm
  refine (frl_X12_codes_17 (nt_sub hc (by decide) (by decide)) N _ _ hm ?_).trans ((sg_t hc (by decide)).trans ((sg_u hc (by decide)).trans rfl))
  intro σ27 w28 hm
  refine (frl_X12_codes_101 (nt_sub hc (by decide) (by decide)) N _ _ hm ?_).trans rfl
  intro σ35 w36 hm
  obtain ⟨_, hm⟩ := gb_some hm
  obtain ⟨_, hm⟩ := gb_some hm
  obtain ⟨_, hm⟩ := gb_some hm
  obtain ⟨_, hm⟩ := gb_some hm
  obtain ⟨_, hm⟩ := gb_some hm
  refine (frl_X12_codes_181 (nt_sub hc (by decide) (by decide)) N _ _ hm ?_).trans ((sg_t hc (by decide)).trans ((sg_t hc (by decide)).trans rfl))
  intro σ53 w54 hm
  cases hm
  exact rfl
theorem fr_X12_count {N n : Nat} {σ : Sg} {p0 : Int32} {r : Int32} {σ' : Sg} {c j : Nat} (hc : nt [] [(59, 0)] c j = true) (hm : f_X12_count N n σ p0 = some (r, σ')) : σ' c j = σ c j := by
  unfold f_X12_count at hm
  by_cases q1 : p0 = 0
  · have hm := (if_pos q1).symm.trans hm
    cases hm
    exact ((sg_u hc (by decide)).trans rfl)
  · have hm := (if_neg q1).symm.trans hm
    by_cases q2 : p0 = 1
    · have hm := (if_pos q2).symm.trans hm
      cases hm
      exact ((sg_u hc (by decide)).trans rfl)
    · have hm := (if_neg q2).symm.trans hm
      by_cases q3 : p0 = 2
      · have hm := (if_pos q3).symm.trans hm
        by_cases q4 : (σ 59 10) = 0
        · have hm := (if_pos q4).symm.trans hm
          cases hm
          exact ((sg_u hc (by decide)).trans rfl)
        · have hm := (if_neg q4).symm.trans hm
          cases hm
          exact ((sg_u hc (by decide)).trans rfl)
      · have hm := (if_neg q3).symm.trans hm
        by_cases q5 : p0 = 3
        · have hm := (if_pos q5).symm.trans hm
          by_cases q6 : (σ 59 37) = 0
          · have hm := (if_pos q6).symm.trans hm
            cases hm
            exact ((sg_u hc (by decide)).trans rfl)
          · have hm := (if_neg q6).symm.trans hm
            cases hm
            exact ((sg_u hc (by decide)).trans rfl)
        · have hm := (if_neg q5).symm.trans hm
          by_cases q7 : p0 = 4
          · have hm := (if_pos q7).symm.trans hm
            by_cases q8 : (σ 59 37) = 0
            · have hm := (if_pos q8).symm.trans hm
              cases hm
              exact ((sg_u hc (by decide)).trans rfl)
            · have hm := (if_neg q8).symm.trans hm
              cases hm
              exact ((sg_u hc (by decide)).trans rfl)
          · have hm := (if_neg q7).symm.trans hm
            cases hm
            exact ((sg_u hc (by decide)).trans rfl)
theorem fr_X12_depth {N n : Nat} {σ : Sg} {p0 : Int32} {p1 : Int32} {r : Int32} {σ' : Sg} {c j : Nat} (hc : nt [] [(59, 0)] c j = true) (hm : f_X12_depth N n σ p0 p1 = some (r, σ')) : σ' c j = σ c j := by
  unfold f_X12_depth at hm
  by_cases q1 : (σ 59 10) = 0
  · have hm := (if_pos q1).symm.trans hm
    cases hm
    exact ((sg_u hc (by decide)).trans rfl)
  · have hm := (if_neg q1).symm.trans hm
    by_cases q2 : p0 < 0
    · have hm := (if_pos q2).symm.trans hm
      cases hm
      exact ((sg_u hc (by decide)).trans rfl)
    · have hm := (if_neg q2).symm.trans hm
      by_cases q3 : (σ 59 1) ≤ p0
      · have hm := (if_pos q3).symm.trans hm
        cases hm
        exact ((sg_u hc (by decide)).trans rfl)
      · have hm := (if_neg q3).symm.trans hm
        by_cases q4 : p1 < 0
        · have hm := (if_pos q4).symm.trans hm
          cases hm
          exact ((sg_u hc (by decide)).trans rfl)
        · have hm := (if_neg q4).symm.trans hm
          obtain ⟨_, hm⟩ := gb_some hm
          by_cases q5 : p1 < (σ 63 (ix p0))
          · have hm := (if_pos q5).symm.trans hm
            obtain ⟨_, hm⟩ := gb_some hm
            obtain ⟨_, hm⟩ := gb_some hm
            cases hm
            exact ((sg_u hc (by decide)).trans rfl)
          · have hm := (if_neg q5).symm.trans hm
            cases hm
            exact ((sg_u hc (by decide)).trans rfl)
theorem frl_X12_forgets_9 {N n : Nat} {u1 : Int32} {K47 : (Sg → Int32 → Option (Int32 × Sg))} {out : Int32 × Sg} {c j : Nat} (hc : nt [75] [] c j = true) : ∀ (k : Nat) (σ : Sg) (v2 : Int32), lf_X12_forgets_9 N n u1 K47 k σ v2 = some out → (∀ (σ : Sg) (v2 : Int32), K47 σ v2 = some out → out.2 c j = σ c j) → out.2 c j = σ c j := by
  intro k
  induction k with
  | zero => intro σ v2 hm; exact nomatch (show none = some out from hm)
  | succ k ih =>
    intro σ v2 hm hK47
    have hm : lb_X12_forgets_9 N n u1 K47 (lf_X12_forgets_9 N n u1 K47 k) σ v2 = some out := hm
    unfold lb_X12_forgets_9 at hm
    by_cases q1 : 24 ≤ v2
    · have hm := (if_pos q1).symm.trans hm
      exact (hK47 _ _ hm).trans rfl
    · have hm := (if_neg q1).symm.trans hm
      obtain ⟨_, hm⟩ := gb_some hm
      by_cases q2 : (σ 75 (ix v2)) = u1
      · have hm := (if_pos q2).symm.trans hm
        obtain ⟨_, hm⟩ := gb_some hm
        exact (ih _ _ hm hK47).trans ((sg_t hc (by decide)).trans rfl)
      · have hm := (if_neg q2).symm.trans hm
        obtain ⟨_, hm⟩ := gb_some hm
        obtain ⟨_, hm⟩ := gb_some hm
        exact (ih _ _ hm hK47).trans ((sg_t hc (by decide)).trans rfl)
theorem fr_X12_forgets {N n : Nat} {σ : Sg} {p0 : Int32} {r : Int32} {σ' : Sg} {c j : Nat} (hc : nt [75] [] c j = true) (hm : f_X12_forgets N n σ p0 = some (r, σ')) : σ' c j = σ c j := by
  unfold f_X12_forgets at hm
  obtain ⟨_, hm⟩ := gb_some hm
  refine (frl_X12_forgets_9 (nt_sub hc (by decide) (by decide)) N _ _ hm ?_).trans ((sg_t hc (by decide)).trans rfl)
  intro σ8 w9 hm
  cases hm
  exact rfl
theorem fr_X12_writes {N n : Nat} {σ : Sg} {p0 : Int32} {r : Int32} {σ' : Sg} {c j : Nat} (hc : nt [] [] c j = true) (hm : f_X12_writes N n σ p0 = some (r, σ')) : σ' c j = σ c j := by
  unfold f_X12_writes at hm
  by_cases q1 : p0 = 0
  · have hm := (if_pos q1).symm.trans hm
    cases hm
    exact rfl
  · have hm := (if_neg q1).symm.trans hm
    by_cases q2 : p0 = 1
    · have hm := (if_pos q2).symm.trans hm
      cases hm
      exact rfl
    · have hm := (if_neg q2).symm.trans hm
      by_cases q3 : p0 = 2
      · have hm := (if_pos q3).symm.trans hm
        cases hm
        exact rfl
      · have hm := (if_neg q3).symm.trans hm
        by_cases q4 : p0 = 7
        · have hm := (if_pos q4).symm.trans hm
          cases hm
          exact rfl
        · have hm := (if_neg q4).symm.trans hm
          by_cases q5 : p0 = 13
          · have hm := (if_pos q5).symm.trans hm
            cases hm
            exact rfl
          · have hm := (if_neg q5).symm.trans hm
            cases hm
            exact rfl
theorem frl_X12_forward_20 {N n : Nat} {u1 : Int32} {u2 : Int32} {K87 : (Sg → Int32 → Option (Int32 × Sg))} {out : Int32 × Sg} {c j : Nat} (hc : nt [70] [] c j = true) : ∀ (k : Nat) (σ : Sg) (v3 : Int32), lf_X12_forward_20 N n u1 u2 K87 k σ v3 = some out → (∀ (σ : Sg) (v3 : Int32), K87 σ v3 = some out → out.2 c j = σ c j) → out.2 c j = σ c j := by
  intro k
  induction k with
  | zero => intro σ v3 hm; exact nomatch (show none = some out from hm)
  | succ k ih =>
    intro σ v3 hm hK87
    have hm : lb_X12_forward_20 N n u1 u2 K87 (lf_X12_forward_20 N n u1 u2 K87 k) σ v3 = some out := hm
    unfold lb_X12_forward_20 at hm
    obtain ⟨_, hm⟩ := gb_some hm
    by_cases q1 : (σ 71 (ix u1)) ≤ v3
    · have hm := (if_pos q1).symm.trans hm
      exact (hK87 _ _ hm).trans rfl
    · have hm := (if_neg q1).symm.trans hm
      by_cases q2 : u2 = 3
      · have hm := (if_pos q2).symm.trans hm
        exact (hK87 _ _ hm).trans rfl
      · have hm := (if_neg q2).symm.trans hm
        obtain ⟨_, hm⟩ := gb_some hm
        obtain ⟨_, hm⟩ := gb_some hm
        by_cases q3 : (σ 75 (ix (σ 70 (ix ((8 * u1) + v3))))) < 0
        · have hm := (if_pos q3).symm.trans hm
          obtain ⟨_, hm⟩ := gb_some hm
          exact (ih _ _ hm hK87).trans ((sg_t hc (by decide)).trans rfl)
        · have hm := (if_neg q3).symm.trans hm
          obtain ⟨_, hm⟩ := gb_some hm
          obtain ⟨_, hm⟩ := gb_some hm
          exact (ih _ _ hm hK87).trans ((sg_t hc (by decide)).trans rfl)
theorem fr_X12_forward {N n : Nat} {σ : Sg} {p0 : Int32} {r : Int32} {σ' : Sg} {c j : Nat} (hc : nt [70, 75] [] c j = true) (hm : f_X12_forward N n σ p0 = some (r, σ')) : σ' c j = σ c j := by
  unfold f_X12_forward at hm
  obtain ⟨_, hm⟩ := gb_some hm
  obtain ⟨r2, σ3, h1, hm⟩ := bd_some hm
  have e1 := (fr_X12_writes (nt_sub hc (by decide) (by decide)) h1).trans rfl
  by_cases q2 : r2 = 0
  · have hm := (if_pos q2).symm.trans hm
    refine (frl_X12_forward_20 (nt_sub hc (by decide) (by decide)) N _ _ hm ?_).trans e1
    intro σ15 w16 hm
    obtain ⟨r17, σ18, h3, hm⟩ := bd_some hm
    have e3 := (fr_X12_writes (nt_sub hc (by decide) (by decide)) h3).trans rfl
    by_cases q4 : r17 = 0
    · have hm := (if_pos q4).symm.trans hm
      by_cases q5 : (σ 68 (ix p0)) = 3
      · have hm := (if_pos q5).symm.trans hm
        obtain ⟨_, hm⟩ := gb_some hm
        obtain ⟨r30, σ31, h6, hm⟩ := bd_some hm
        have e6 := (fr_X12_forgets (nt_sub hc (by decide) (by decide)) h6).trans e3
        obtain ⟨_, hm⟩ := gb_some hm
        obtain ⟨r34, σ35, h7, hm⟩ := bd_some hm
        have e7 := (fr_X12_forgets (nt_sub hc (by decide) (by decide)) h7).trans e6
        by_cases q8 : (σ 68 (ix p0)) = 1
        · have hm := (if_pos q8).symm.trans hm
          obtain ⟨_, hm⟩ := gb_some hm
          obtain ⟨_, hm⟩ := gb_some hm
          by_cases q9 : (σ35 70 (ix (8 * p0))) = (σ35 70 (ix ((8 * p0) + 1)))
          · have hm := (if_pos q9).symm.trans hm
            cases hm
            exact e7
          · have hm := (if_neg q9).symm.trans hm
            obtain ⟨_, hm⟩ := gb_some hm
            obtain ⟨_, hm⟩ := gb_some hm
            obtain ⟨_, hm⟩ := gb_some hm
            cases hm
            exact ((sg_t hc (by decide)).trans e7)
        · have hm := (if_neg q8).symm.trans hm
          cases hm
          exact e7
      · have hm := (if_neg q5).symm.trans hm
        by_cases q10 : (σ 68 (ix p0)) = 1
        · have hm := (if_pos q10).symm.trans hm
          obtain ⟨_, hm⟩ := gb_some hm
          obtain ⟨_, hm⟩ := gb_some hm
          by_cases q11 : (σ18 70 (ix (8 * p0))) = (σ18 70 (ix ((8 * p0) + 1)))
          · have hm := (if_pos q11).symm.trans hm
            cases hm
            exact e3
          · have hm := (if_neg q11).symm.trans hm
            obtain ⟨_, hm⟩ := gb_some hm
            obtain ⟨_, hm⟩ := gb_some hm
            obtain ⟨_, hm⟩ := gb_some hm
            cases hm
            exact ((sg_t hc (by decide)).trans e3)
        · have hm := (if_neg q10).symm.trans hm
          cases hm
          exact e3
    · have hm := (if_neg q4).symm.trans hm
      obtain ⟨_, hm⟩ := gb_some hm
      obtain ⟨r45, σ46, h12, hm⟩ := bd_some hm
      have e12 := (fr_X12_forgets (nt_sub hc (by decide) (by decide)) h12).trans e3
      by_cases q13 : (σ 68 (ix p0)) = 3
      · have hm := (if_pos q13).symm.trans hm
        obtain ⟨_, hm⟩ := gb_some hm
        obtain ⟨r57, σ58, h14, hm⟩ := bd_some hm
        have e14 := (fr_X12_forgets (nt_sub hc (by decide) (by decide)) h14).trans e12
        obtain ⟨_, hm⟩ := gb_some hm
        obtain ⟨r61, σ62, h15, hm⟩ := bd_some hm
        have e15 := (fr_X12_forgets (nt_sub hc (by decide) (by decide)) h15).trans e14
        by_cases q16 : (σ 68 (ix p0)) = 1
        · have hm := (if_pos q16).symm.trans hm
          obtain ⟨_, hm⟩ := gb_some hm
          obtain ⟨_, hm⟩ := gb_some hm
          by_cases q17 : (σ62 70 (ix (8 * p0))) = (σ62 70 (ix ((8 * p0) + 1)))
          · have hm := (if_pos q17).symm.trans hm
            cases hm
            exact e15
          · have hm := (if_neg q17).symm.trans hm
            obtain ⟨_, hm⟩ := gb_some hm
            obtain ⟨_, hm⟩ := gb_some hm
            obtain ⟨_, hm⟩ := gb_some hm
            cases hm
            exact ((sg_t hc (by decide)).trans e15)
        · have hm := (if_neg q16).symm.trans hm
          cases hm
          exact e15
      · have hm := (if_neg q13).symm.trans hm
        by_cases q18 : (σ 68 (ix p0)) = 1
        · have hm := (if_pos q18).symm.trans hm
          obtain ⟨_, hm⟩ := gb_some hm
          obtain ⟨_, hm⟩ := gb_some hm
          by_cases q19 : (σ46 70 (ix (8 * p0))) = (σ46 70 (ix ((8 * p0) + 1)))
          · have hm := (if_pos q19).symm.trans hm
            cases hm
            exact e12
          · have hm := (if_neg q19).symm.trans hm
            obtain ⟨_, hm⟩ := gb_some hm
            obtain ⟨_, hm⟩ := gb_some hm
            obtain ⟨_, hm⟩ := gb_some hm
            cases hm
            exact ((sg_t hc (by decide)).trans e12)
        · have hm := (if_neg q18).symm.trans hm
          cases hm
          exact e12
  · have hm := (if_neg q2).symm.trans hm
    refine (frl_X12_forward_20 (nt_sub hc (by decide) (by decide)) N _ _ hm ?_).trans e1
    intro σ71 w72 hm
    obtain ⟨r73, σ74, h20, hm⟩ := bd_some hm
    have e20 := (fr_X12_writes (nt_sub hc (by decide) (by decide)) h20).trans rfl
    by_cases q21 : r73 = 0
    · have hm := (if_pos q21).symm.trans hm
      by_cases q22 : (σ 68 (ix p0)) = 3
      · have hm := (if_pos q22).symm.trans hm
        obtain ⟨_, hm⟩ := gb_some hm
        obtain ⟨r86, σ87, h23, hm⟩ := bd_some hm
        have e23 := (fr_X12_forgets (nt_sub hc (by decide) (by decide)) h23).trans e20
        obtain ⟨_, hm⟩ := gb_some hm
        obtain ⟨r90, σ91, h24, hm⟩ := bd_some hm
        have e24 := (fr_X12_forgets (nt_sub hc (by decide) (by decide)) h24).trans e23
        by_cases q25 : (σ 68 (ix p0)) = 1
        · have hm := (if_pos q25).symm.trans hm
          obtain ⟨_, hm⟩ := gb_some hm
          obtain ⟨_, hm⟩ := gb_some hm
          by_cases q26 : (σ91 70 (ix (8 * p0))) = (σ91 70 (ix ((8 * p0) + 1)))
          · have hm := (if_pos q26).symm.trans hm
            cases hm
            exact e24
          · have hm := (if_neg q26).symm.trans hm
            obtain ⟨_, hm⟩ := gb_some hm
            obtain ⟨_, hm⟩ := gb_some hm
            obtain ⟨_, hm⟩ := gb_some hm
            cases hm
            exact ((sg_t hc (by decide)).trans e24)
        · have hm := (if_neg q25).symm.trans hm
          cases hm
          exact e24
      · have hm := (if_neg q22).symm.trans hm
        by_cases q27 : (σ 68 (ix p0)) = 1
        · have hm := (if_pos q27).symm.trans hm
          obtain ⟨_, hm⟩ := gb_some hm
          obtain ⟨_, hm⟩ := gb_some hm
          by_cases q28 : (σ74 70 (ix (8 * p0))) = (σ74 70 (ix ((8 * p0) + 1)))
          · have hm := (if_pos q28).symm.trans hm
            cases hm
            exact e20
          · have hm := (if_neg q28).symm.trans hm
            obtain ⟨_, hm⟩ := gb_some hm
            obtain ⟨_, hm⟩ := gb_some hm
            obtain ⟨_, hm⟩ := gb_some hm
            cases hm
            exact ((sg_t hc (by decide)).trans e20)
        · have hm := (if_neg q27).symm.trans hm
          cases hm
          exact e20
    · have hm := (if_neg q21).symm.trans hm
      obtain ⟨_, hm⟩ := gb_some hm
      obtain ⟨r101, σ102, h29, hm⟩ := bd_some hm
      have e29 := (fr_X12_forgets (nt_sub hc (by decide) (by decide)) h29).trans e20
      by_cases q30 : (σ 68 (ix p0)) = 3
      · have hm := (if_pos q30).symm.trans hm
        obtain ⟨_, hm⟩ := gb_some hm
        obtain ⟨r113, σ114, h31, hm⟩ := bd_some hm
        have e31 := (fr_X12_forgets (nt_sub hc (by decide) (by decide)) h31).trans e29
        obtain ⟨_, hm⟩ := gb_some hm
        obtain ⟨r117, σ118, h32, hm⟩ := bd_some hm
        have e32 := (fr_X12_forgets (nt_sub hc (by decide) (by decide)) h32).trans e31
        by_cases q33 : (σ 68 (ix p0)) = 1
        · have hm := (if_pos q33).symm.trans hm
          obtain ⟨_, hm⟩ := gb_some hm
          obtain ⟨_, hm⟩ := gb_some hm
          by_cases q34 : (σ118 70 (ix (8 * p0))) = (σ118 70 (ix ((8 * p0) + 1)))
          · have hm := (if_pos q34).symm.trans hm
            cases hm
            exact e32
          · have hm := (if_neg q34).symm.trans hm
            obtain ⟨_, hm⟩ := gb_some hm
            obtain ⟨_, hm⟩ := gb_some hm
            obtain ⟨_, hm⟩ := gb_some hm
            cases hm
            exact ((sg_t hc (by decide)).trans e32)
        · have hm := (if_neg q33).symm.trans hm
          cases hm
          exact e32
      · have hm := (if_neg q30).symm.trans hm
        by_cases q35 : (σ 68 (ix p0)) = 1
        · have hm := (if_pos q35).symm.trans hm
          obtain ⟨_, hm⟩ := gb_some hm
          obtain ⟨_, hm⟩ := gb_some hm
          by_cases q36 : (σ102 70 (ix (8 * p0))) = (σ102 70 (ix ((8 * p0) + 1)))
          · have hm := (if_pos q36).symm.trans hm
            cases hm
            exact e29
          · have hm := (if_neg q36).symm.trans hm
            obtain ⟨_, hm⟩ := gb_some hm
            obtain ⟨_, hm⟩ := gb_some hm
            obtain ⟨_, hm⟩ := gb_some hm
            cases hm
            exact ((sg_t hc (by decide)).trans e29)
        · have hm := (if_neg q35).symm.trans hm
          cases hm
          exact e29
theorem frl_X12_forwards_2 {N n : Nat}  {K31 : (Sg → Int32 → Option (Int32 × Sg))} {out : Int32 × Sg} {c j : Nat} (hc : nt [74] [] c j = true) : ∀ (k : Nat) (σ : Sg) (v1 : Int32), lf_X12_forwards_2 N n  K31 k σ v1 = some out → (∀ (σ : Sg) (v1 : Int32), K31 σ v1 = some out → out.2 c j = σ c j) → out.2 c j = σ c j := by
  intro k
  induction k with
  | zero => intro σ v1 hm; exact nomatch (show none = some out from hm)
  | succ k ih =>
    intro σ v1 hm hK31
    have hm : lb_X12_forwards_2 N n  K31 (lf_X12_forwards_2 N n  K31 k) σ v1 = some out := hm
    unfold lb_X12_forwards_2 at hm
    by_cases q1 : (σ 59 12) < v1
    · have hm := (if_pos q1).symm.trans hm
      exact (hK31 _ _ hm).trans rfl
    · have hm := (if_neg q1).symm.trans hm
      by_cases q2 : v1 = 0
      · have hm := (if_pos q2).symm.trans hm
        obtain ⟨_, hm⟩ := gb_some hm
        exact (ih _ _ hm hK31).trans ((sg_t hc (by decide)).trans rfl)
      · have hm := (if_neg q2).symm.trans hm
        obtain ⟨_, hm⟩ := gb_some hm
        exact (ih _ _ hm hK31).trans ((sg_t hc (by decide)).trans rfl)
theorem frl_X12_forwards_33 {N n : Nat}  {K103 : (Sg → Int32 → Option (Int32 × Sg))} {out : Int32 × Sg} {c j : Nat} (hc : nt [74] [] c j = true) : ∀ (k : Nat) (σ : Sg) (v1 : Int32), lf_X12_forwards_33 N n  K103 k σ v1 = some out → (∀ (σ : Sg) (v1 : Int32), K103 σ v1 = some out → out.2 c j = σ c j) → out.2 c j = σ c j := by
  intro k
  induction k with
  | zero => intro σ v1 hm; exact nomatch (show none = some out from hm)
  | succ k ih =>
    intro σ v1 hm hK103
    have hm : lb_X12_forwards_33 N n  K103 (lf_X12_forwards_33 N n  K103 k) σ v1 = some out := hm
    unfold lb_X12_forwards_33 at hm
    by_cases q1 : (σ 59 12) ≤ v1
    · have hm := (if_pos q1).symm.trans hm
      exact (hK103 _ _ hm).trans rfl
    · have hm := (if_neg q1).symm.trans hm
      obtain ⟨_, hm⟩ := gb_some hm
      obtain ⟨r9, σ10, h2, hm⟩ := bd_some hm
      have e2 := (fr_X12_isJump (nt_sub hc (by decide) (by decide)) h2).trans rfl
      by_cases q3 : r9 = 0
      · have hm := (if_pos q3).symm.trans hm
        obtain ⟨_, hm⟩ := gb_some hm
        obtain ⟨r14, σ15, h4, hm⟩ := bd_some hm
        have e4 := (fr_X12_isJump (nt_sub hc (by decide) (by decide)) h4).trans e2
        by_cases q5 : r14 = 0
        · have hm := (if_pos q5).symm.trans hm
          obtain ⟨_, hm⟩ := gb_some hm
          by_cases q6 : (σ15 68 (ix v1)) = 6
          · have hm := (if_pos q6).symm.trans hm
            obtain ⟨_, hm⟩ := gb_some hm
            exact (ih _ _ hm hK103).trans ((sg_t hc (by decide)).trans e4)
          · have hm := (if_neg q6).symm.trans hm
            exact (ih _ _ hm hK103).trans e4
        · have hm := (if_neg q5).symm.trans hm
          obtain ⟨_, hm⟩ := gb_some hm
          exact (ih _ _ hm hK103).trans ((sg_t hc (by decide)).trans e4)
      · have hm := (if_neg q3).symm.trans hm
        obtain ⟨_, hm⟩ := gb_some hm
        obtain ⟨_, hm⟩ := gb_some hm
        obtain ⟨_, hm⟩ := gb_some hm
        obtain ⟨r25, σ26, h7, hm⟩ := bd_some hm
        have e7 := (fr_X12_isJump (nt_sub hc (by decide) (by decide)) h7).trans ((sg_t hc (by decide)).trans e2)
        by_cases q8 : r25 = 0
        · have hm := (if_pos q8).symm.trans hm
          obtain ⟨_, hm⟩ := gb_some hm
          by_cases q9 : (σ26 68 (ix v1)) = 6
          · have hm := (if_pos q9).symm.trans hm
            obtain ⟨_, hm⟩ := gb_some hm
            exact (ih _ _ hm hK103).trans ((sg_t hc (by decide)).trans e7)
          · have hm := (if_neg q9).symm.trans hm
            exact (ih _ _ hm hK103).trans e7
        · have hm := (if_neg q8).symm.trans hm
          obtain ⟨_, hm⟩ := gb_some hm
          exact (ih _ _ hm hK103).trans ((sg_t hc (by decide)).trans e7)
theorem frl_X12_forwards_124 {N n : Nat} {u1 : Int32} {K143 : (Sg → Int32 → Option (Int32 × Sg))} {out : Int32 × Sg} {c j : Nat} (hc : nt [75] [] c j = true) : ∀ (k : Nat) (σ : Sg) (v2 : Int32), lf_X12_forwards_124 N n u1 K143 k σ v2 = some out → (∀ (σ : Sg) (v2 : Int32), K143 σ v2 = some out → out.2 c j = σ c j) → out.2 c j = σ c j := by
  intro k
  induction k with
  | zero => intro σ v2 hm; exact nomatch (show none = some out from hm)
  | succ k ih =>
    intro σ v2 hm hK143
    have hm : lb_X12_forwards_124 N n u1 K143 (lf_X12_forwards_124 N n u1 K143 k) σ v2 = some out := hm
    unfold lb_X12_forwards_124 at hm
    by_cases q1 : 24 ≤ v2
    · have hm := (if_pos q1).symm.trans hm
      exact (hK143 _ _ hm).trans rfl
    · have hm := (if_neg q1).symm.trans hm
      obtain ⟨_, hm⟩ := gb_some hm
      exact (ih _ _ hm hK143).trans ((sg_t hc (by decide)).trans rfl)
theorem frl_X12_forwards_105 {N n : Nat}  {K154 : (Sg → Int32 → Option (Int32 × Sg))} {out : Int32 × Sg} {c j : Nat} (hc : nt [70, 75] [] c j = true) : ∀ (k : Nat) (σ : Sg) (v1 : Int32), lf_X12_forwards_105 N n  K154 k σ v1 = some out → (∀ (σ : Sg) (v1 : Int32), K154 σ v1 = some out → out.2 c j = σ c j) → out.2 c j = σ c j := by
  intro k
  induction k with
  | zero => intro σ v1 hm; exact nomatch (show none = some out from hm)
  | succ k ih =>
    intro σ v1 hm hK154
    have hm : lb_X12_forwards_105 N n  K154 (lf_X12_forwards_105 N n  K154 k) σ v1 = some out := hm
    unfold lb_X12_forwards_105 at hm
    by_cases q1 : (σ 59 12) ≤ v1
    · have hm := (if_pos q1).symm.trans hm
      exact (hK154 _ _ hm).trans rfl
    · have hm := (if_neg q1).symm.trans hm
      obtain ⟨_, hm⟩ := gb_some hm
      by_cases q2 : (σ 74 (ix v1)) = 0
      · have hm := (if_pos q2).symm.trans hm
        obtain ⟨r38, σ39, h3, hm⟩ := bd_some hm
        have e3 := (fr_X12_forward (nt_sub hc (by decide) (by decide)) h3).trans rfl
        exact (ih _ _ hm hK154).trans e3
      · have hm := (if_neg q2).symm.trans hm
        refine (frl_X12_forwards_124 (nt_sub hc (by decide) (by decide)) N _ _ hm ?_).trans rfl
        intro σ43 w44 hm
        obtain ⟨r45, σ46, h4, hm⟩ := bd_some hm
        have e4 := (fr_X12_forward (nt_sub hc (by decide) (by decide)) h4).trans rfl
        exact (ih _ _ hm hK154).trans e4
theorem fr_X12_forwards {N n : Nat} {σ : Sg}  {r : Int32} {σ' : Sg} {c j : Nat} (hc : nt [70, 74, 75] [] c j = true) (hm : f_X12_forwards N n σ  = some (r, σ')) : σ' c j = σ c j := by
  unfold f_X12_forwards at hm
  refine (frl_X12_forwards_2 (nt_sub hc (by decide) (by decide)) N _ _ hm ?_).trans rfl
  intro σ5 w6 hm
  refine (frl_X12_forwards_33 (nt_sub hc (by decide) (by decide)) N _ _ hm ?_).trans rfl
  intro σ33 w34 hm
  refine (frl_X12_forwards_105 (nt_sub hc (by decide) (by decide)) N _ _ hm ?_).trans rfl
  intro σ48 w49 hm
  cases hm
  exact rfl
theorem fr_X12_func {N n : Nat} {σ : Sg} {p0 : Int32} {p1 : Int32} {r : Int32} {σ' : Sg} {c j : Nat} (hc : nt [60, 61, 62, 63] [(59, 0), (59, 1)] c j = true) (hm : f_X12_func N n σ p0 p1 = some (r, σ')) : σ' c j = σ c j := by
  unfold f_X12_func at hm
  by_cases q1 : p0 < 0
  · have hm := (if_pos q1).symm.trans hm
    cases hm
    exact ((sg_u hc (by decide)).trans rfl)
  · have hm := (if_neg q1).symm.trans hm
    by_cases q2 : 6 < p0
    · have hm := (if_pos q2).symm.trans hm
      cases hm
      exact ((sg_u hc (by decide)).trans rfl)
    · have hm := (if_neg q2).symm.trans hm
      by_cases q3 : p1 < p0
      · have hm := (if_pos q3).symm.trans hm
        cases hm
        exact ((sg_u hc (by decide)).trans rfl)
      · have hm := (if_neg q3).symm.trans hm
        by_cases q4 : 10 < p1
        · have hm := (if_pos q4).symm.trans hm
          cases hm
          exact ((sg_u hc (by decide)).trans rfl)
        · have hm := (if_neg q4).symm.trans hm
          by_cases q5 : (σ 59 1) = 12
          · have hm := (if_pos q5).symm.trans hm
            cases hm
            exact ((sg_u hc (by decide)).trans rfl)
          · have hm := (if_neg q5).symm.trans hm
            by_cases q6 : (σ 59 10) = 0
            · have hm := (if_pos q6).symm.trans hm
              obtain ⟨_, hm⟩ := gb_some hm
              obtain ⟨_, hm⟩ := gb_some hm
              obtain ⟨_, hm⟩ := gb_some hm
              obtain ⟨_, hm⟩ := gb_some hm
              cases hm
              exact ((sg_u hc (by decide)).trans ((sg_t hc (by decide)).trans ((sg_t hc (by decide)).trans ((sg_t hc (by decide)).trans ((sg_t hc (by decide)).trans ((sg_u hc (by decide)).trans rfl))))))
            · have hm := (if_neg q6).symm.trans hm
              cases hm
              exact ((sg_u hc (by decide)).trans rfl)
theorem fr_X12_isFunc {N n : Nat} {σ : Sg} {p0 : Int32} {r : Int32} {σ' : Sg} {c j : Nat} (hc : nt [] [] c j = true) (hm : f_X12_isFunc N n σ p0 = some (r, σ')) : σ' c j = σ c j := by
  unfold f_X12_isFunc at hm
  by_cases q1 : (σ 59 37) = 0
  · have hm := (if_pos q1).symm.trans hm
    cases hm
    exact rfl
  · have hm := (if_neg q1).symm.trans hm
    by_cases q2 : p0 < 0
    · have hm := (if_pos q2).symm.trans hm
      cases hm
      exact rfl
    · have hm := (if_neg q2).symm.trans hm
      by_cases q3 : (σ 59 1) ≤ p0
      · have hm := (if_pos q3).symm.trans hm
        cases hm
        exact rfl
      · have hm := (if_neg q3).symm.trans hm
        cases hm
        exact rfl
theorem fr_X12_liveBehind {N n : Nat} {σ : Sg} {p0 : Int32} {r : Int32} {σ' : Sg} {c j : Nat} (hc : nt [] [] c j = true) (hm : f_X12_liveBehind N n σ p0 = some (r, σ')) : σ' c j = σ c j := by
  unfold f_X12_liveBehind at hm
  obtain ⟨_, hm⟩ := gb_some hm
  by_cases q1 : (σ 68 (ix p0)) = 6
  · have hm := (if_pos q1).symm.trans hm
    cases hm
    exact rfl
  · have hm := (if_neg q1).symm.trans hm
    by_cases q2 : (σ 68 (ix p0)) = 4
    · have hm := (if_pos q2).symm.trans hm
      obtain ⟨r11, σ12, h3, hm⟩ := bd_some hm
      have e3 := (fr_X12_isJump (nt_sub hc (by decide) (by decide)) h3).trans rfl
      by_cases q4 : r11 = 0
      · have hm := (if_pos q4).symm.trans hm
        cases hm
        exact e3
      · have hm := (if_neg q4).symm.trans hm
        obtain ⟨_, hm⟩ := gb_some hm
        obtain ⟨_, hm⟩ := gb_some hm
        cases hm
        exact e3
    · have hm := (if_neg q2).symm.trans hm
      obtain ⟨_, hm⟩ := gb_some hm
      obtain ⟨r5, σ6, h5, hm⟩ := bd_some hm
      have e5 := (fr_X12_isJump (nt_sub hc (by decide) (by decide)) h5).trans rfl
      by_cases q6 : r5 = 0
      · have hm := (if_pos q6).symm.trans hm
        cases hm
        exact e5
      · have hm := (if_neg q6).symm.trans hm
        obtain ⟨_, hm⟩ := gb_some hm
        obtain ⟨_, hm⟩ := gb_some hm
        cases hm
        exact e5
theorem fr_X12_isLeftOut {N n : Nat} {σ : Sg} {p0 : Int32} {r : Int32} {σ' : Sg} {c j : Nat} (hc : nt [] [] c j = true) (hm : f_X12_isLeftOut N n σ p0 = some (r, σ')) : σ' c j = σ c j := by
  unfold f_X12_isLeftOut at hm
  obtain ⟨_, hm⟩ := gb_some hm
  by_cases q1 : (σ 68 (ix p0)) = 0
  · have hm := (if_pos q1).symm.trans hm
    obtain ⟨r3, σ4, h2, hm⟩ := bd_some hm
    have e2 := (fr_X12_liveBehind (nt_sub hc (by decide) (by decide)) h2).trans rfl
    obtain ⟨_, hm⟩ := gb_some hm
    by_cases q3 : ((r3 >>> ((σ4 70 (ix (8 * p0))) &&& 31)) &&& 1) = 0
    · have hm := (if_pos q3).symm.trans hm
      cases hm
      exact e2
    · have hm := (if_neg q3).symm.trans hm
      by_cases q4 : (σ 68 (ix p0)) = 1
      · have hm := (if_pos q4).symm.trans hm
        obtain ⟨_, hm⟩ := gb_some hm
        obtain ⟨_, hm⟩ := gb_some hm
        by_cases q5 : (σ4 70 (ix (8 * p0))) = (σ4 70 (ix ((8 * p0) + 1)))
        · have hm := (if_pos q5).symm.trans hm
          cases hm
          exact e2
        · have hm := (if_neg q5).symm.trans hm
          cases hm
          exact e2
      · have hm := (if_neg q4).symm.trans hm
        cases hm
        exact e2
  · have hm := (if_neg q1).symm.trans hm
    by_cases q6 : (σ 68 (ix p0)) = 1
    · have hm := (if_pos q6).symm.trans hm
      obtain ⟨r13, σ14, h7, hm⟩ := bd_some hm
      have e7 := (fr_X12_liveBehind (nt_sub hc (by decide) (by decide)) h7).trans rfl
      obtain ⟨_, hm⟩ := gb_some hm
      by_cases q8 : ((r13 >>> ((σ14 70 (ix (8 * p0))) &&& 31)) &&& 1) = 0
      · have hm := (if_pos q8).symm.trans hm
        cases hm
        exact e7
      · have hm := (if_neg q8).symm.trans hm
        obtain ⟨_, hm⟩ := gb_some hm
        obtain ⟨_, hm⟩ := gb_some hm
        by_cases q9 : (σ14 70 (ix (8 * p0))) = (σ14 70 (ix ((8 * p0) + 1)))
        · have hm := (if_pos q9).symm.trans hm
          cases hm
          exact e7
        · have hm := (if_neg q9).symm.trans hm
          cases hm
          exact e7
    · have hm := (if_neg q6).symm.trans hm
      cases hm
      exact rfl
theorem fr_X12_place {N n : Nat} {σ : Sg} {p0 : Int32} {p1 : Int32} {r : Int32} {σ' : Sg} {c j : Nat} (hc : nt [68, 69, 71] [(59, 12)] c j = true) (hm : f_X12_place N n σ p0 p1 = some (r, σ')) : σ' c j = σ c j := by
  unfold f_X12_place at hm
  obtain ⟨_, hm⟩ := gb_some hm
  obtain ⟨_, hm⟩ := gb_some hm
  obtain ⟨_, hm⟩ := gb_some hm
  cases hm
  exact ((sg_u hc (by decide)).trans ((sg_t hc (by decide)).trans ((sg_t hc (by decide)).trans ((sg_t hc (by decide)).trans rfl))))
theorem fr_X12_tells {N n : Nat} {σ : Sg} {p0 : Int32} {r : Int32} {σ' : Sg} {c j : Nat} (hc : nt [70, 71] [] c j = true) (hm : f_X12_tells N n σ p0 = some (r, σ')) : σ' c j = σ c j := by
  unfold f_X12_tells at hm
  obtain ⟨_, hm⟩ := gb_some hm
  obtain ⟨_, hm⟩ := gb_some hm
  obtain ⟨_, hm⟩ := gb_some hm
  obtain ⟨_, hm⟩ := gb_some hm
  cases hm
  exact ((sg_t hc (by decide)).trans ((sg_t hc (by decide)).trans rfl))
theorem frl_X12_lay_229 {N n : Nat} {u3 : Int32} {u4 : Int32} {K262 : (Sg → Int32 → Option (Int32 × Sg))} {out : Int32 × Sg} {c j : Nat} (hc : nt [70, 71] [] c j = true) : ∀ (k : Nat) (σ : Sg) (v5 : Int32), lf_X12_lay_229 N n u3 u4 K262 k σ v5 = some out → (∀ (σ : Sg) (v5 : Int32), K262 σ v5 = some out → out.2 c j = σ c j) → out.2 c j = σ c j := by
  intro k
  induction k with
  | zero => intro σ v5 hm; exact nomatch (show none = some out from hm)
  | succ k ih =>
    intro σ v5 hm hK262
    have hm : lb_X12_lay_229 N n u3 u4 K262 (lf_X12_lay_229 N n u3 u4 K262 k) σ v5 = some out := hm
    unfold lb_X12_lay_229 at hm
    obtain ⟨_, hm⟩ := gb_some hm
    by_cases q1 : (σ 60 (ix u3)) ≤ v5
    · have hm := (if_pos q1).symm.trans hm
      exact (hK262 _ _ hm).trans rfl
    · have hm := (if_neg q1).symm.trans hm
      obtain ⟨_, hm⟩ := gb_some hm
      obtain ⟨r71, σ72, h2, hm⟩ := bd_some hm
      have e2 := (fr_X12_tells (nt_sub hc (by decide) (by decide)) h2).trans rfl
      exact (ih _ _ hm hK262).trans e2
theorem fr_X12_lay {N n : Nat} {σ : Sg} {p0 : Int32} {p1 : Int32} {p2 : Int32} {p3 : Int32} {r : Int32} {σ' : Sg} {c j : Nat} (hc : nt [68, 69, 70, 71] [(59, 12)] c j = true) (hm : f_X12_lay N n σ p0 p1 p2 p3 = some (r, σ')) : σ' c j = σ c j := by
  unfold f_X12_lay at hm
  by_cases q1 : p1 = 0
  · have hm := (if_pos q1).symm.trans hm
    obtain ⟨r2, σ3, h2, hm⟩ := bd_some hm
    have e2 := (fr_X12_place (nt_sub hc (by decide) (by decide)) h2).trans rfl
    obtain ⟨r5, σ6, h3, hm⟩ := bd_some hm
    have e3 := (fr_X12_tells (nt_sub hc (by decide) (by decide)) h3).trans e2
    cases hm
    exact e3
  · have hm := (if_neg q1).symm.trans hm
    by_cases q4 : p1 = 1
    · have hm := (if_pos q4).symm.trans hm
      obtain ⟨r9, σ10, h5, hm⟩ := bd_some hm
      have e5 := (fr_X12_place (nt_sub hc (by decide) (by decide)) h5).trans rfl
      obtain ⟨r12, σ13, h6, hm⟩ := bd_some hm
      have e6 := (fr_X12_tells (nt_sub hc (by decide) (by decide)) h6).trans e5
      obtain ⟨r15, σ16, h7, hm⟩ := bd_some hm
      have e7 := (fr_X12_tells (nt_sub hc (by decide) (by decide)) h7).trans e6
      cases hm
      exact e7
    · have hm := (if_neg q4).symm.trans hm
      by_cases q8 : p1 = 2
      · have hm := (if_pos q8).symm.trans hm
        obtain ⟨r19, σ20, h9, hm⟩ := bd_some hm
        have e9 := (fr_X12_place (nt_sub hc (by decide) (by decide)) h9).trans rfl
        obtain ⟨r22, σ23, h10, hm⟩ := bd_some hm
        have e10 := (fr_X12_tells (nt_sub hc (by decide) (by decide)) h10).trans e9
        obtain ⟨r25, σ26, h11, hm⟩ := bd_some hm
        have e11 := (fr_X12_tells (nt_sub hc (by decide) (by decide)) h11).trans e10
        cases hm
        exact e11
      · have hm := (if_neg q8).symm.trans hm
        by_cases q12 : p1 = 9
        · have hm := (if_pos q12).symm.trans hm
          obtain ⟨r29, σ30, h13, hm⟩ := bd_some hm
          have e13 := (fr_X12_place (nt_sub hc (by decide) (by decide)) h13).trans rfl
          obtain ⟨r32, σ33, h14, hm⟩ := bd_some hm
          have e14 := (fr_X12_tells (nt_sub hc (by decide) (by decide)) h14).trans e13
          obtain ⟨r35, σ36, h15, hm⟩ := bd_some hm
          have e15 := (fr_X12_tells (nt_sub hc (by decide) (by decide)) h15).trans e14
          cases hm
          exact e15
        · have hm := (if_neg q12).symm.trans hm
          by_cases q16 : p1 = 10
          · have hm := (if_pos q16).symm.trans hm
            obtain ⟨r39, σ40, h17, hm⟩ := bd_some hm
            have e17 := (fr_X12_place (nt_sub hc (by decide) (by decide)) h17).trans rfl
            obtain ⟨r42, σ43, h18, hm⟩ := bd_some hm
            have e18 := (fr_X12_tells (nt_sub hc (by decide) (by decide)) h18).trans e17
            obtain ⟨r45, σ46, h19, hm⟩ := bd_some hm
            have e19 := (fr_X12_tells (nt_sub hc (by decide) (by decide)) h19).trans e18
            cases hm
            exact e19
          · have hm := (if_neg q16).symm.trans hm
            by_cases q20 : p1 = 11
            · have hm := (if_pos q20).symm.trans hm
              cases hm
              exact rfl
            · have hm := (if_neg q20).symm.trans hm
              by_cases q21 : p1 = 12
              · have hm := (if_pos q21).symm.trans hm
                obtain ⟨r50, σ51, h22, hm⟩ := bd_some hm
                have e22 := (fr_X12_place (nt_sub hc (by decide) (by decide)) h22).trans rfl
                cases hm
                exact e22
              · have hm := (if_neg q21).symm.trans hm
                by_cases q23 : p1 = 13
                · have hm := (if_pos q23).symm.trans hm
                  obtain ⟨r54, σ55, h24, hm⟩ := bd_some hm
                  have e24 := (fr_X12_place (nt_sub hc (by decide) (by decide)) h24).trans rfl
                  obtain ⟨r57, σ58, h25, hm⟩ := bd_some hm
                  have e25 := (fr_X12_tells (nt_sub hc (by decide) (by decide)) h25).trans e24
                  cases hm
                  exact e25
                · have hm := (if_neg q23).symm.trans hm
                  by_cases q26 : p1 = 14
                  · have hm := (if_pos q26).symm.trans hm
                    obtain ⟨r61, σ62, h27, hm⟩ := bd_some hm
                    have e27 := (fr_X12_place (nt_sub hc (by decide) (by decide)) h27).trans rfl
                    obtain ⟨_, hm⟩ := gb_some hm
                    obtain ⟨r65, σ66, h28, hm⟩ := bd_some hm
                    have e28 := (fr_X12_tells (nt_sub hc (by decide) (by decide)) h28).trans e27
                    refine (frl_X12_lay_229 (nt_sub hc (by decide) (by decide)) N _ _ hm ?_).trans e28
                    intro σ74 w75 hm
                    cases hm
                    exact rfl
                  · have hm := (if_neg q26).symm.trans hm
                    by_cases q29 : p1 = 15
                    · have hm := (if_pos q29).symm.trans hm
                      obtain ⟨r77, σ78, h30, hm⟩ := bd_some hm
                      have e30 := (fr_X12_place (nt_sub hc (by decide) (by decide)) h30).trans rfl
                      obtain ⟨r80, σ81, h31, hm⟩ := bd_some hm
                      have e31 := (fr_X12_tells (nt_sub hc (by decide) (by decide)) h31).trans e30
                      cases hm
                      exact e31
                    · have hm := (if_neg q29).symm.trans hm
                      by_cases q32 : p1 = 16
                      · have hm := (if_pos q32).symm.trans hm
                        obtain ⟨r84, σ85, h33, hm⟩ := bd_some hm
                        have e33 := (fr_X12_place (nt_sub hc (by decide) (by decide)) h33).trans rfl
                        obtain ⟨r87, σ88, h34, hm⟩ := bd_some hm
                        have e34 := (fr_X12_tells (nt_sub hc (by decide) (by decide)) h34).trans e33
                        obtain ⟨r90, σ91, h35, hm⟩ := bd_some hm
                        have e35 := (fr_X12_tells (nt_sub hc (by decide) (by decide)) h35).trans e34
                        cases hm
                        exact e35
                      · have hm := (if_neg q32).symm.trans hm
                        by_cases q36 : p1 = 17
                        · have hm := (if_pos q36).symm.trans hm
                          obtain ⟨r94, σ95, h37, hm⟩ := bd_some hm
                          have e37 := (fr_X12_place (nt_sub hc (by decide) (by decide)) h37).trans rfl
                          obtain ⟨r97, σ98, h38, hm⟩ := bd_some hm
                          have e38 := (fr_X12_tells (nt_sub hc (by decide) (by decide)) h38).trans e37
                          obtain ⟨r100, σ101, h39, hm⟩ := bd_some hm
                          have e39 := (fr_X12_tells (nt_sub hc (by decide) (by decide)) h39).trans e38
                          cases hm
                          exact e39
                        · have hm := (if_neg q36).symm.trans hm
                          obtain ⟨r103, σ104, h40, hm⟩ := bd_some hm
                          have e40 := (fr_X12_place (nt_sub hc (by decide) (by decide)) h40).trans rfl
                          obtain ⟨r106, σ107, h41, hm⟩ := bd_some hm
                          have e41 := (fr_X12_tells (nt_sub hc (by decide) (by decide)) h41).trans e40
                          obtain ⟨r109, σ110, h42, hm⟩ := bd_some hm
                          have e42 := (fr_X12_tells (nt_sub hc (by decide) (by decide)) h42).trans e41
                          obtain ⟨r112, σ113, h43, hm⟩ := bd_some hm
                          have e43 := (fr_X12_tells (nt_sub hc (by decide) (by decide)) h43).trans e42
                          cases hm
                          exact e43
theorem frl_X12_lays_14 {N n : Nat} {u1 : Int32} {u2 : Int32} {K87 : (Sg → Int32 → Option (Int32 × Sg))} {out : Int32 × Sg} {c j : Nat} (hc : nt [68, 69, 70, 71, 72] [(59, 12)] c j = true) : ∀ (k : Nat) (σ : Sg) (v3 : Int32), lf_X12_lays_14 N n u1 u2 K87 k σ v3 = some out → (∀ (σ : Sg) (v3 : Int32), K87 σ v3 = some out → out.2 c j = σ c j) → out.2 c j = σ c j := by
  intro k
  induction k with
  | zero => intro σ v3 hm; exact nomatch (show none = some out from hm)
  | succ k ih =>
    intro σ v3 hm hK87
    have hm : lb_X12_lays_14 N n u1 u2 K87 (lf_X12_lays_14 N n u1 u2 K87 k) σ v3 = some out := hm
    unfold lb_X12_lays_14 at hm
    obtain ⟨_, hm⟩ := gb_some hm
    by_cases q1 : (σ 63 (ix u1)) ≤ v3
    · have hm := (if_pos q1).symm.trans hm
      exact (hK87 _ _ hm).trans rfl
    · have hm := (if_neg q1).symm.trans hm
      obtain ⟨_, hm⟩ := gb_some hm
      obtain ⟨_, hm⟩ := gb_some hm
      by_cases q2 : (σ 66 (ix (u2 + v3))) < 0
      · have hm := (if_pos q2).symm.trans hm
        exact (ih _ _ hm hK87).trans ((sg_t hc (by decide)).trans rfl)
      · have hm := (if_neg q2).symm.trans hm
        obtain ⟨_, hm⟩ := gb_some hm
        obtain ⟨_, hm⟩ := gb_some hm
        obtain ⟨_, hm⟩ := gb_some hm
        obtain ⟨_, hm⟩ := gb_some hm
        obtain ⟨r11, σ12, h3, hm⟩ := bd_some hm
        have e3 := (fr_X12_lay (nt_sub hc (by decide) (by decide)) h3).trans ((sg_t hc (by decide)).trans rfl)
        exact (ih _ _ hm hK87).trans e3
theorem frl_X12_lays_89 {N n : Nat}  {K132 : (Sg → Int32 → Option (Int32 × Sg))} {out : Int32 × Sg} {c j : Nat} (hc : nt [69] [] c j = true) : ∀ (k : Nat) (σ : Sg) (v3 : Int32), lf_X12_lays_89 N n  K132 k σ v3 = some out → (∀ (σ : Sg) (v3 : Int32), K132 σ v3 = some out → out.2 c j = σ c j) → out.2 c j = σ c j := by
  intro k
  induction k with
  | zero => intro σ v3 hm; exact nomatch (show none = some out from hm)
  | succ k ih =>
    intro σ v3 hm hK132
    have hm : lb_X12_lays_89 N n  K132 (lf_X12_lays_89 N n  K132 k) σ v3 = some out := hm
    unfold lb_X12_lays_89 at hm
    by_cases q1 : (σ 59 12) ≤ v3
    · have hm := (if_pos q1).symm.trans hm
      exact (hK132 _ _ hm).trans rfl
    · have hm := (if_neg q1).symm.trans hm
      obtain ⟨_, hm⟩ := gb_some hm
      obtain ⟨r18, σ19, h2, hm⟩ := bd_some hm
      have e2 := (fr_X12_isJump (nt_sub hc (by decide) (by decide)) h2).trans rfl
      by_cases q3 : r18 = 0
      · have hm := (if_pos q3).symm.trans hm
        exact (ih _ _ hm hK132).trans e2
      · have hm := (if_neg q3).symm.trans hm
        obtain ⟨_, hm⟩ := gb_some hm
        obtain ⟨_, hm⟩ := gb_some hm
        obtain ⟨_, hm⟩ := gb_some hm
        exact (ih _ _ hm hK132).trans ((sg_t hc (by decide)).trans e2)
theorem fr_X12_lays {N n : Nat} {σ : Sg} {p0 : Int32} {r : Int32} {σ' : Sg} {c j : Nat} (hc : nt [68, 69, 70, 71, 72] [(59, 12)] c j = true) (hm : f_X12_lays N n σ p0 = some (r, σ')) : σ' c j = σ c j := by
  unfold f_X12_lays at hm
  obtain ⟨_, hm⟩ := gb_some hm
  refine (frl_X12_lays_14 (nt_sub hc (by decide) (by decide)) N _ _ hm ?_).trans ((sg_u hc (by decide)).trans rfl)
  intro σ14 w15 hm
  refine (frl_X12_lays_89 (nt_sub hc (by decide) (by decide)) N _ _ hm ?_).trans rfl
  intro σ25 w26 hm
  cases hm
  exact rfl
theorem frl_X12_liveAhead_50 {N n : Nat} {u1 : Int32} {K84 : (Sg → Int32 → Int32 → Option (Int32 × Sg))} {out : Int32 × Sg} {c j : Nat} (hc : nt [] [] c j = true) : ∀ (k : Nat) (σ : Sg) (v2 : Int32) (v4 : Int32), lf_X12_liveAhead_50 N n u1 K84 k σ v2 v4 = some out → (∀ (σ : Sg) (v2 : Int32) (v4 : Int32), K84 σ v2 v4 = some out → out.2 c j = σ c j) → out.2 c j = σ c j := by
  intro k
  induction k with
  | zero => intro σ v2 v4 hm; exact nomatch (show none = some out from hm)
  | succ k ih =>
    intro σ v2 v4 hm hK84
    have hm : lb_X12_liveAhead_50 N n u1 K84 (lf_X12_liveAhead_50 N n u1 K84 k) σ v2 v4 = some out := hm
    unfold lb_X12_liveAhead_50 at hm
    obtain ⟨_, hm⟩ := gb_some hm
    by_cases q1 : (σ 71 (ix u1)) ≤ v4
    · have hm := (if_pos q1).symm.trans hm
      exact (hK84 _ _ _ hm).trans rfl
    · have hm := (if_neg q1).symm.trans hm
      obtain ⟨_, hm⟩ := gb_some hm
      exact (ih _ _ _ hm hK84).trans rfl
theorem fr_X12_liveAhead {N n : Nat} {σ : Sg} {p0 : Int32} {r : Int32} {σ' : Sg} {c j : Nat} (hc : nt [] [] c j = true) (hm : f_X12_liveAhead N n σ p0 = some (r, σ')) : σ' c j = σ c j := by
  unfold f_X12_liveAhead at hm
  obtain ⟨r1, σ2, h1, hm⟩ := bd_some hm
  have e1 := (fr_X12_liveBehind (nt_sub hc (by decide) (by decide)) h1).trans rfl
  obtain ⟨_, hm⟩ := gb_some hm
  obtain ⟨r5, σ6, h2, hm⟩ := bd_some hm
  have e2 := (fr_X12_writes (nt_sub hc (by decide) (by decide)) h2).trans e1
  by_cases q3 : r5 = 0
  · have hm := (if_pos q3).symm.trans hm
    obtain ⟨r9, σ10, h4, hm⟩ := bd_some hm
    have e4 := (fr_X12_writes (nt_sub hc (by decide) (by decide)) h4).trans e2
    by_cases q5 : r9 = 0
    · have hm := (if_pos q5).symm.trans hm
      refine (frl_X12_liveAhead_50 (nt_sub hc (by decide) (by decide)) N _ _ _ hm ?_).trans e4
      intro σ16 w17 w18 hm
      cases hm
      exact rfl
    · have hm := (if_neg q5).symm.trans hm
      refine (frl_X12_liveAhead_50 (nt_sub hc (by decide) (by decide)) N _ _ _ hm ?_).trans e4
      intro σ19 w20 w21 hm
      cases hm
      exact rfl
  · have hm := (if_neg q3).symm.trans hm
    obtain ⟨_, hm⟩ := gb_some hm
    obtain ⟨r23, σ24, h6, hm⟩ := bd_some hm
    have e6 := (fr_X12_writes (nt_sub hc (by decide) (by decide)) h6).trans e2
    by_cases q7 : r23 = 0
    · have hm := (if_pos q7).symm.trans hm
      refine (frl_X12_liveAhead_50 (nt_sub hc (by decide) (by decide)) N _ _ _ hm ?_).trans e6
      intro σ27 w28 w29 hm
      cases hm
      exact rfl
    · have hm := (if_neg q7).symm.trans hm
      refine (frl_X12_liveAhead_50 (nt_sub hc (by decide) (by decide)) N _ _ _ hm ?_).trans e6
      intro σ30 w31 w32 hm
      cases hm
      exact rfl
theorem frl_X12_lives_2 {N n : Nat}  {K23 : (Sg → Int32 → Option (Int32 × Sg))} {out : Int32 × Sg} {c j : Nat} (hc : nt [76] [] c j = true) : ∀ (k : Nat) (σ : Sg) (v1 : Int32), lf_X12_lives_2 N n  K23 k σ v1 = some out → (∀ (σ : Sg) (v1 : Int32), K23 σ v1 = some out → out.2 c j = σ c j) → out.2 c j = σ c j := by
  intro k
  induction k with
  | zero => intro σ v1 hm; exact nomatch (show none = some out from hm)
  | succ k ih =>
    intro σ v1 hm hK23
    have hm : lb_X12_lives_2 N n  K23 (lf_X12_lives_2 N n  K23 k) σ v1 = some out := hm
    unfold lb_X12_lives_2 at hm
    by_cases q1 : (σ 59 12) < v1
    · have hm := (if_pos q1).symm.trans hm
      exact (hK23 _ _ hm).trans rfl
    · have hm := (if_neg q1).symm.trans hm
      obtain ⟨_, hm⟩ := gb_some hm
      exact (ih _ _ hm hK23).trans ((sg_t hc (by decide)).trans rfl)
theorem frl_X12_lives_38 {N n : Nat}  {K81 : (Sg → Int32 → Int32 → Option (Int32 × Sg))} {out : Int32 × Sg} {c j : Nat} (hc : nt [76] [] c j = true) : ∀ (k : Nat) (σ : Sg) (v1 : Int32) (v2 : Int32), lf_X12_lives_38 N n  K81 k σ v1 v2 = some out → (∀ (σ : Sg) (v1 : Int32) (v2 : Int32), K81 σ v1 v2 = some out → out.2 c j = σ c j) → out.2 c j = σ c j := by
  intro k
  induction k with
  | zero => intro σ v1 v2 hm; exact nomatch (show none = some out from hm)
  | succ k ih =>
    intro σ v1 v2 hm hK81
    have hm : lb_X12_lives_38 N n  K81 (lf_X12_lives_38 N n  K81 k) σ v1 v2 = some out := hm
    unfold lb_X12_lives_38 at hm
    by_cases q1 : v2 < 0
    · have hm := (if_pos q1).symm.trans hm
      exact (hK81 _ _ _ hm).trans rfl
    · have hm := (if_neg q1).symm.trans hm
      obtain ⟨r7, σ8, h2, hm⟩ := bd_some hm
      have e2 := (fr_X12_liveAhead (nt_sub hc (by decide) (by decide)) h2).trans rfl
      by_cases q3 : v1 = 0
      · have hm := (if_pos q3).symm.trans hm
        obtain ⟨_, hm⟩ := gb_some hm
        by_cases q4 : r7 = (σ8 76 (ix v2))
        · have hm := (if_pos q4).symm.trans hm
          obtain ⟨_, hm⟩ := gb_some hm
          exact (ih _ _ _ hm hK81).trans ((sg_t hc (by decide)).trans e2)
        · have hm := (if_neg q4).symm.trans hm
          obtain ⟨_, hm⟩ := gb_some hm
          exact (ih _ _ _ hm hK81).trans ((sg_t hc (by decide)).trans e2)
      · have hm := (if_neg q3).symm.trans hm
        obtain ⟨_, hm⟩ := gb_some hm
        exact (ih _ _ _ hm hK81).trans ((sg_t hc (by decide)).trans e2)
theorem frl_X12_lives_25 {N n : Nat}  {K84 : (Sg → Int32 → Option (Int32 × Sg))} {out : Int32 × Sg} {c j : Nat} (hc : nt [76] [] c j = true) : ∀ (k : Nat) (σ : Sg) (v1 : Int32), lf_X12_lives_25 N n  K84 k σ v1 = some out → (∀ (σ : Sg) (v1 : Int32), K84 σ v1 = some out → out.2 c j = σ c j) → out.2 c j = σ c j := by
  intro k
  induction k with
  | zero => intro σ v1 hm; exact nomatch (show none = some out from hm)
  | succ k ih =>
    intro σ v1 hm hK84
    have hm : lb_X12_lives_25 N n  K84 (lf_X12_lives_25 N n  K84 k) σ v1 = some out := hm
    unfold lb_X12_lives_25 at hm
    by_cases q1 : v1 = 0
    · have hm := (if_pos q1).symm.trans hm
      exact (hK84 _ _ hm).trans rfl
    · have hm := (if_neg q1).symm.trans hm
      refine (frl_X12_lives_38 (nt_sub hc (by decide) (by decide)) N _ _ _ hm ?_).trans rfl
      intro σ16 w17 w18 hm
      exact (ih _ _ hm hK84).trans rfl
theorem fr_X12_lives {N n : Nat} {σ : Sg}  {r : Int32} {σ' : Sg} {c j : Nat} (hc : nt [76] [] c j = true) (hm : f_X12_lives N n σ  = some (r, σ')) : σ' c j = σ c j := by
  unfold f_X12_lives at hm
  refine (frl_X12_lives_2 (nt_sub hc (by decide) (by decide)) N _ _ hm ?_).trans rfl
  intro σ3 w4 hm
  refine (frl_X12_lives_25 (nt_sub hc (by decide) (by decide)) N _ _ hm ?_).trans rfl
  intro σ19 w20 hm
  cases hm
  exact rfl
theorem frl_X12_leavesOut_14 {N n : Nat}  {K51 : (Sg → Int32 → Int32 → Option (Int32 × Sg))} {out : Int32 × Sg} {c j : Nat} (hc : nt [73] [] c j = true) : ∀ (k : Nat) (σ : Sg) (v2 : Int32) (v3 : Int32), lf_X12_leavesOut_14 N n  K51 k σ v2 v3 = some out → (∀ (σ : Sg) (v2 : Int32) (v3 : Int32), K51 σ v2 v3 = some out → out.2 c j = σ c j) → out.2 c j = σ c j := by
  intro k
  induction k with
  | zero => intro σ v2 v3 hm; exact nomatch (show none = some out from hm)
  | succ k ih =>
    intro σ v2 v3 hm hK51
    have hm : lb_X12_leavesOut_14 N n  K51 (lf_X12_leavesOut_14 N n  K51 k) σ v2 v3 = some out := hm
    unfold lb_X12_leavesOut_14 at hm
    by_cases q1 : (σ 59 12) ≤ v3
    · have hm := (if_pos q1).symm.trans hm
      exact (hK51 _ _ _ hm).trans rfl
    · have hm := (if_neg q1).symm.trans hm
      obtain ⟨_, hm⟩ := gb_some hm
      obtain ⟨r7, σ8, h2, hm⟩ := bd_some hm
      have e2 := (fr_X12_isLeftOut (nt_sub hc (by decide) (by decide)) h2).trans ((sg_t hc (by decide)).trans rfl)
      by_cases q3 : r7 = 0
      · have hm := (if_pos q3).symm.trans hm
        exact (ih _ _ _ hm hK51).trans e2
      · have hm := (if_neg q3).symm.trans hm
        exact (ih _ _ _ hm hK51).trans e2
theorem frl_X12_leavesOut_2 {N n : Nat}  {K87 : (Sg → Int32 → Option (Int32 × Sg))} {out : Int32 × Sg} {c j : Nat} (hc : nt [68, 69, 70, 71, 73, 76] [(59, 12)] c j = true) : ∀ (k : Nat) (σ : Sg) (v1 : Int32), lf_X12_leavesOut_2 N n  K87 k σ v1 = some out → (∀ (σ : Sg) (v1 : Int32), K87 σ v1 = some out → out.2 c j = σ c j) → out.2 c j = σ c j := by
  intro k
  induction k with
  | zero => intro σ v1 hm; exact nomatch (show none = some out from hm)
  | succ k ih =>
    intro σ v1 hm hK87
    have hm : lb_X12_leavesOut_2 N n  K87 (lf_X12_leavesOut_2 N n  K87 k) σ v1 = some out := hm
    unfold lb_X12_leavesOut_2 at hm
    by_cases q1 : v1 = 0
    · have hm := (if_pos q1).symm.trans hm
      exact (hK87 _ _ hm).trans rfl
    · have hm := (if_neg q1).symm.trans hm
      obtain ⟨r2, σ3, h2, hm⟩ := bd_some hm
      have e2 := (fr_X12_lives (nt_sub hc (by decide) (by decide)) h2).trans rfl
      refine (frl_X12_leavesOut_14 (nt_sub hc (by decide) (by decide)) N _ _ _ hm ?_).trans e2
      intro σ11 w12 w13 hm
      obtain ⟨_, hm⟩ := gb_some hm
      by_cases q3 : (σ11 59 12) ≤ w12
      · have hm := (if_pos q3).symm.trans hm
        exact (ih _ _ hm hK87).trans ((sg_t hc (by decide)).trans rfl)
      · have hm := (if_neg q3).symm.trans hm
        obtain ⟨r16, σ17, h4, hm⟩ := bd_some hm
        have e4 := (fr_X12_closesUp (nt_sub hc (by decide) (by decide)) h4).trans ((sg_t hc (by decide)).trans rfl)
        exact (ih _ _ hm hK87).trans e4
theorem fr_X12_leavesOut {N n : Nat} {σ : Sg}  {r : Int32} {σ' : Sg} {c j : Nat} (hc : nt [68, 69, 70, 71, 73, 76] [(59, 12)] c j = true) (hm : f_X12_leavesOut N n σ  = some (r, σ')) : σ' c j = σ c j := by
  unfold f_X12_leavesOut at hm
  refine (frl_X12_leavesOut_2 (nt_sub hc (by decide) (by decide)) N _ _ hm ?_).trans rfl
  intro σ19 w20 hm
  cases hm
  exact rfl
theorem fr_X12_look {N n : Nat} {σ : Sg} {p0 : Int32} {p1 : Int32} {r : Int32} {σ' : Sg} {c j : Nat} (hc : nt [] [(59, 0)] c j = true) (hm : f_X12_look N n σ p0 p1 = some (r, σ')) : σ' c j = σ c j := by
  unfold f_X12_look at hm
  by_cases q1 : p0 < 0
  · have hm := (if_pos q1).symm.trans hm
    cases hm
    exact ((sg_u hc (by decide)).trans rfl)
  · have hm := (if_neg q1).symm.trans hm
    by_cases q2 : p0 ≤ 1
    · have hm := (if_pos q2).symm.trans hm
      by_cases q3 : p1 = 0
      · have hm := (if_pos q3).symm.trans hm
        obtain ⟨_, hm⟩ := gb_some hm
        cases hm
        exact ((sg_u hc (by decide)).trans rfl)
      · have hm := (if_neg q3).symm.trans hm
        by_cases q4 : p1 = 1
        · have hm := (if_pos q4).symm.trans hm
          obtain ⟨_, hm⟩ := gb_some hm
          cases hm
          exact ((sg_u hc (by decide)).trans rfl)
        · have hm := (if_neg q4).symm.trans hm
          by_cases q5 : p1 = 2
          · have hm := (if_pos q5).symm.trans hm
            obtain ⟨_, hm⟩ := gb_some hm
            cases hm
            exact ((sg_u hc (by decide)).trans rfl)
          · have hm := (if_neg q5).symm.trans hm
            by_cases q6 : p1 = 3
            · have hm := (if_pos q6).symm.trans hm
              obtain ⟨_, hm⟩ := gb_some hm
              cases hm
              exact ((sg_u hc (by decide)).trans rfl)
            · have hm := (if_neg q6).symm.trans hm
              by_cases q7 : p1 = 4
              · have hm := (if_pos q7).symm.trans hm
                obtain ⟨_, hm⟩ := gb_some hm
                cases hm
                exact ((sg_u hc (by decide)).trans rfl)
              · have hm := (if_neg q7).symm.trans hm
                cases hm
                exact ((sg_u hc (by decide)).trans rfl)
    · have hm := (if_neg q2).symm.trans hm
      cases hm
      exact ((sg_u hc (by decide)).trans rfl)
theorem fr_X12_op {N n : Nat} {σ : Sg} {p0 : Int32} {p1 : Int32} {p2 : Int32} {r : Int32} {σ' : Sg} {c j : Nat} (hc : nt [] [(59, 0)] c j = true) (hm : f_X12_op N n σ p0 p1 p2 = some (r, σ')) : σ' c j = σ c j := by
  unfold f_X12_op at hm
  by_cases q1 : (σ 59 37) = 0
  · have hm := (if_pos q1).symm.trans hm
    cases hm
    exact ((sg_u hc (by decide)).trans rfl)
  · have hm := (if_neg q1).symm.trans hm
    by_cases q2 : p0 < 0
    · have hm := (if_pos q2).symm.trans hm
      cases hm
      exact ((sg_u hc (by decide)).trans rfl)
    · have hm := (if_neg q2).symm.trans hm
      by_cases q3 : (σ 59 1) ≤ p0
      · have hm := (if_pos q3).symm.trans hm
        cases hm
        exact ((sg_u hc (by decide)).trans rfl)
      · have hm := (if_neg q3).symm.trans hm
        by_cases q4 : p1 < 0
        · have hm := (if_pos q4).symm.trans hm
          cases hm
          exact ((sg_u hc (by decide)).trans rfl)
        · have hm := (if_neg q4).symm.trans hm
          obtain ⟨_, hm⟩ := gb_some hm
          by_cases q5 : (σ 86 (ix p0)) ≤ p1
          · have hm := (if_pos q5).symm.trans hm
            cases hm
            exact ((sg_u hc (by decide)).trans rfl)
          · have hm := (if_neg q5).symm.trans hm
            by_cases q6 : p2 < 0
            · have hm := (if_pos q6).symm.trans hm
              cases hm
              exact ((sg_u hc (by decide)).trans rfl)
            · have hm := (if_neg q6).symm.trans hm
              by_cases q7 : 4 < p2
              · have hm := (if_pos q7).symm.trans hm
                cases hm
                exact ((sg_u hc (by decide)).trans rfl)
              · have hm := (if_neg q7).symm.trans hm
                obtain ⟨_, hm⟩ := gb_some hm
                obtain ⟨_, hm⟩ := gb_some hm
                cases hm
                exact ((sg_u hc (by decide)).trans rfl)
theorem fr_X12_push {N n : Nat} {σ : Sg} {p0 : Int32} {r : Int32} {σ' : Sg} {c j : Nat} (hc : nt [96, 97] [] c j = true) (hm : f_X12_push N n σ p0 = some (r, σ')) : σ' c j = σ c j := by
  unfold f_X12_push at hm
  obtain ⟨_, hm⟩ := gb_some hm
  obtain ⟨_, hm⟩ := gb_some hm
  obtain ⟨_, hm⟩ := gb_some hm
  obtain ⟨_, hm⟩ := gb_some hm
  obtain ⟨_, hm⟩ := gb_some hm
  cases hm
  exact ((sg_t hc (by decide)).trans ((sg_t hc (by decide)).trans rfl))
theorem fr_X12_over {N n : Nat} {σ : Sg} {p0 : Int32} {p1 : Int32} {r : Int32} {σ' : Sg} {c j : Nat} (hc : nt [89, 90, 93, 96, 97, 101] [] c j = true) (hm : f_X12_over N n σ p0 p1 = some (r, σ')) : σ' c j = σ c j := by
  unfold f_X12_over at hm
  obtain ⟨_, hm⟩ := gb_some hm
  obtain ⟨_, hm⟩ := gb_some hm
  obtain ⟨_, hm⟩ := gb_some hm
  by_cases q1 : ((σ 93 (ix p0)) - 1) = 0
  · have hm := (if_pos q1).symm.trans hm
    obtain ⟨_, hm⟩ := gb_some hm
    obtain ⟨r11, σ12, h2, hm⟩ := bd_some hm
    have e2 := (fr_X12_ends (nt_sub hc (by decide) (by decide)) h2).trans ((sg_t hc (by decide)).trans ((sg_t hc (by decide)).trans rfl))
    cases hm
    exact e2
  · have hm := (if_neg q1).symm.trans hm
    obtain ⟨_, hm⟩ := gb_some hm
    by_cases q3 : p0 = 0
    · have hm := (if_pos q3).symm.trans hm
      obtain ⟨r7, σ8, h4, hm⟩ := bd_some hm
      have e4 := (fr_X12_push (nt_sub hc (by decide) (by decide)) h4).trans ((sg_t hc (by decide)).trans ((sg_t hc (by decide)).trans rfl))
      cases hm
      exact e4
    · have hm := (if_neg q3).symm.trans hm
      cases hm
      exact ((sg_t hc (by decide)).trans ((sg_t hc (by decide)).trans rfl))
theorem fr_X12_peek {N n : Nat} {σ : Sg} {p0 : Int32} {p1 : Int32} {r : Int32} {σ' : Sg} {c j : Nat} (hc : nt [] [(59, 0)] c j = true) (hm : f_X12_peek N n σ p0 p1 = some (r, σ')) : σ' c j = σ c j := by
  unfold f_X12_peek at hm
  by_cases q1 : p0 < 0
  · have hm := (if_pos q1).symm.trans hm
    cases hm
    exact ((sg_u hc (by decide)).trans rfl)
  · have hm := (if_neg q1).symm.trans hm
    by_cases q2 : 2 ≤ p0
    · have hm := (if_pos q2).symm.trans hm
      cases hm
      exact ((sg_u hc (by decide)).trans rfl)
    · have hm := (if_neg q2).symm.trans hm
      obtain ⟨r3, σ4, h3, hm⟩ := bd_some hm
      have e3 := (fr_X12_isCell (nt_sub hc (by decide) (by decide)) h3).trans rfl
      by_cases q4 : r3 = 0
      · have hm := (if_pos q4).symm.trans hm
        cases hm
        exact ((sg_u hc (by decide)).trans e3)
      · have hm := (if_neg q4).symm.trans hm
        obtain ⟨_, hm⟩ := gb_some hm
        cases hm
        exact ((sg_u hc (by decide)).trans e3)
theorem fr_X12_places {N n : Nat} {σ : Sg} {p0 : Int32} {r : Int32} {σ' : Sg} {c j : Nat} (hc : nt [] [(59, 0)] c j = true) (hm : f_X12_places N n σ p0 = some (r, σ')) : σ' c j = σ c j := by
  unfold f_X12_places at hm
  obtain ⟨r1, σ2, h1, hm⟩ := bd_some hm
  have e1 := (fr_X12_isFunc (nt_sub hc (by decide) (by decide)) h1).trans ((sg_u hc (by decide)).trans rfl)
  by_cases q2 : r1 = 0
  · have hm := (if_pos q2).symm.trans hm
    cases hm
    exact e1
  · have hm := (if_neg q2).symm.trans hm
    obtain ⟨_, hm⟩ := gb_some hm
    cases hm
    exact e1
theorem fr_X12_readStack {N n : Nat} {σ : Sg}  {r : Int32} {σ' : Sg} {c j : Nat} (hc : nt [89, 93, 96, 97] [] c j = true) (hm : f_X12_readStack N n σ  = some (r, σ')) : σ' c j = σ c j := by
  unfold f_X12_readStack at hm
  obtain ⟨r1, σ2, h1, hm⟩ := bd_some hm
  have e1 := (fr_X12_pop (nt_sub hc (by decide) (by decide)) h1).trans rfl
  obtain ⟨r4, σ5, h2, hm⟩ := bd_some hm
  have e2 := (fr_X12_isCell (nt_sub hc (by decide) (by decide)) h2).trans e1
  by_cases q3 : r4 = 0
  · have hm := (if_pos q3).symm.trans hm
    obtain ⟨r12, σ13, h4, hm⟩ := bd_some hm
    have e4 := (fr_X12_ends (nt_sub hc (by decide) (by decide)) h4).trans e2
    cases hm
    exact e4
  · have hm := (if_neg q3).symm.trans hm
    obtain ⟨_, hm⟩ := gb_some hm
    obtain ⟨r9, σ10, h5, hm⟩ := bd_some hm
    have e5 := (fr_X12_push (nt_sub hc (by decide) (by decide)) h5).trans e2
    cases hm
    exact e5
theorem fr_X12_works {N n : Nat} {σ : Sg} {p0 : Int32} {p1 : Int32} {p2 : Int32} {r : Int32} {σ' : Sg} {c j : Nat} (hc : nt [] [] c j = true) (hm : f_X12_works N n σ p0 p1 p2 = some (r, σ')) : σ' c j = σ c j := by
  unfold f_X12_works at hm
  by_cases q1 : p0 = 3
  · have hm := (if_pos q1).symm.trans hm
    cases hm
    exact rfl
  · have hm := (if_neg q1).symm.trans hm
    by_cases q2 : p0 = 4
    · have hm := (if_pos q2).symm.trans hm
      cases hm
      exact rfl
    · have hm := (if_neg q2).symm.trans hm
      by_cases q3 : p0 = 5
      · have hm := (if_pos q3).symm.trans hm
        cases hm
        exact rfl
      · have hm := (if_neg q3).symm.trans hm
        by_cases q4 : p0 = 6
        · have hm := (if_pos q4).symm.trans hm
          obtain ⟨_, hm⟩ := gdz_some hm
          cases hm
          exact rfl
        · have hm := (if_neg q4).symm.trans hm
          by_cases q5 : p0 = 7
          · have hm := (if_pos q5).symm.trans hm
            by_cases q6 : p2 ≤ p1
            · have hm := (if_pos q6).symm.trans hm
              cases hm
              exact rfl
            · have hm := (if_neg q6).symm.trans hm
              cases hm
              exact rfl
          · have hm := (if_neg q5).symm.trans hm
            by_cases q7 : p1 = p2
            · have hm := (if_pos q7).symm.trans hm
              cases hm
              exact rfl
            · have hm := (if_neg q7).symm.trans hm
              cases hm
              exact rfl
theorem fr_X12_stepCall {N n : Nat} {σ : Sg} {p0 : Int32} {p1 : Int32} {p2 : Int32} {p3 : Int32} {r : Int32} {σ' : Sg} {c j : Nat} (hc : nt [89, 92, 93, 94, 95, 96, 97, 98, 99, 100] [] c j = true) (hm : f_X12_stepCall N n σ p0 p1 p2 p3 = some (r, σ')) : σ' c j = σ c j := by
  unfold f_X12_stepCall at hm
  by_cases q1 : p0 = 9
  · have hm := (if_pos q1).symm.trans hm
    obtain ⟨_, hm⟩ := gb_some hm
    obtain ⟨_, hm⟩ := gb_some hm
    cases hm
    exact ((sg_t hc (by decide)).trans rfl)
  · have hm := (if_neg q1).symm.trans hm
    by_cases q2 : p0 = 10
    · have hm := (if_pos q2).symm.trans hm
      obtain ⟨_, hm⟩ := gb_some hm
      obtain ⟨_, hm⟩ := gb_some hm
      cases hm
      exact ((sg_t hc (by decide)).trans rfl)
    · have hm := (if_neg q2).symm.trans hm
      by_cases q3 : p0 = 11
      · have hm := (if_pos q3).symm.trans hm
        obtain ⟨_, hm⟩ := gb_some hm
        obtain ⟨_, hm⟩ := gb_some hm
        cases hm
        exact ((sg_t hc (by decide)).trans rfl)
      · have hm := (if_neg q3).symm.trans hm
        by_cases q4 : p0 = 12
        · have hm := (if_pos q4).symm.trans hm
          obtain ⟨_, hm⟩ := gb_some hm
          obtain ⟨_, hm⟩ := gb_some hm
          cases hm
          exact ((sg_t hc (by decide)).trans rfl)
        · have hm := (if_neg q4).symm.trans hm
          by_cases q5 : p0 = 14
          · have hm := (if_pos q5).symm.trans hm
            obtain ⟨_, hm⟩ := gb_some hm
            obtain ⟨_, hm⟩ := gb_some hm
            cases hm
            exact ((sg_t hc (by decide)).trans rfl)
          · have hm := (if_neg q5).symm.trans hm
            obtain ⟨_, hm⟩ := gb_some hm
            by_cases q6 : (σ 93 (ix 1)) = 30
            · have hm := (if_pos q6).symm.trans hm
              obtain ⟨r11, σ12, h7, hm⟩ := bd_some hm
              have e7 := (fr_X12_ends (nt_sub hc (by decide) (by decide)) h7).trans rfl
              cases hm
              exact e7
            · have hm := (if_neg q6).symm.trans hm
              obtain ⟨r8, σ9, h8, hm⟩ := bd_some hm
              have e8 := (fr_X12_enters (nt_sub hc (by decide) (by decide)) h8).trans rfl
              cases hm
              exact e8
theorem fr_X12_stepRegisters {N n : Nat} {σ : Sg}  {r : Int32} {σ' : Sg} {c j : Nat} (hc : nt [88, 89, 90, 91, 92, 93, 94, 95, 96, 97, 98, 99, 100, 101] [] c j = true) (hm : f_X12_stepRegisters N n σ  = some (r, σ')) : σ' c j = σ c j := by
  unfold f_X12_stepRegisters at hm
  obtain ⟨_, hm⟩ := gb_some hm
  by_cases q1 : (σ 93 (ix 1)) = 0
  · have hm := (if_pos q1).symm.trans hm
    obtain ⟨r88, σ89, h2, hm⟩ := bd_some hm
    have e2 := (fr_X12_enters (nt_sub hc (by decide) (by decide)) h2).trans rfl
    obtain ⟨_, hm⟩ := gb_some hm
    obtain ⟨_, hm⟩ := gb_some hm
    obtain ⟨_, hm⟩ := gb_some hm
    obtain ⟨_, hm⟩ := gb_some hm
    obtain ⟨_, hm⟩ := gb_some hm
    obtain ⟨_, hm⟩ := gb_some hm
    obtain ⟨_, hm⟩ := gb_some hm
    obtain ⟨_, hm⟩ := gb_some hm
    obtain ⟨_, hm⟩ := gb_some hm
    obtain ⟨_, hm⟩ := gb_some hm
    obtain ⟨_, hm⟩ := gb_some hm
    obtain ⟨_, hm⟩ := gb_some hm
    by_cases q3 : (σ89 84 (ix (5 * ((σ89 85 (ix (σ89 94 (ix ((30 + (σ89 93 (ix 1))) - 1))))) + (σ89 95 (ix ((30 + (σ89 93 (ix 1))) - 1))))))) = 0
    · have hm := (if_pos q3).symm.trans hm
      obtain ⟨_, hm⟩ := gb_some hm
      cases hm
      exact ((sg_t hc (by decide)).trans ((sg_t hc (by decide)).trans ((sg_t hc (by decide)).trans e2)))
    · have hm := (if_neg q3).symm.trans hm
      by_cases q4 : (σ89 84 (ix (5 * ((σ89 85 (ix (σ89 94 (ix ((30 + (σ89 93 (ix 1))) - 1))))) + (σ89 95 (ix ((30 + (σ89 93 (ix 1))) - 1))))))) = 1
      · have hm := (if_pos q4).symm.trans hm
        obtain ⟨_, hm⟩ := gb_some hm
        obtain ⟨_, hm⟩ := gb_some hm
        cases hm
        exact ((sg_t hc (by decide)).trans ((sg_t hc (by decide)).trans ((sg_t hc (by decide)).trans e2)))
      · have hm := (if_neg q4).symm.trans hm
        by_cases q5 : (σ89 84 (ix (5 * ((σ89 85 (ix (σ89 94 (ix ((30 + (σ89 93 (ix 1))) - 1))))) + (σ89 95 (ix ((30 + (σ89 93 (ix 1))) - 1))))))) = 2
        · have hm := (if_pos q5).symm.trans hm
          obtain ⟨_, hm⟩ := gb_some hm
          by_cases q6 : (σ89 84 (ix ((5 * ((σ89 85 (ix (σ89 94 (ix ((30 + (σ89 93 (ix 1))) - 1))))) + (σ89 95 (ix ((30 + (σ89 93 (ix 1))) - 1))))) + 4))) = 6
          · have hm := (if_pos q6).symm.trans hm
            obtain ⟨_, hm⟩ := gb_some hm
            by_cases q7 : (σ89 96 (ix ((24 * ((30 + (σ89 93 (ix 1))) - 1)) + (σ89 84 (ix ((5 * ((σ89 85 (ix (σ89 94 (ix ((30 + (σ89 93 (ix 1))) - 1))))) + (σ89 95 (ix ((30 + (σ89 93 (ix 1))) - 1))))) + 3)))))) = 0
            · have hm := (if_pos q7).symm.trans hm
              obtain ⟨r127, σ128, h8, hm⟩ := bd_some hm
              have e8 := (fr_X12_ends (nt_sub hc (by decide) (by decide)) h8).trans ((sg_t hc (by decide)).trans ((sg_t hc (by decide)).trans e2))
              cases hm
              exact e8
            · have hm := (if_neg q7).symm.trans hm
              obtain ⟨_, hm⟩ := gb_some hm
              obtain ⟨_, hm⟩ := gb_some hm
              obtain ⟨_, hm⟩ := gb_some hm
              obtain ⟨r123, σ124, h9, hm⟩ := bd_some hm
              have e9 := (fr_X12_works (nt_sub hc (by decide) (by decide)) h9).trans ((sg_t hc (by decide)).trans ((sg_t hc (by decide)).trans e2))
              obtain ⟨_, hm⟩ := gb_some hm
              cases hm
              exact ((sg_t hc (by decide)).trans e9)
          · have hm := (if_neg q6).symm.trans hm
            obtain ⟨_, hm⟩ := gb_some hm
            obtain ⟨_, hm⟩ := gb_some hm
            obtain ⟨_, hm⟩ := gb_some hm
            obtain ⟨r114, σ115, h10, hm⟩ := bd_some hm
            have e10 := (fr_X12_works (nt_sub hc (by decide) (by decide)) h10).trans ((sg_t hc (by decide)).trans ((sg_t hc (by decide)).trans e2))
            obtain ⟨_, hm⟩ := gb_some hm
            cases hm
            exact ((sg_t hc (by decide)).trans e10)
        · have hm := (if_neg q5).symm.trans hm
          by_cases q11 : (σ89 84 (ix (5 * ((σ89 85 (ix (σ89 94 (ix ((30 + (σ89 93 (ix 1))) - 1))))) + (σ89 95 (ix ((30 + (σ89 93 (ix 1))) - 1))))))) = 3
          · have hm := (if_pos q11).symm.trans hm
            obtain ⟨_, hm⟩ := gb_some hm
            obtain ⟨_, hm⟩ := gb_some hm
            obtain ⟨_, hm⟩ := gb_some hm
            obtain ⟨_, hm⟩ := gb_some hm
            cases hm
            exact ((sg_t hc (by decide)).trans ((sg_t hc (by decide)).trans ((sg_t hc (by decide)).trans ((sg_t hc (by decide)).trans e2))))
          · have hm := (if_neg q11).symm.trans hm
            by_cases q12 : (σ89 84 (ix (5 * ((σ89 85 (ix (σ89 94 (ix ((30 + (σ89 93 (ix 1))) - 1))))) + (σ89 95 (ix ((30 + (σ89 93 (ix 1))) - 1))))))) = 4
            · have hm := (if_pos q12).symm.trans hm
              obtain ⟨_, hm⟩ := gb_some hm
              cases hm
              exact ((sg_t hc (by decide)).trans ((sg_t hc (by decide)).trans ((sg_t hc (by decide)).trans e2)))
            · have hm := (if_neg q12).symm.trans hm
              by_cases q13 : (σ89 84 (ix (5 * ((σ89 85 (ix (σ89 94 (ix ((30 + (σ89 93 (ix 1))) - 1))))) + (σ89 95 (ix ((30 + (σ89 93 (ix 1))) - 1))))))) = 5
              · have hm := (if_pos q13).symm.trans hm
                obtain ⟨_, hm⟩ := gb_some hm
                by_cases q14 : (σ89 96 (ix ((24 * ((30 + (σ89 93 (ix 1))) - 1)) + (σ89 84 (ix ((5 * ((σ89 85 (ix (σ89 94 (ix ((30 + (σ89 93 (ix 1))) - 1))))) + (σ89 95 (ix ((30 + (σ89 93 (ix 1))) - 1))))) + 1)))))) = 0
                · have hm := (if_pos q14).symm.trans hm
                  obtain ⟨_, hm⟩ := gb_some hm
                  cases hm
                  exact ((sg_t hc (by decide)).trans ((sg_t hc (by decide)).trans ((sg_t hc (by decide)).trans e2)))
                · have hm := (if_neg q14).symm.trans hm
                  obtain ⟨_, hm⟩ := gb_some hm
                  obtain ⟨_, hm⟩ := gb_some hm
                  cases hm
                  exact ((sg_t hc (by decide)).trans ((sg_t hc (by decide)).trans ((sg_t hc (by decide)).trans e2)))
              · have hm := (if_neg q13).symm.trans hm
                by_cases q15 : (σ89 84 (ix (5 * ((σ89 85 (ix (σ89 94 (ix ((30 + (σ89 93 (ix 1))) - 1))))) + (σ89 95 (ix ((30 + (σ89 93 (ix 1))) - 1))))))) = 6
                · have hm := (if_pos q15).symm.trans hm
                  obtain ⟨_, hm⟩ := gb_some hm
                  obtain ⟨r145, σ146, h16, hm⟩ := bd_some hm
                  have e16 := (fr_X12_over (nt_sub hc (by decide) (by decide)) h16).trans ((sg_t hc (by decide)).trans ((sg_t hc (by decide)).trans e2))
                  cases hm
                  exact e16
                · have hm := (if_neg q15).symm.trans hm
                  by_cases q17 : (σ89 84 (ix (5 * ((σ89 85 (ix (σ89 94 (ix ((30 + (σ89 93 (ix 1))) - 1))))) + (σ89 95 (ix ((30 + (σ89 93 (ix 1))) - 1))))))) = 7
                  · have hm := (if_pos q17).symm.trans hm
                    obtain ⟨_, hm⟩ := gb_some hm
                    obtain ⟨r150, σ151, h18, hm⟩ := bd_some hm
                    have e18 := (fr_X12_isCell (nt_sub hc (by decide) (by decide)) h18).trans ((sg_t hc (by decide)).trans ((sg_t hc (by decide)).trans e2))
                    by_cases q19 : r150 = 0
                    · have hm := (if_pos q19).symm.trans hm
                      obtain ⟨r157, σ158, h20, hm⟩ := bd_some hm
                      have e20 := (fr_X12_ends (nt_sub hc (by decide) (by decide)) h20).trans e18
                      cases hm
                      exact e20
                    · have hm := (if_neg q19).symm.trans hm
                      obtain ⟨_, hm⟩ := gb_some hm
                      obtain ⟨_, hm⟩ := gb_some hm
                      obtain ⟨_, hm⟩ := gb_some hm
                      cases hm
                      exact ((sg_t hc (by decide)).trans e18)
                  · have hm := (if_neg q17).symm.trans hm
                    by_cases q21 : (σ89 84 (ix (5 * ((σ89 85 (ix (σ89 94 (ix ((30 + (σ89 93 (ix 1))) - 1))))) + (σ89 95 (ix ((30 + (σ89 93 (ix 1))) - 1))))))) = 8
                    · have hm := (if_pos q21).symm.trans hm
                      obtain ⟨_, hm⟩ := gb_some hm
                      obtain ⟨r162, σ163, h22, hm⟩ := bd_some hm
                      have e22 := (fr_X12_isCell (nt_sub hc (by decide) (by decide)) h22).trans ((sg_t hc (by decide)).trans ((sg_t hc (by decide)).trans e2))
                      by_cases q23 : r162 = 0
                      · have hm := (if_pos q23).symm.trans hm
                        obtain ⟨r169, σ170, h24, hm⟩ := bd_some hm
                        have e24 := (fr_X12_ends (nt_sub hc (by decide) (by decide)) h24).trans e22
                        cases hm
                        exact e24
                      · have hm := (if_neg q23).symm.trans hm
                        obtain ⟨_, hm⟩ := gb_some hm
                        obtain ⟨_, hm⟩ := gb_some hm
                        obtain ⟨_, hm⟩ := gb_some hm
                        cases hm
                        exact ((sg_t hc (by decide)).trans e22)
                    · have hm := (if_neg q21).symm.trans hm
                      obtain ⟨_, hm⟩ := gb_some hm
                      obtain ⟨r173, σ174, h25, hm⟩ := bd_some hm
                      have e25 := (fr_X12_stepCall (nt_sub hc (by decide) (by decide)) h25).trans ((sg_t hc (by decide)).trans ((sg_t hc (by decide)).trans e2))
                      cases hm
                      exact e25
  · have hm := (if_neg q1).symm.trans hm
    obtain ⟨_, hm⟩ := gb_some hm
    obtain ⟨_, hm⟩ := gb_some hm
    obtain ⟨_, hm⟩ := gb_some hm
    obtain ⟨_, hm⟩ := gb_some hm
    obtain ⟨_, hm⟩ := gb_some hm
    obtain ⟨_, hm⟩ := gb_some hm
    obtain ⟨_, hm⟩ := gb_some hm
    obtain ⟨_, hm⟩ := gb_some hm
    obtain ⟨_, hm⟩ := gb_some hm
    obtain ⟨_, hm⟩ := gb_some hm
    obtain ⟨_, hm⟩ := gb_some hm
    obtain ⟨_, hm⟩ := gb_some hm
    by_cases q26 : (σ 84 (ix (5 * ((σ 85 (ix (σ 94 (ix ((30 + (σ 93 (ix 1))) - 1))))) + (σ 95 (ix ((30 + (σ 93 (ix 1))) - 1))))))) = 0
    · have hm := (if_pos q26).symm.trans hm
      obtain ⟨_, hm⟩ := gb_some hm
      cases hm
      exact ((sg_t hc (by decide)).trans ((sg_t hc (by decide)).trans ((sg_t hc (by decide)).trans rfl)))
    · have hm := (if_neg q26).symm.trans hm
      by_cases q27 : (σ 84 (ix (5 * ((σ 85 (ix (σ 94 (ix ((30 + (σ 93 (ix 1))) - 1))))) + (σ 95 (ix ((30 + (σ 93 (ix 1))) - 1))))))) = 1
      · have hm := (if_pos q27).symm.trans hm
        obtain ⟨_, hm⟩ := gb_some hm
        obtain ⟨_, hm⟩ := gb_some hm
        cases hm
        exact ((sg_t hc (by decide)).trans ((sg_t hc (by decide)).trans ((sg_t hc (by decide)).trans rfl)))
      · have hm := (if_neg q27).symm.trans hm
        by_cases q28 : (σ 84 (ix (5 * ((σ 85 (ix (σ 94 (ix ((30 + (σ 93 (ix 1))) - 1))))) + (σ 95 (ix ((30 + (σ 93 (ix 1))) - 1))))))) = 2
        · have hm := (if_pos q28).symm.trans hm
          obtain ⟨_, hm⟩ := gb_some hm
          by_cases q29 : (σ 84 (ix ((5 * ((σ 85 (ix (σ 94 (ix ((30 + (σ 93 (ix 1))) - 1))))) + (σ 95 (ix ((30 + (σ 93 (ix 1))) - 1))))) + 4))) = 6
          · have hm := (if_pos q29).symm.trans hm
            obtain ⟨_, hm⟩ := gb_some hm
            by_cases q30 : (σ 96 (ix ((24 * ((30 + (σ 93 (ix 1))) - 1)) + (σ 84 (ix ((5 * ((σ 85 (ix (σ 94 (ix ((30 + (σ 93 (ix 1))) - 1))))) + (σ 95 (ix ((30 + (σ 93 (ix 1))) - 1))))) + 3)))))) = 0
            · have hm := (if_pos q30).symm.trans hm
              obtain ⟨r39, σ40, h31, hm⟩ := bd_some hm
              have e31 := (fr_X12_ends (nt_sub hc (by decide) (by decide)) h31).trans ((sg_t hc (by decide)).trans ((sg_t hc (by decide)).trans rfl))
              cases hm
              exact e31
            · have hm := (if_neg q30).symm.trans hm
              obtain ⟨_, hm⟩ := gb_some hm
              obtain ⟨_, hm⟩ := gb_some hm
              obtain ⟨_, hm⟩ := gb_some hm
              obtain ⟨r35, σ36, h32, hm⟩ := bd_some hm
              have e32 := (fr_X12_works (nt_sub hc (by decide) (by decide)) h32).trans ((sg_t hc (by decide)).trans ((sg_t hc (by decide)).trans rfl))
              obtain ⟨_, hm⟩ := gb_some hm
              cases hm
              exact ((sg_t hc (by decide)).trans e32)
          · have hm := (if_neg q29).symm.trans hm
            obtain ⟨_, hm⟩ := gb_some hm
            obtain ⟨_, hm⟩ := gb_some hm
            obtain ⟨_, hm⟩ := gb_some hm
            obtain ⟨r26, σ27, h33, hm⟩ := bd_some hm
            have e33 := (fr_X12_works (nt_sub hc (by decide) (by decide)) h33).trans ((sg_t hc (by decide)).trans ((sg_t hc (by decide)).trans rfl))
            obtain ⟨_, hm⟩ := gb_some hm
            cases hm
            exact ((sg_t hc (by decide)).trans e33)
        · have hm := (if_neg q28).symm.trans hm
          by_cases q34 : (σ 84 (ix (5 * ((σ 85 (ix (σ 94 (ix ((30 + (σ 93 (ix 1))) - 1))))) + (σ 95 (ix ((30 + (σ 93 (ix 1))) - 1))))))) = 3
          · have hm := (if_pos q34).symm.trans hm
            obtain ⟨_, hm⟩ := gb_some hm
            obtain ⟨_, hm⟩ := gb_some hm
            obtain ⟨_, hm⟩ := gb_some hm
            obtain ⟨_, hm⟩ := gb_some hm
            cases hm
            exact ((sg_t hc (by decide)).trans ((sg_t hc (by decide)).trans ((sg_t hc (by decide)).trans ((sg_t hc (by decide)).trans rfl))))
          · have hm := (if_neg q34).symm.trans hm
            by_cases q35 : (σ 84 (ix (5 * ((σ 85 (ix (σ 94 (ix ((30 + (σ 93 (ix 1))) - 1))))) + (σ 95 (ix ((30 + (σ 93 (ix 1))) - 1))))))) = 4
            · have hm := (if_pos q35).symm.trans hm
              obtain ⟨_, hm⟩ := gb_some hm
              cases hm
              exact ((sg_t hc (by decide)).trans ((sg_t hc (by decide)).trans ((sg_t hc (by decide)).trans rfl)))
            · have hm := (if_neg q35).symm.trans hm
              by_cases q36 : (σ 84 (ix (5 * ((σ 85 (ix (σ 94 (ix ((30 + (σ 93 (ix 1))) - 1))))) + (σ 95 (ix ((30 + (σ 93 (ix 1))) - 1))))))) = 5
              · have hm := (if_pos q36).symm.trans hm
                obtain ⟨_, hm⟩ := gb_some hm
                by_cases q37 : (σ 96 (ix ((24 * ((30 + (σ 93 (ix 1))) - 1)) + (σ 84 (ix ((5 * ((σ 85 (ix (σ 94 (ix ((30 + (σ 93 (ix 1))) - 1))))) + (σ 95 (ix ((30 + (σ 93 (ix 1))) - 1))))) + 1)))))) = 0
                · have hm := (if_pos q37).symm.trans hm
                  obtain ⟨_, hm⟩ := gb_some hm
                  cases hm
                  exact ((sg_t hc (by decide)).trans ((sg_t hc (by decide)).trans ((sg_t hc (by decide)).trans rfl)))
                · have hm := (if_neg q37).symm.trans hm
                  obtain ⟨_, hm⟩ := gb_some hm
                  obtain ⟨_, hm⟩ := gb_some hm
                  cases hm
                  exact ((sg_t hc (by decide)).trans ((sg_t hc (by decide)).trans ((sg_t hc (by decide)).trans rfl)))
              · have hm := (if_neg q36).symm.trans hm
                by_cases q38 : (σ 84 (ix (5 * ((σ 85 (ix (σ 94 (ix ((30 + (σ 93 (ix 1))) - 1))))) + (σ 95 (ix ((30 + (σ 93 (ix 1))) - 1))))))) = 6
                · have hm := (if_pos q38).symm.trans hm
                  obtain ⟨_, hm⟩ := gb_some hm
                  obtain ⟨r57, σ58, h39, hm⟩ := bd_some hm
                  have e39 := (fr_X12_over (nt_sub hc (by decide) (by decide)) h39).trans ((sg_t hc (by decide)).trans ((sg_t hc (by decide)).trans rfl))
                  cases hm
                  exact e39
                · have hm := (if_neg q38).symm.trans hm
                  by_cases q40 : (σ 84 (ix (5 * ((σ 85 (ix (σ 94 (ix ((30 + (σ 93 (ix 1))) - 1))))) + (σ 95 (ix ((30 + (σ 93 (ix 1))) - 1))))))) = 7
                  · have hm := (if_pos q40).symm.trans hm
                    obtain ⟨_, hm⟩ := gb_some hm
                    obtain ⟨r62, σ63, h41, hm⟩ := bd_some hm
                    have e41 := (fr_X12_isCell (nt_sub hc (by decide) (by decide)) h41).trans ((sg_t hc (by decide)).trans ((sg_t hc (by decide)).trans rfl))
                    by_cases q42 : r62 = 0
                    · have hm := (if_pos q42).symm.trans hm
                      obtain ⟨r69, σ70, h43, hm⟩ := bd_some hm
                      have e43 := (fr_X12_ends (nt_sub hc (by decide) (by decide)) h43).trans e41
                      cases hm
                      exact e43
                    · have hm := (if_neg q42).symm.trans hm
                      obtain ⟨_, hm⟩ := gb_some hm
                      obtain ⟨_, hm⟩ := gb_some hm
                      obtain ⟨_, hm⟩ := gb_some hm
                      cases hm
                      exact ((sg_t hc (by decide)).trans e41)
                  · have hm := (if_neg q40).symm.trans hm
                    by_cases q44 : (σ 84 (ix (5 * ((σ 85 (ix (σ 94 (ix ((30 + (σ 93 (ix 1))) - 1))))) + (σ 95 (ix ((30 + (σ 93 (ix 1))) - 1))))))) = 8
                    · have hm := (if_pos q44).symm.trans hm
                      obtain ⟨_, hm⟩ := gb_some hm
                      obtain ⟨r74, σ75, h45, hm⟩ := bd_some hm
                      have e45 := (fr_X12_isCell (nt_sub hc (by decide) (by decide)) h45).trans ((sg_t hc (by decide)).trans ((sg_t hc (by decide)).trans rfl))
                      by_cases q46 : r74 = 0
                      · have hm := (if_pos q46).symm.trans hm
                        obtain ⟨r81, σ82, h47, hm⟩ := bd_some hm
                        have e47 := (fr_X12_ends (nt_sub hc (by decide) (by decide)) h47).trans e45
                        cases hm
                        exact e47
                      · have hm := (if_neg q46).symm.trans hm
                        obtain ⟨_, hm⟩ := gb_some hm
                        obtain ⟨_, hm⟩ := gb_some hm
                        obtain ⟨_, hm⟩ := gb_some hm
                        cases hm
                        exact ((sg_t hc (by decide)).trans e45)
                    · have hm := (if_neg q44).symm.trans hm
                      obtain ⟨_, hm⟩ := gb_some hm
                      obtain ⟨r85, σ86, h48, hm⟩ := bd_some hm
                      have e48 := (fr_X12_stepCall (nt_sub hc (by decide) (by decide)) h48).trans ((sg_t hc (by decide)).trans ((sg_t hc (by decide)).trans rfl))
                      cases hm
                      exact e48
theorem fr_X12_swapTop {N n : Nat} {σ : Sg}  {r : Int32} {σ' : Sg} {c j : Nat} (hc : nt [96, 97] [] c j = true) (hm : f_X12_swapTop N n σ  = some (r, σ')) : σ' c j = σ c j := by
  unfold f_X12_swapTop at hm
  obtain ⟨r1, σ2, h1, hm⟩ := bd_some hm
  have e1 := (fr_X12_pop (nt_sub hc (by decide) (by decide)) h1).trans rfl
  obtain ⟨r4, σ5, h2, hm⟩ := bd_some hm
  have e2 := (fr_X12_pop (nt_sub hc (by decide) (by decide)) h2).trans e1
  obtain ⟨r7, σ8, h3, hm⟩ := bd_some hm
  have e3 := (fr_X12_push (nt_sub hc (by decide) (by decide)) h3).trans e2
  obtain ⟨r10, σ11, h4, hm⟩ := bd_some hm
  have e4 := (fr_X12_push (nt_sub hc (by decide) (by decide)) h4).trans e3
  cases hm
  exact e4
theorem fr_X12_writeStack {N n : Nat} {σ : Sg}  {r : Int32} {σ' : Sg} {c j : Nat} (hc : nt [88, 89, 93, 97] [] c j = true) (hm : f_X12_writeStack N n σ  = some (r, σ')) : σ' c j = σ c j := by
  unfold f_X12_writeStack at hm
  obtain ⟨r1, σ2, h1, hm⟩ := bd_some hm
  have e1 := (fr_X12_pop (nt_sub hc (by decide) (by decide)) h1).trans rfl
  obtain ⟨r4, σ5, h2, hm⟩ := bd_some hm
  have e2 := (fr_X12_pop (nt_sub hc (by decide) (by decide)) h2).trans e1
  obtain ⟨r7, σ8, h3, hm⟩ := bd_some hm
  have e3 := (fr_X12_isCell (nt_sub hc (by decide) (by decide)) h3).trans e2
  by_cases q4 : r7 = 0
  · have hm := (if_pos q4).symm.trans hm
    obtain ⟨r12, σ13, h5, hm⟩ := bd_some hm
    have e5 := (fr_X12_ends (nt_sub hc (by decide) (by decide)) h5).trans e3
    cases hm
    exact e5
  · have hm := (if_neg q4).symm.trans hm
    obtain ⟨_, hm⟩ := gb_some hm
    cases hm
    exact ((sg_t hc (by decide)).trans e3)
theorem fr_X12_workStack {N n : Nat} {σ : Sg} {p0 : Int32} {r : Int32} {σ' : Sg} {c j : Nat} (hc : nt [89, 93, 96, 97] [] c j = true) (hm : f_X12_workStack N n σ p0 = some (r, σ')) : σ' c j = σ c j := by
  unfold f_X12_workStack at hm
  obtain ⟨r1, σ2, h1, hm⟩ := bd_some hm
  have e1 := (fr_X12_pop (nt_sub hc (by decide) (by decide)) h1).trans rfl
  obtain ⟨r4, σ5, h2, hm⟩ := bd_some hm
  have e2 := (fr_X12_pop (nt_sub hc (by decide) (by decide)) h2).trans e1
  by_cases q3 : p0 = 6
  · have hm := (if_pos q3).symm.trans hm
    by_cases q4 : r1 = 0
    · have hm := (if_pos q4).symm.trans hm
      obtain ⟨r21, σ22, h5, hm⟩ := bd_some hm
      have e5 := (fr_X12_ends (nt_sub hc (by decide) (by decide)) h5).trans e2
      cases hm
      exact e5
    · have hm := (if_neg q4).symm.trans hm
      obtain ⟨r15, σ16, h6, hm⟩ := bd_some hm
      have e6 := (fr_X12_works (nt_sub hc (by decide) (by decide)) h6).trans e2
      obtain ⟨r18, σ19, h7, hm⟩ := bd_some hm
      have e7 := (fr_X12_push (nt_sub hc (by decide) (by decide)) h7).trans e6
      cases hm
      exact e7
  · have hm := (if_neg q3).symm.trans hm
    obtain ⟨r8, σ9, h8, hm⟩ := bd_some hm
    have e8 := (fr_X12_works (nt_sub hc (by decide) (by decide)) h8).trans e2
    obtain ⟨r11, σ12, h9, hm⟩ := bd_some hm
    have e9 := (fr_X12_push (nt_sub hc (by decide) (by decide)) h9).trans e8
    cases hm
    exact e9
theorem fr_X12_stepStack {N n : Nat} {σ : Sg}  {r : Int32} {σ' : Sg} {c j : Nat} (hc : nt [88, 89, 90, 91, 92, 93, 94, 95, 96, 97, 98, 99, 100, 101] [] c j = true) (hm : f_X12_stepStack N n σ  = some (r, σ')) : σ' c j = σ c j := by
  unfold f_X12_stepStack at hm
  obtain ⟨_, hm⟩ := gb_some hm
  by_cases q1 : (σ 93 (ix 0)) = 0
  · have hm := (if_pos q1).symm.trans hm
    obtain ⟨r73, σ74, h2, hm⟩ := bd_some hm
    have e2 := (fr_X12_enters (nt_sub hc (by decide) (by decide)) h2).trans rfl
    obtain ⟨_, hm⟩ := gb_some hm
    obtain ⟨_, hm⟩ := gb_some hm
    obtain ⟨_, hm⟩ := gb_some hm
    obtain ⟨_, hm⟩ := gb_some hm
    obtain ⟨_, hm⟩ := gb_some hm
    obtain ⟨_, hm⟩ := gb_some hm
    obtain ⟨_, hm⟩ := gb_some hm
    obtain ⟨_, hm⟩ := gb_some hm
    obtain ⟨_, hm⟩ := gb_some hm
    obtain ⟨_, hm⟩ := gb_some hm
    by_cases q3 : (σ74 64 (ix ((σ74 62 (ix (σ74 94 (ix ((σ74 93 (ix 0)) - 1))))) + (σ74 95 (ix ((σ74 93 (ix 0)) - 1)))))) = 0
    · have hm := (if_pos q3).symm.trans hm
      obtain ⟨r87, σ88, h4, hm⟩ := bd_some hm
      have e4 := (fr_X12_push (nt_sub hc (by decide) (by decide)) h4).trans ((sg_t hc (by decide)).trans ((sg_t hc (by decide)).trans e2))
      cases hm
      exact e4
    · have hm := (if_neg q3).symm.trans hm
      by_cases q5 : (σ74 64 (ix ((σ74 62 (ix (σ74 94 (ix ((σ74 93 (ix 0)) - 1))))) + (σ74 95 (ix ((σ74 93 (ix 0)) - 1)))))) = 1
      · have hm := (if_pos q5).symm.trans hm
        obtain ⟨_, hm⟩ := gb_some hm
        obtain ⟨r92, σ93, h6, hm⟩ := bd_some hm
        have e6 := (fr_X12_push (nt_sub hc (by decide) (by decide)) h6).trans ((sg_t hc (by decide)).trans ((sg_t hc (by decide)).trans e2))
        cases hm
        exact e6
      · have hm := (if_neg q5).symm.trans hm
        by_cases q7 : (σ74 64 (ix ((σ74 62 (ix (σ74 94 (ix ((σ74 93 (ix 0)) - 1))))) + (σ74 95 (ix ((σ74 93 (ix 0)) - 1)))))) = 2
        · have hm := (if_pos q7).symm.trans hm
          obtain ⟨r96, σ97, h8, hm⟩ := bd_some hm
          have e8 := (fr_X12_pop (nt_sub hc (by decide) (by decide)) h8).trans ((sg_t hc (by decide)).trans ((sg_t hc (by decide)).trans e2))
          obtain ⟨_, hm⟩ := gb_some hm
          cases hm
          exact ((sg_t hc (by decide)).trans e8)
        · have hm := (if_neg q7).symm.trans hm
          by_cases q9 : (σ74 64 (ix ((σ74 62 (ix (σ74 94 (ix ((σ74 93 (ix 0)) - 1))))) + (σ74 95 (ix ((σ74 93 (ix 0)) - 1)))))) = 9
          · have hm := (if_pos q9).symm.trans hm
            obtain ⟨_, hm⟩ := gb_some hm
            obtain ⟨_, hm⟩ := gb_some hm
            obtain ⟨r103, σ104, h10, hm⟩ := bd_some hm
            have e10 := (fr_X12_push (nt_sub hc (by decide) (by decide)) h10).trans ((sg_t hc (by decide)).trans ((sg_t hc (by decide)).trans e2))
            cases hm
            exact e10
          · have hm := (if_neg q9).symm.trans hm
            by_cases q11 : (σ74 64 (ix ((σ74 62 (ix (σ74 94 (ix ((σ74 93 (ix 0)) - 1))))) + (σ74 95 (ix ((σ74 93 (ix 0)) - 1)))))) = 10
            · have hm := (if_pos q11).symm.trans hm
              obtain ⟨r107, σ108, h12, hm⟩ := bd_some hm
              have e12 := (fr_X12_swapTop (nt_sub hc (by decide) (by decide)) h12).trans ((sg_t hc (by decide)).trans ((sg_t hc (by decide)).trans e2))
              cases hm
              exact e12
            · have hm := (if_neg q11).symm.trans hm
              by_cases q13 : (σ74 64 (ix ((σ74 62 (ix (σ74 94 (ix ((σ74 93 (ix 0)) - 1))))) + (σ74 95 (ix ((σ74 93 (ix 0)) - 1)))))) = 11
              · have hm := (if_pos q13).symm.trans hm
                obtain ⟨_, hm⟩ := gb_some hm
                obtain ⟨_, hm⟩ := gb_some hm
                cases hm
                exact ((sg_t hc (by decide)).trans ((sg_t hc (by decide)).trans ((sg_t hc (by decide)).trans e2)))
              · have hm := (if_neg q13).symm.trans hm
                by_cases q14 : (σ74 64 (ix ((σ74 62 (ix (σ74 94 (ix ((σ74 93 (ix 0)) - 1))))) + (σ74 95 (ix ((σ74 93 (ix 0)) - 1)))))) = 12
                · have hm := (if_pos q14).symm.trans hm
                  obtain ⟨_, hm⟩ := gb_some hm
                  cases hm
                  exact ((sg_t hc (by decide)).trans ((sg_t hc (by decide)).trans ((sg_t hc (by decide)).trans e2)))
                · have hm := (if_neg q14).symm.trans hm
                  by_cases q15 : (σ74 64 (ix ((σ74 62 (ix (σ74 94 (ix ((σ74 93 (ix 0)) - 1))))) + (σ74 95 (ix ((σ74 93 (ix 0)) - 1)))))) = 13
                  · have hm := (if_pos q15).symm.trans hm
                    obtain ⟨r116, σ117, h16, hm⟩ := bd_some hm
                    have e16 := (fr_X12_pop (nt_sub hc (by decide) (by decide)) h16).trans ((sg_t hc (by decide)).trans ((sg_t hc (by decide)).trans e2))
                    by_cases q17 : r116 = 0
                    · have hm := (if_pos q17).symm.trans hm
                      obtain ⟨_, hm⟩ := gb_some hm
                      cases hm
                      exact ((sg_t hc (by decide)).trans e16)
                    · have hm := (if_neg q17).symm.trans hm
                      obtain ⟨_, hm⟩ := gb_some hm
                      obtain ⟨_, hm⟩ := gb_some hm
                      cases hm
                      exact ((sg_t hc (by decide)).trans e16)
                  · have hm := (if_neg q15).symm.trans hm
                    by_cases q18 : (σ74 64 (ix ((σ74 62 (ix (σ74 94 (ix ((σ74 93 (ix 0)) - 1))))) + (σ74 95 (ix ((σ74 93 (ix 0)) - 1)))))) = 14
                    · have hm := (if_pos q18).symm.trans hm
                      obtain ⟨r124, σ125, h19, hm⟩ := bd_some hm
                      have e19 := (fr_X12_callStack (nt_sub hc (by decide) (by decide)) h19).trans ((sg_t hc (by decide)).trans ((sg_t hc (by decide)).trans e2))
                      cases hm
                      exact e19
                    · have hm := (if_neg q18).symm.trans hm
                      by_cases q20 : (σ74 64 (ix ((σ74 62 (ix (σ74 94 (ix ((σ74 93 (ix 0)) - 1))))) + (σ74 95 (ix ((σ74 93 (ix 0)) - 1)))))) = 15
                      · have hm := (if_pos q20).symm.trans hm
                        obtain ⟨r128, σ129, h21, hm⟩ := bd_some hm
                        have e21 := (fr_X12_pop (nt_sub hc (by decide) (by decide)) h21).trans ((sg_t hc (by decide)).trans ((sg_t hc (by decide)).trans e2))
                        obtain ⟨r131, σ132, h22, hm⟩ := bd_some hm
                        have e22 := (fr_X12_over (nt_sub hc (by decide) (by decide)) h22).trans e21
                        cases hm
                        exact e22
                      · have hm := (if_neg q20).symm.trans hm
                        by_cases q23 : (σ74 64 (ix ((σ74 62 (ix (σ74 94 (ix ((σ74 93 (ix 0)) - 1))))) + (σ74 95 (ix ((σ74 93 (ix 0)) - 1)))))) = 16
                        · have hm := (if_pos q23).symm.trans hm
                          obtain ⟨r135, σ136, h24, hm⟩ := bd_some hm
                          have e24 := (fr_X12_readStack (nt_sub hc (by decide) (by decide)) h24).trans ((sg_t hc (by decide)).trans ((sg_t hc (by decide)).trans e2))
                          cases hm
                          exact e24
                        · have hm := (if_neg q23).symm.trans hm
                          by_cases q25 : (σ74 64 (ix ((σ74 62 (ix (σ74 94 (ix ((σ74 93 (ix 0)) - 1))))) + (σ74 95 (ix ((σ74 93 (ix 0)) - 1)))))) = 17
                          · have hm := (if_pos q25).symm.trans hm
                            obtain ⟨r139, σ140, h26, hm⟩ := bd_some hm
                            have e26 := (fr_X12_writeStack (nt_sub hc (by decide) (by decide)) h26).trans ((sg_t hc (by decide)).trans ((sg_t hc (by decide)).trans e2))
                            cases hm
                            exact e26
                          · have hm := (if_neg q25).symm.trans hm
                            obtain ⟨_, hm⟩ := gb_some hm
                            obtain ⟨r143, σ144, h27, hm⟩ := bd_some hm
                            have e27 := (fr_X12_workStack (nt_sub hc (by decide) (by decide)) h27).trans ((sg_t hc (by decide)).trans ((sg_t hc (by decide)).trans e2))
                            cases hm
                            exact e27
  · have hm := (if_neg q1).symm.trans hm
    obtain ⟨_, hm⟩ := gb_some hm
    obtain ⟨_, hm⟩ := gb_some hm
    obtain ⟨_, hm⟩ := gb_some hm
    obtain ⟨_, hm⟩ := gb_some hm
    obtain ⟨_, hm⟩ := gb_some hm
    obtain ⟨_, hm⟩ := gb_some hm
    obtain ⟨_, hm⟩ := gb_some hm
    obtain ⟨_, hm⟩ := gb_some hm
    obtain ⟨_, hm⟩ := gb_some hm
    obtain ⟨_, hm⟩ := gb_some hm
    by_cases q28 : (σ 64 (ix ((σ 62 (ix (σ 94 (ix ((σ 93 (ix 0)) - 1))))) + (σ 95 (ix ((σ 93 (ix 0)) - 1)))))) = 0
    · have hm := (if_pos q28).symm.trans hm
      obtain ⟨r14, σ15, h29, hm⟩ := bd_some hm
      have e29 := (fr_X12_push (nt_sub hc (by decide) (by decide)) h29).trans ((sg_t hc (by decide)).trans ((sg_t hc (by decide)).trans rfl))
      cases hm
      exact e29
    · have hm := (if_neg q28).symm.trans hm
      by_cases q30 : (σ 64 (ix ((σ 62 (ix (σ 94 (ix ((σ 93 (ix 0)) - 1))))) + (σ 95 (ix ((σ 93 (ix 0)) - 1)))))) = 1
      · have hm := (if_pos q30).symm.trans hm
        obtain ⟨_, hm⟩ := gb_some hm
        obtain ⟨r19, σ20, h31, hm⟩ := bd_some hm
        have e31 := (fr_X12_push (nt_sub hc (by decide) (by decide)) h31).trans ((sg_t hc (by decide)).trans ((sg_t hc (by decide)).trans rfl))
        cases hm
        exact e31
      · have hm := (if_neg q30).symm.trans hm
        by_cases q32 : (σ 64 (ix ((σ 62 (ix (σ 94 (ix ((σ 93 (ix 0)) - 1))))) + (σ 95 (ix ((σ 93 (ix 0)) - 1)))))) = 2
        · have hm := (if_pos q32).symm.trans hm
          obtain ⟨r23, σ24, h33, hm⟩ := bd_some hm
          have e33 := (fr_X12_pop (nt_sub hc (by decide) (by decide)) h33).trans ((sg_t hc (by decide)).trans ((sg_t hc (by decide)).trans rfl))
          obtain ⟨_, hm⟩ := gb_some hm
          cases hm
          exact ((sg_t hc (by decide)).trans e33)
        · have hm := (if_neg q32).symm.trans hm
          by_cases q34 : (σ 64 (ix ((σ 62 (ix (σ 94 (ix ((σ 93 (ix 0)) - 1))))) + (σ 95 (ix ((σ 93 (ix 0)) - 1)))))) = 9
          · have hm := (if_pos q34).symm.trans hm
            obtain ⟨_, hm⟩ := gb_some hm
            obtain ⟨_, hm⟩ := gb_some hm
            obtain ⟨r30, σ31, h35, hm⟩ := bd_some hm
            have e35 := (fr_X12_push (nt_sub hc (by decide) (by decide)) h35).trans ((sg_t hc (by decide)).trans ((sg_t hc (by decide)).trans rfl))
            cases hm
            exact e35
          · have hm := (if_neg q34).symm.trans hm
            by_cases q36 : (σ 64 (ix ((σ 62 (ix (σ 94 (ix ((σ 93 (ix 0)) - 1))))) + (σ 95 (ix ((σ 93 (ix 0)) - 1)))))) = 10
            · have hm := (if_pos q36).symm.trans hm
              obtain ⟨r34, σ35, h37, hm⟩ := bd_some hm
              have e37 := (fr_X12_swapTop (nt_sub hc (by decide) (by decide)) h37).trans ((sg_t hc (by decide)).trans ((sg_t hc (by decide)).trans rfl))
              cases hm
              exact e37
            · have hm := (if_neg q36).symm.trans hm
              by_cases q38 : (σ 64 (ix ((σ 62 (ix (σ 94 (ix ((σ 93 (ix 0)) - 1))))) + (σ 95 (ix ((σ 93 (ix 0)) - 1)))))) = 11
              · have hm := (if_pos q38).symm.trans hm
                obtain ⟨_, hm⟩ := gb_some hm
                obtain ⟨_, hm⟩ := gb_some hm
                cases hm
                exact ((sg_t hc (by decide)).trans ((sg_t hc (by decide)).trans ((sg_t hc (by decide)).trans rfl)))
              · have hm := (if_neg q38).symm.trans hm
                by_cases q39 : (σ 64 (ix ((σ 62 (ix (σ 94 (ix ((σ 93 (ix 0)) - 1))))) + (σ 95 (ix ((σ 93 (ix 0)) - 1)))))) = 12
                · have hm := (if_pos q39).symm.trans hm
                  obtain ⟨_, hm⟩ := gb_some hm
                  cases hm
                  exact ((sg_t hc (by decide)).trans ((sg_t hc (by decide)).trans ((sg_t hc (by decide)).trans rfl)))
                · have hm := (if_neg q39).symm.trans hm
                  by_cases q40 : (σ 64 (ix ((σ 62 (ix (σ 94 (ix ((σ 93 (ix 0)) - 1))))) + (σ 95 (ix ((σ 93 (ix 0)) - 1)))))) = 13
                  · have hm := (if_pos q40).symm.trans hm
                    obtain ⟨r43, σ44, h41, hm⟩ := bd_some hm
                    have e41 := (fr_X12_pop (nt_sub hc (by decide) (by decide)) h41).trans ((sg_t hc (by decide)).trans ((sg_t hc (by decide)).trans rfl))
                    by_cases q42 : r43 = 0
                    · have hm := (if_pos q42).symm.trans hm
                      obtain ⟨_, hm⟩ := gb_some hm
                      cases hm
                      exact ((sg_t hc (by decide)).trans e41)
                    · have hm := (if_neg q42).symm.trans hm
                      obtain ⟨_, hm⟩ := gb_some hm
                      obtain ⟨_, hm⟩ := gb_some hm
                      cases hm
                      exact ((sg_t hc (by decide)).trans e41)
                  · have hm := (if_neg q40).symm.trans hm
                    by_cases q43 : (σ 64 (ix ((σ 62 (ix (σ 94 (ix ((σ 93 (ix 0)) - 1))))) + (σ 95 (ix ((σ 93 (ix 0)) - 1)))))) = 14
                    · have hm := (if_pos q43).symm.trans hm
                      obtain ⟨r51, σ52, h44, hm⟩ := bd_some hm
                      have e44 := (fr_X12_callStack (nt_sub hc (by decide) (by decide)) h44).trans ((sg_t hc (by decide)).trans ((sg_t hc (by decide)).trans rfl))
                      cases hm
                      exact e44
                    · have hm := (if_neg q43).symm.trans hm
                      by_cases q45 : (σ 64 (ix ((σ 62 (ix (σ 94 (ix ((σ 93 (ix 0)) - 1))))) + (σ 95 (ix ((σ 93 (ix 0)) - 1)))))) = 15
                      · have hm := (if_pos q45).symm.trans hm
                        obtain ⟨r55, σ56, h46, hm⟩ := bd_some hm
                        have e46 := (fr_X12_pop (nt_sub hc (by decide) (by decide)) h46).trans ((sg_t hc (by decide)).trans ((sg_t hc (by decide)).trans rfl))
                        obtain ⟨r58, σ59, h47, hm⟩ := bd_some hm
                        have e47 := (fr_X12_over (nt_sub hc (by decide) (by decide)) h47).trans e46
                        cases hm
                        exact e47
                      · have hm := (if_neg q45).symm.trans hm
                        by_cases q48 : (σ 64 (ix ((σ 62 (ix (σ 94 (ix ((σ 93 (ix 0)) - 1))))) + (σ 95 (ix ((σ 93 (ix 0)) - 1)))))) = 16
                        · have hm := (if_pos q48).symm.trans hm
                          obtain ⟨r62, σ63, h49, hm⟩ := bd_some hm
                          have e49 := (fr_X12_readStack (nt_sub hc (by decide) (by decide)) h49).trans ((sg_t hc (by decide)).trans ((sg_t hc (by decide)).trans rfl))
                          cases hm
                          exact e49
                        · have hm := (if_neg q48).symm.trans hm
                          by_cases q50 : (σ 64 (ix ((σ 62 (ix (σ 94 (ix ((σ 93 (ix 0)) - 1))))) + (σ 95 (ix ((σ 93 (ix 0)) - 1)))))) = 17
                          · have hm := (if_pos q50).symm.trans hm
                            obtain ⟨r66, σ67, h51, hm⟩ := bd_some hm
                            have e51 := (fr_X12_writeStack (nt_sub hc (by decide) (by decide)) h51).trans ((sg_t hc (by decide)).trans ((sg_t hc (by decide)).trans rfl))
                            cases hm
                            exact e51
                          · have hm := (if_neg q50).symm.trans hm
                            obtain ⟨_, hm⟩ := gb_some hm
                            obtain ⟨r70, σ71, h52, hm⟩ := bd_some hm
                            have e52 := (fr_X12_workStack (nt_sub hc (by decide) (by decide)) h52).trans ((sg_t hc (by decide)).trans ((sg_t hc (by decide)).trans rfl))
                            cases hm
                            exact e52
theorem frl_X12_run_2 {N n : Nat} {u1 : Int32} {u2 : Int32} {K37 : (Sg → Int32 → Option (Int32 × Sg))} {out : Int32 × Sg} {c j : Nat} (hc : nt [88, 89, 90, 91, 92, 93, 94, 95, 96, 97, 98, 99, 100, 101] [] c j = true) : ∀ (k : Nat) (σ : Sg) (v3 : Int32), lf_X12_run_2 N n u1 u2 K37 k σ v3 = some out → (∀ (σ : Sg) (v3 : Int32), K37 σ v3 = some out → out.2 c j = σ c j) → out.2 c j = σ c j := by
  intro k
  induction k with
  | zero => intro σ v3 hm; exact nomatch (show none = some out from hm)
  | succ k ih =>
    intro σ v3 hm hK37
    have hm : lb_X12_run_2 N n u1 u2 K37 (lf_X12_run_2 N n u1 u2 K37 k) σ v3 = some out := hm
    unfold lb_X12_run_2 at hm
    by_cases q1 : u2 ≤ v3
    · have hm := (if_pos q1).symm.trans hm
      exact (hK37 _ _ hm).trans rfl
    · have hm := (if_neg q1).symm.trans hm
      obtain ⟨_, hm⟩ := gb_some hm
      by_cases q2 : (σ 89 (ix u1)) = 0
      · have hm := (if_pos q2).symm.trans hm
        by_cases q3 : u1 = 0
        · have hm := (if_pos q3).symm.trans hm
          obtain ⟨r8, σ9, h4, hm⟩ := bd_some hm
          have e4 := (fr_X12_stepStack (nt_sub hc (by decide) (by decide)) h4).trans rfl
          exact (ih _ _ hm hK37).trans e4
        · have hm := (if_neg q3).symm.trans hm
          obtain ⟨r5, σ6, h5, hm⟩ := bd_some hm
          have e5 := (fr_X12_stepRegisters (nt_sub hc (by decide) (by decide)) h5).trans rfl
          exact (ih _ _ hm hK37).trans e5
      · have hm := (if_neg q2).symm.trans hm
        exact (hK37 _ _ hm).trans rfl
theorem fr_X12_run {N n : Nat} {σ : Sg} {p0 : Int32} {p1 : Int32} {r : Int32} {σ' : Sg} {c j : Nat} (hc : nt [88, 89, 90, 91, 92, 93, 94, 95, 96, 97, 98, 99, 100, 101] [] c j = true) (hm : f_X12_run N n σ p0 p1 = some (r, σ')) : σ' c j = σ c j := by
  unfold f_X12_run at hm
  refine (frl_X12_run_2 (nt_sub hc (by decide) (by decide)) N _ _ hm ?_).trans rfl
  intro σ11 w12 hm
  obtain ⟨_, hm⟩ := gb_some hm
  cases hm
  exact rfl
theorem fr_X12_runRegisters {N n : Nat} {σ : Sg} {p0 : Int32} {r : Int32} {σ' : Sg} {c j : Nat} (hc : nt [88, 89, 90, 91, 92, 93, 94, 95, 96, 97, 98, 99, 100, 101] [(59, 0)] c j = true) (hm : f_X12_runRegisters N n σ p0 = some (r, σ')) : σ' c j = σ c j := by
  unfold f_X12_runRegisters at hm
  by_cases q1 : (σ 59 37) = 0
  · have hm := (if_pos q1).symm.trans hm
    cases hm
    exact ((sg_u hc (by decide)).trans rfl)
  · have hm := (if_neg q1).symm.trans hm
    by_cases q2 : p0 < 1
    · have hm := (if_pos q2).symm.trans hm
      cases hm
      exact ((sg_u hc (by decide)).trans rfl)
    · have hm := (if_neg q2).symm.trans hm
      by_cases q3 : p0 ≤ 20000
      · have hm := (if_pos q3).symm.trans hm
        obtain ⟨r4, σ5, h4, hm⟩ := bd_some hm
        have e4 := (fr_X12_run (nt_sub hc (by decide) (by decide)) h4).trans ((sg_u hc (by decide)).trans rfl)
        cases hm
        exact e4
      · have hm := (if_neg q3).symm.trans hm
        cases hm
        exact ((sg_u hc (by decide)).trans rfl)
theorem fr_X12_runStack {N n : Nat} {σ : Sg} {p0 : Int32} {r : Int32} {σ' : Sg} {c j : Nat} (hc : nt [88, 89, 90, 91, 92, 93, 94, 95, 96, 97, 98, 99, 100, 101] [(59, 0)] c j = true) (hm : f_X12_runStack N n σ p0 = some (r, σ')) : σ' c j = σ c j := by
  unfold f_X12_runStack at hm
  by_cases q1 : (σ 59 10) = 0
  · have hm := (if_pos q1).symm.trans hm
    cases hm
    exact ((sg_u hc (by decide)).trans rfl)
  · have hm := (if_neg q1).symm.trans hm
    by_cases q2 : p0 < 1
    · have hm := (if_pos q2).symm.trans hm
      cases hm
      exact ((sg_u hc (by decide)).trans rfl)
    · have hm := (if_neg q2).symm.trans hm
      by_cases q3 : p0 ≤ 20000
      · have hm := (if_pos q3).symm.trans hm
        obtain ⟨r4, σ5, h4, hm⟩ := bd_some hm
        have e4 := (fr_X12_run (nt_sub hc (by decide) (by decide)) h4).trans ((sg_u hc (by decide)).trans rfl)
        cases hm
        exact e4
      · have hm := (if_neg q3).symm.trans hm
        cases hm
        exact ((sg_u hc (by decide)).trans rfl)
theorem frl_X12_scans_18 {N n : Nat} {u1 : Int32} {u2 : Int32} {u3 : Int32} {K103 : (Sg → Int32 → Int32 → Option (Int32 × Sg))} {out : Int32 × Sg} {c j : Nat} (hc : nt [83] [] c j = true) : ∀ (k : Nat) (σ : Sg) (v4 : Int32) (v5 : Int32), lf_X12_scans_18 N n u1 u2 u3 K103 k σ v4 v5 = some out → (∀ (σ : Sg) (v4 : Int32) (v5 : Int32), K103 σ v4 v5 = some out → out.2 c j = σ c j) → out.2 c j = σ c j := by
  intro k
  induction k with
  | zero => intro σ v4 v5 hm; exact nomatch (show none = some out from hm)
  | succ k ih =>
    intro σ v4 v5 hm hK103
    have hm : lb_X12_scans_18 N n u1 u2 u3 K103 (lf_X12_scans_18 N n u1 u2 u3 K103 k) σ v4 v5 = some out := hm
    unfold lb_X12_scans_18 at hm
    by_cases q1 : 24 ≤ v5
    · have hm := (if_pos q1).symm.trans hm
      exact (hK103 _ _ _ hm).trans rfl
    · have hm := (if_neg q1).symm.trans hm
      obtain ⟨_, hm⟩ := gb_some hm
      by_cases q2 : (σ 83 (ix v5)) = 0
      · have hm := (if_pos q2).symm.trans hm
        obtain ⟨_, hm⟩ := gb_some hm
        obtain ⟨_, hm⟩ := gb_some hm
        exact (ih _ _ _ hm hK103).trans ((sg_t hc (by decide)).trans rfl)
      · have hm := (if_neg q2).symm.trans hm
        obtain ⟨_, hm⟩ := gb_some hm
        by_cases q3 : (σ 78 (ix ((24 * u1) + v5))) < u3
        · have hm := (if_pos q3).symm.trans hm
          obtain ⟨_, hm⟩ := gb_some hm
          obtain ⟨_, hm⟩ := gb_some hm
          exact (ih _ _ _ hm hK103).trans ((sg_t hc (by decide)).trans rfl)
        · have hm := (if_neg q3).symm.trans hm
          obtain ⟨_, hm⟩ := gb_some hm
          obtain ⟨_, hm⟩ := gb_some hm
          obtain ⟨_, hm⟩ := gb_some hm
          exact (ih _ _ _ hm hK103).trans ((sg_t hc (by decide)).trans rfl)
theorem frl_X12_scans_106 {N n : Nat} {u1 : Int32} {u2 : Int32} {u4 : Int32} {K134 : (Sg → Int32 → Option (Int32 × Sg))} {out : Int32 × Sg} {c j : Nat} (hc : nt [] [] c j = true) : ∀ (k : Nat) (σ : Sg) (v5 : Int32), lf_X12_scans_106 N n u1 u2 u4 K134 k σ v5 = some out → (∀ (σ : Sg) (v5 : Int32), K134 σ v5 = some out → out.2 c j = σ c j) → out.2 c j = σ c j := by
  intro k
  induction k with
  | zero => intro σ v5 hm; exact nomatch (show none = some out from hm)
  | succ k ih =>
    intro σ v5 hm hK134
    have hm : lb_X12_scans_106 N n u1 u2 u4 K134 (lf_X12_scans_106 N n u1 u2 u4 K134 k) σ v5 = some out := hm
    unfold lb_X12_scans_106 at hm
    by_cases q1 : ((σ 59 22) - 2) ≤ v5
    · have hm := (if_pos q1).symm.trans hm
      exact (hK134 _ _ hm).trans rfl
    · have hm := (if_neg q1).symm.trans hm
      by_cases q2 : ((u4 >>> (v5 &&& 31)) &&& 1) = 1
      · have hm := (if_pos q2).symm.trans hm
        exact (ih _ _ hm hK134).trans rfl
      · have hm := (if_neg q2).symm.trans hm
        exact (hK134 _ _ hm).trans rfl
theorem frl_X12_scans_172 {N n : Nat} {u1 : Int32} {u2 : Int32} {K277 : (Sg → Int32 → Int32 → Option (Int32 × Sg))} {out : Int32 × Sg} {c j : Nat} (hc : nt [] [] c j = true) : ∀ (k : Nat) (σ : Sg) (v6 : Int32) (v7 : Int32), lf_X12_scans_172 N n u1 u2 K277 k σ v6 v7 = some out → (∀ (σ : Sg) (v6 : Int32) (v7 : Int32), K277 σ v6 v7 = some out → out.2 c j = σ c j) → out.2 c j = σ c j := by
  intro k
  induction k with
  | zero => intro σ v6 v7 hm; exact nomatch (show none = some out from hm)
  | succ k ih =>
    intro σ v6 v7 hm hK277
    have hm : lb_X12_scans_172 N n u1 u2 K277 (lf_X12_scans_172 N n u1 u2 K277 k) σ v6 v7 = some out := hm
    unfold lb_X12_scans_172 at hm
    by_cases q1 : 24 ≤ v7
    · have hm := (if_pos q1).symm.trans hm
      exact (hK277 _ _ _ hm).trans rfl
    · have hm := (if_neg q1).symm.trans hm
      obtain ⟨_, hm⟩ := gb_some hm
      obtain ⟨_, hm⟩ := gb_some hm
      by_cases q2 : (σ 78 (ix ((24 * u1) + v6))) < (σ 78 (ix ((24 * u1) + v7)))
      · have hm := (if_pos q2).symm.trans hm
        obtain ⟨_, hm⟩ := gb_some hm
        by_cases q3 : (σ 83 (ix v7)) = 0
        · have hm := (if_pos q3).symm.trans hm
          exact (ih _ _ _ hm hK277).trans rfl
        · have hm := (if_neg q3).symm.trans hm
          exact (ih _ _ _ hm hK277).trans rfl
      · have hm := (if_neg q2).symm.trans hm
        obtain ⟨_, hm⟩ := gb_some hm
        obtain ⟨_, hm⟩ := gb_some hm
        by_cases q4 : (σ 78 (ix ((24 * u1) + v7))) = (σ 78 (ix ((24 * u1) + v6)))
        · have hm := (if_pos q4).symm.trans hm
          by_cases q5 : v7 ≤ v6
          · have hm := (if_pos q5).symm.trans hm
            obtain ⟨_, hm⟩ := gb_some hm
            by_cases q6 : (σ 83 (ix v7)) = 0
            · have hm := (if_pos q6).symm.trans hm
              exact (ih _ _ _ hm hK277).trans rfl
            · have hm := (if_neg q6).symm.trans hm
              exact (ih _ _ _ hm hK277).trans rfl
          · have hm := (if_neg q5).symm.trans hm
            obtain ⟨_, hm⟩ := gb_some hm
            by_cases q7 : (σ 83 (ix v7)) = 0
            · have hm := (if_pos q7).symm.trans hm
              exact (ih _ _ _ hm hK277).trans rfl
            · have hm := (if_neg q7).symm.trans hm
              exact (ih _ _ _ hm hK277).trans rfl
        · have hm := (if_neg q4).symm.trans hm
          obtain ⟨_, hm⟩ := gb_some hm
          by_cases q8 : (σ 83 (ix v7)) = 0
          · have hm := (if_pos q8).symm.trans hm
            exact (ih _ _ _ hm hK277).trans rfl
          · have hm := (if_neg q8).symm.trans hm
            exact (ih _ _ _ hm hK277).trans rfl
theorem fr_X12_scans {N n : Nat} {σ : Sg} {p0 : Int32} {p1 : Int32} {r : Int32} {σ' : Sg} {c j : Nat} (hc : nt [79, 80, 81, 83] [] c j = true) (hm : f_X12_scans N n σ p0 p1 = some (r, σ')) : σ' c j = σ c j := by
  unfold f_X12_scans at hm
  obtain ⟨_, hm⟩ := gb_some hm
  refine (frl_X12_scans_18 (nt_sub hc (by decide) (by decide)) N _ _ _ hm ?_).trans rfl
  intro σ14 w15 w16 hm
  refine (frl_X12_scans_106 (nt_sub hc (by decide) (by decide)) N _ _ hm ?_).trans rfl
  intro σ19 w20 hm
  by_cases q1 : ((σ19 59 22) - 2) ≤ w20
  · have hm := (if_pos q1).symm.trans hm
    refine (frl_X12_scans_172 (nt_sub hc (by decide) (by decide)) N _ _ _ hm ?_).trans rfl
    intro σ38 w39 w40 hm
    obtain ⟨_, hm⟩ := gb_some hm
    obtain ⟨_, hm⟩ := gb_some hm
    obtain ⟨_, hm⟩ := gb_some hm
    obtain ⟨_, hm⟩ := gb_some hm
    by_cases q2 : w39 = p1
    · have hm := (if_pos q2).symm.trans hm
      cases hm
      exact ((sg_t hc (by decide)).trans ((sg_t hc (by decide)).trans rfl))
    · have hm := (if_neg q2).symm.trans hm
      obtain ⟨_, hm⟩ := gb_some hm
      obtain ⟨_, hm⟩ := gb_some hm
      obtain ⟨_, hm⟩ := gb_some hm
      obtain ⟨_, hm⟩ := gb_some hm
      obtain ⟨_, hm⟩ := gb_some hm
      cases hm
      exact ((sg_t hc (by decide)).trans ((sg_t hc (by decide)).trans ((sg_t hc (by decide)).trans ((sg_t hc (by decide)).trans ((sg_t hc (by decide)).trans ((sg_t hc (by decide)).trans rfl))))))
  · have hm := (if_neg q1).symm.trans hm
    obtain ⟨_, hm⟩ := gb_some hm
    obtain ⟨_, hm⟩ := gb_some hm
    cases hm
    exact ((sg_t hc (by decide)).trans ((sg_t hc (by decide)).trans rfl))
theorem fr_X12_size {N n : Nat} {σ : Sg} {p0 : Int32} {r : Int32} {σ' : Sg} {c j : Nat} (hc : nt [] [(59, 0)] c j = true) (hm : f_X12_size N n σ p0 = some (r, σ')) : σ' c j = σ c j := by
  unfold f_X12_size at hm
  obtain ⟨r1, σ2, h1, hm⟩ := bd_some hm
  have e1 := (fr_X12_isFunc (nt_sub hc (by decide) (by decide)) h1).trans ((sg_u hc (by decide)).trans rfl)
  by_cases q2 : r1 = 0
  · have hm := (if_pos q2).symm.trans hm
    cases hm
    exact e1
  · have hm := (if_neg q2).symm.trans hm
    obtain ⟨_, hm⟩ := gb_some hm
    cases hm
    exact e1
theorem fr_X12_slots {N n : Nat} {σ : Sg} {p0 : Int32} {r : Int32} {σ' : Sg} {c j : Nat} (hc : nt [] [(59, 0)] c j = true) (hm : f_X12_slots N n σ p0 = some (r, σ')) : σ' c j = σ c j := by
  unfold f_X12_slots at hm
  obtain ⟨r1, σ2, h1, hm⟩ := bd_some hm
  have e1 := (fr_X12_isFunc (nt_sub hc (by decide) (by decide)) h1).trans ((sg_u hc (by decide)).trans rfl)
  by_cases q2 : r1 = 0
  · have hm := (if_pos q2).symm.trans hm
    cases hm
    exact e1
  · have hm := (if_neg q2).symm.trans hm
    obtain ⟨_, hm⟩ := gb_some hm
    cases hm
    exact e1
theorem frl_X12_spans_2 {N n : Nat} {u1 : Int32} {K69 : (Sg → Int32 → Option (Int32 × Sg))} {out : Int32 × Sg} {c j : Nat} (hc : nt [77, 78, 79, 80, 83] [] c j = true) : ∀ (k : Nat) (σ : Sg) (v2 : Int32), lf_X12_spans_2 N n u1 K69 k σ v2 = some out → (∀ (σ : Sg) (v2 : Int32), K69 σ v2 = some out → out.2 c j = σ c j) → out.2 c j = σ c j := by
  intro k
  induction k with
  | zero => intro σ v2 hm; exact nomatch (show none = some out from hm)
  | succ k ih =>
    intro σ v2 hm hK69
    have hm : lb_X12_spans_2 N n u1 K69 (lf_X12_spans_2 N n u1 K69 k) σ v2 = some out := hm
    unfold lb_X12_spans_2 at hm
    by_cases q1 : 24 ≤ v2
    · have hm := (if_pos q1).symm.trans hm
      exact (hK69 _ _ hm).trans rfl
    · have hm := (if_neg q1).symm.trans hm
      obtain ⟨_, hm⟩ := gb_some hm
      obtain ⟨_, hm⟩ := gb_some hm
      obtain ⟨_, hm⟩ := gb_some hm
      obtain ⟨_, hm⟩ := gb_some hm
      obtain ⟨_, hm⟩ := gb_some hm
      exact (ih _ _ hm hK69).trans ((sg_t hc (by decide)).trans ((sg_t hc (by decide)).trans ((sg_t hc (by decide)).trans ((sg_t hc (by decide)).trans ((sg_t hc (by decide)).trans rfl)))))
theorem frl_X12_spans_89 {N n : Nat} {u1 : Int32} {u2 : Int32} {K123 : (Sg → Int32 → Int32 → Option (Int32 × Sg))} {out : Int32 × Sg} {c j : Nat} (hc : nt [] [] c j = true) : ∀ (k : Nat) (σ : Sg) (v3 : Int32) (v4 : Int32), lf_X12_spans_89 N n u1 u2 K123 k σ v3 v4 = some out → (∀ (σ : Sg) (v3 : Int32) (v4 : Int32), K123 σ v3 v4 = some out → out.2 c j = σ c j) → out.2 c j = σ c j := by
  intro k
  induction k with
  | zero => intro σ v3 v4 hm; exact nomatch (show none = some out from hm)
  | succ k ih =>
    intro σ v3 v4 hm hK123
    have hm : lb_X12_spans_89 N n u1 u2 K123 (lf_X12_spans_89 N n u1 u2 K123 k) σ v3 v4 = some out := hm
    unfold lb_X12_spans_89 at hm
    obtain ⟨_, hm⟩ := gb_some hm
    by_cases q1 : (σ 71 (ix u2)) ≤ v4
    · have hm := (if_pos q1).symm.trans hm
      exact (hK123 _ _ _ hm).trans rfl
    · have hm := (if_neg q1).symm.trans hm
      obtain ⟨_, hm⟩ := gb_some hm
      exact (ih _ _ _ hm hK123).trans rfl
theorem frl_X12_spans_126 {N n : Nat} {u1 : Int32} {u2 : Int32} {u3 : Int32} {K205 : (Sg → Int32 → Option (Int32 × Sg))} {out : Int32 × Sg} {c j : Nat} (hc : nt [77, 78] [] c j = true) : ∀ (k : Nat) (σ : Sg) (v4 : Int32), lf_X12_spans_126 N n u1 u2 u3 K205 k σ v4 = some out → (∀ (σ : Sg) (v4 : Int32), K205 σ v4 = some out → out.2 c j = σ c j) → out.2 c j = σ c j := by
  intro k
  induction k with
  | zero => intro σ v4 hm; exact nomatch (show none = some out from hm)
  | succ k ih =>
    intro σ v4 hm hK205
    have hm : lb_X12_spans_126 N n u1 u2 u3 K205 (lf_X12_spans_126 N n u1 u2 u3 K205 k) σ v4 = some out := hm
    unfold lb_X12_spans_126 at hm
    by_cases q1 : 24 ≤ v4
    · have hm := (if_pos q1).symm.trans hm
      exact (hK205 _ _ hm).trans rfl
    · have hm := (if_neg q1).symm.trans hm
      by_cases q2 : ((u3 >>> (v4 &&& 31)) &&& 1) = 1
      · have hm := (if_pos q2).symm.trans hm
        obtain ⟨_, hm⟩ := gb_some hm
        by_cases q3 : 0 ≤ (σ 77 (ix ((24 * u1) + v4)))
        · have hm := (if_pos q3).symm.trans hm
          obtain ⟨_, hm⟩ := gb_some hm
          obtain ⟨_, hm⟩ := gb_some hm
          obtain ⟨_, hm⟩ := gb_some hm
          exact (ih _ _ hm hK205).trans ((sg_t hc (by decide)).trans ((sg_t hc (by decide)).trans rfl))
        · have hm := (if_neg q3).symm.trans hm
          obtain ⟨_, hm⟩ := gb_some hm
          obtain ⟨_, hm⟩ := gb_some hm
          exact (ih _ _ hm hK205).trans ((sg_t hc (by decide)).trans ((sg_t hc (by decide)).trans rfl))
      · have hm := (if_neg q2).symm.trans hm
        exact (ih _ _ hm hK205).trans rfl
theorem frl_X12_spans_71 {N n : Nat} {u1 : Int32} {K211 : (Sg → Int32 → Option (Int32 × Sg))} {out : Int32 × Sg} {c j : Nat} (hc : nt [77, 78] [] c j = true) : ∀ (k : Nat) (σ : Sg) (v2 : Int32), lf_X12_spans_71 N n u1 K211 k σ v2 = some out → (∀ (σ : Sg) (v2 : Int32), K211 σ v2 = some out → out.2 c j = σ c j) → out.2 c j = σ c j := by
  intro k
  induction k with
  | zero => intro σ v2 hm; exact nomatch (show none = some out from hm)
  | succ k ih =>
    intro σ v2 hm hK211
    have hm : lb_X12_spans_71 N n u1 K211 (lf_X12_spans_71 N n u1 K211 k) σ v2 = some out := hm
    unfold lb_X12_spans_71 at hm
    by_cases q1 : (σ 59 12) ≤ v2
    · have hm := (if_pos q1).symm.trans hm
      exact (hK211 _ _ hm).trans rfl
    · have hm := (if_neg q1).symm.trans hm
      obtain ⟨_, hm⟩ := gb_some hm
      refine (frl_X12_spans_89 (nt_sub hc (by decide) (by decide)) N _ _ _ hm ?_).trans rfl
      intro σ14 w15 w16 hm
      refine (frl_X12_spans_126 (nt_sub hc (by decide) (by decide)) N _ _ hm ?_).trans rfl
      intro σ26 w27 hm
      exact (ih _ _ hm hK211).trans rfl
theorem frl_X12_spans_230 {N n : Nat} {u1 : Int32} {u2 : Int32} {K263 : (Sg → Int32 → Option (Int32 × Sg))} {out : Int32 × Sg} {c j : Nat} (hc : nt [79, 80, 81, 83] [] c j = true) : ∀ (k : Nat) (σ : Sg) (v3 : Int32), lf_X12_spans_230 N n u1 u2 K263 k σ v3 = some out → (∀ (σ : Sg) (v3 : Int32), K263 σ v3 = some out → out.2 c j = σ c j) → out.2 c j = σ c j := by
  intro k
  induction k with
  | zero => intro σ v3 hm; exact nomatch (show none = some out from hm)
  | succ k ih =>
    intro σ v3 hm hK263
    have hm : lb_X12_spans_230 N n u1 u2 K263 (lf_X12_spans_230 N n u1 u2 K263 k) σ v3 = some out := hm
    unfold lb_X12_spans_230 at hm
    by_cases q1 : 24 ≤ v3
    · have hm := (if_pos q1).symm.trans hm
      exact (hK263 _ _ hm).trans rfl
    · have hm := (if_neg q1).symm.trans hm
      obtain ⟨_, hm⟩ := gb_some hm
      by_cases q2 : (σ 77 (ix ((24 * u1) + v3))) = u2
      · have hm := (if_pos q2).symm.trans hm
        obtain ⟨r35, σ36, h3, hm⟩ := bd_some hm
        have e3 := (fr_X12_scans (nt_sub hc (by decide) (by decide)) h3).trans rfl
        exact (ih _ _ hm hK263).trans e3
      · have hm := (if_neg q2).symm.trans hm
        exact (ih _ _ hm hK263).trans rfl
theorem frl_X12_spans_220 {N n : Nat} {u1 : Int32} {K269 : (Sg → Int32 → Option (Int32 × Sg))} {out : Int32 × Sg} {c j : Nat} (hc : nt [79, 80, 81, 83] [] c j = true) : ∀ (k : Nat) (σ : Sg) (v2 : Int32), lf_X12_spans_220 N n u1 K269 k σ v2 = some out → (∀ (σ : Sg) (v2 : Int32), K269 σ v2 = some out → out.2 c j = σ c j) → out.2 c j = σ c j := by
  intro k
  induction k with
  | zero => intro σ v2 hm; exact nomatch (show none = some out from hm)
  | succ k ih =>
    intro σ v2 hm hK269
    have hm : lb_X12_spans_220 N n u1 K269 (lf_X12_spans_220 N n u1 K269 k) σ v2 = some out := hm
    unfold lb_X12_spans_220 at hm
    by_cases q1 : (σ 59 12) ≤ v2
    · have hm := (if_pos q1).symm.trans hm
      exact (hK269 _ _ hm).trans rfl
    · have hm := (if_neg q1).symm.trans hm
      refine (frl_X12_spans_230 (nt_sub hc (by decide) (by decide)) N _ _ hm ?_).trans rfl
      intro σ38 w39 hm
      exact (ih _ _ hm hK269).trans rfl
theorem fr_X12_spans {N n : Nat} {σ : Sg} {p0 : Int32} {r : Int32} {σ' : Sg} {c j : Nat} (hc : nt [77, 78, 79, 80, 81, 83] [] c j = true) (hm : f_X12_spans N n σ p0 = some (r, σ')) : σ' c j = σ c j := by
  unfold f_X12_spans at hm
  refine (frl_X12_spans_2 (nt_sub hc (by decide) (by decide)) N _ _ hm ?_).trans rfl
  intro σ7 w8 hm
  refine (frl_X12_spans_71 (nt_sub hc (by decide) (by decide)) N _ _ hm ?_).trans rfl
  intro σ28 w29 hm
  obtain ⟨_, hm⟩ := gb_some hm
  refine (frl_X12_spans_220 (nt_sub hc (by decide) (by decide)) N _ _ hm ?_).trans ((sg_t hc (by decide)).trans rfl)
  intro σ40 w41 hm
  cases hm
  exact rfl
theorem frl_X12_turn_47 {N n : Nat}  {K94 : (Sg → Int32 → Option (Int32 × Sg))} {out : Int32 × Sg} {c j : Nat} (hc : nt [68, 69, 70, 71, 72, 73, 74, 75, 76, 77, 78, 79, 80, 81, 82, 83, 84, 85, 86, 87] [(59, 12), (59, 30), (59, 34), (59, 35)] c j = true) : ∀ (k : Nat) (σ : Sg) (v2 : Int32), lf_X12_turn_47 N n  K94 k σ v2 = some out → (∀ (σ : Sg) (v2 : Int32), K94 σ v2 = some out → out.2 c j = σ c j) → out.2 c j = σ c j := by
  intro k
  induction k with
  | zero => intro σ v2 hm; exact nomatch (show none = some out from hm)
  | succ k ih =>
    intro σ v2 hm hK94
    have hm : lb_X12_turn_47 N n  K94 (lf_X12_turn_47 N n  K94 k) σ v2 = some out := hm
    unfold lb_X12_turn_47 at hm
    by_cases q1 : (σ 59 1) ≤ v2
    · have hm := (if_pos q1).symm.trans hm
      exact (hK94 _ _ hm).trans rfl
    · have hm := (if_neg q1).symm.trans hm
      obtain ⟨r5, σ6, h2, hm⟩ := bd_some hm
      have e2 := (fr_X12_lays (nt_sub hc (by decide) (by decide)) h2).trans rfl
      obtain ⟨r8, σ9, h3, hm⟩ := bd_some hm
      have e3 := (fr_X12_forwards (nt_sub hc (by decide) (by decide)) h3).trans e2
      obtain ⟨r11, σ12, h4, hm⟩ := bd_some hm
      have e4 := (fr_X12_leavesOut (nt_sub hc (by decide) (by decide)) h4).trans e3
      obtain ⟨_, hm⟩ := gb_some hm
      obtain ⟨r15, σ16, h5, hm⟩ := bd_some hm
      have e5 := (fr_X12_spans (nt_sub hc (by decide) (by decide)) h5).trans ((sg_t hc (by decide)).trans e4)
      obtain ⟨r18, σ19, h6, hm⟩ := bd_some hm
      have e6 := (fr_X12_codes (nt_sub hc (by decide) (by decide)) h6).trans e5
      exact (ih _ _ hm hK94).trans e6
theorem fr_X12_turn {N n : Nat} {σ : Sg} {p0 : Int32} {r : Int32} {σ' : Sg} {c j : Nat} (hc : nt [68, 69, 70, 71, 72, 73, 74, 75, 76, 77, 78, 79, 80, 81, 82, 83, 84, 85, 86, 87, 89, 90, 91, 92, 93, 100, 101] [(59, 0), (59, 12), (59, 22), (59, 30), (59, 34), (59, 35), (59, 37)] c j = true) (hm : f_X12_turn N n σ p0 = some (r, σ')) : σ' c j = σ c j := by
  unfold f_X12_turn at hm
  by_cases q1 : (σ 59 10) = 0
  · have hm := (if_pos q1).symm.trans hm
    cases hm
    exact ((sg_u hc (by decide)).trans rfl)
  · have hm := (if_neg q1).symm.trans hm
    by_cases q2 : p0 < 3
    · have hm := (if_pos q2).symm.trans hm
      cases hm
      exact ((sg_u hc (by decide)).trans rfl)
    · have hm := (if_neg q2).symm.trans hm
      by_cases q3 : p0 ≤ 16
      · have hm := (if_pos q3).symm.trans hm
        refine (frl_X12_turn_47 (nt_sub hc (by decide) (by decide)) N _ _ hm ?_).trans ((sg_u hc (by decide)).trans ((sg_u hc (by decide)).trans ((sg_u hc (by decide)).trans ((sg_u hc (by decide)).trans ((sg_u hc (by decide)).trans rfl)))))
        intro σ21 w22 hm
        obtain ⟨r23, σ24, h4, hm⟩ := bd_some hm
        have e4 := (fr_X12_begin (nt_sub hc (by decide) (by decide)) h4).trans rfl
        by_cases q5 : (σ24 59 34) = 0
        · have hm := (if_pos q5).symm.trans hm
          cases hm
          exact ((sg_u hc (by decide)).trans e4)
        · have hm := (if_neg q5).symm.trans hm
          cases hm
          exact e4
      · have hm := (if_neg q3).symm.trans hm
        cases hm
        exact ((sg_u hc (by decide)).trans rfl)
theorem fr_X12_value {N n : Nat} {σ : Sg} {p0 : Int32} {p1 : Int32} {p2 : Int32} {r : Int32} {σ' : Sg} {c j : Nat} (hc : nt [] [(59, 0)] c j = true) (hm : f_X12_value N n σ p0 p1 p2 = some (r, σ')) : σ' c j = σ c j := by
  unfold f_X12_value at hm
  obtain ⟨r1, σ2, h1, hm⟩ := bd_some hm
  have e1 := (fr_X12_isFunc (nt_sub hc (by decide) (by decide)) h1).trans ((sg_u hc (by decide)).trans rfl)
  by_cases q2 : r1 = 0
  · have hm := (if_pos q2).symm.trans hm
    cases hm
    exact e1
  · have hm := (if_neg q2).symm.trans hm
    by_cases q3 : p1 < 0
    · have hm := (if_pos q3).symm.trans hm
      cases hm
      exact e1
    · have hm := (if_neg q3).symm.trans hm
      by_cases q4 : 23 < p1
      · have hm := (if_pos q4).symm.trans hm
        cases hm
        exact e1
      · have hm := (if_neg q4).symm.trans hm
        obtain ⟨_, hm⟩ := gb_some hm
        by_cases q5 : 0 ≤ (σ2 77 (ix ((24 * p0) + p1)))
        · have hm := (if_pos q5).symm.trans hm
          by_cases q6 : p2 = 0
          · have hm := (if_pos q6).symm.trans hm
            obtain ⟨_, hm⟩ := gb_some hm
            cases hm
            exact e1
          · have hm := (if_neg q6).symm.trans hm
            by_cases q7 : p2 = 1
            · have hm := (if_pos q7).symm.trans hm
              obtain ⟨_, hm⟩ := gb_some hm
              cases hm
              exact e1
            · have hm := (if_neg q7).symm.trans hm
              by_cases q8 : p2 = 2
              · have hm := (if_pos q8).symm.trans hm
                obtain ⟨_, hm⟩ := gb_some hm
                cases hm
                exact e1
              · have hm := (if_neg q8).symm.trans hm
                by_cases q9 : p2 = 3
                · have hm := (if_pos q9).symm.trans hm
                  obtain ⟨_, hm⟩ := gb_some hm
                  cases hm
                  exact e1
                · have hm := (if_neg q9).symm.trans hm
                  cases hm
                  exact e1
        · have hm := (if_neg q5).symm.trans hm
          cases hm
          exact e1
theorem fr_X12_word {N n : Nat} {σ : Sg} {p0 : Int32} {p1 : Int32} {r : Int32} {σ' : Sg} {c j : Nat} (hc : nt [63, 64, 65] [(59, 0), (59, 6)] c j = true) (hm : f_X12_word N n σ p0 p1 = some (r, σ')) : σ' c j = σ c j := by
  unfold f_X12_word at hm
  by_cases q1 : (σ 59 1) = 0
  · have hm := (if_pos q1).symm.trans hm
    cases hm
    exact ((sg_u hc (by decide)).trans rfl)
  · have hm := (if_neg q1).symm.trans hm
    by_cases q2 : (σ 59 6) = 300
    · have hm := (if_pos q2).symm.trans hm
      cases hm
      exact ((sg_u hc (by decide)).trans rfl)
    · have hm := (if_neg q2).symm.trans hm
      by_cases q3 : (σ 59 10) = 0
      · have hm := (if_pos q3).symm.trans hm
        obtain ⟨_, hm⟩ := gb_some hm
        obtain ⟨_, hm⟩ := gb_some hm
        obtain ⟨_, hm⟩ := gb_some hm
        obtain ⟨_, hm⟩ := gb_some hm
        obtain ⟨_, hm⟩ := gb_some hm
        cases hm
        exact ((sg_t hc (by decide)).trans ((sg_u hc (by decide)).trans ((sg_t hc (by decide)).trans ((sg_t hc (by decide)).trans ((sg_u hc (by decide)).trans rfl)))))
      · have hm := (if_neg q3).symm.trans hm
        cases hm
        exact ((sg_u hc (by decide)).trans rfl)
theorem frl_X2_forget_2 {N n : Nat} {u1 : Int32} {K50 : (Sg → Int32 → Option (Int32 × Sg))} {out : Int32 × Sg} {c j : Nat} (hc : nt [33, 34, 35, 36] [] c j = true) : ∀ (k : Nat) (σ : Sg) (v2 : Int32), lf_X2_forget_2 N n u1 K50 k σ v2 = some out → (∀ (σ : Sg) (v2 : Int32), K50 σ v2 = some out → out.2 c j = σ c j) → out.2 c j = σ c j := by
  intro k
  induction k with
  | zero => intro σ v2 hm; exact nomatch (show none = some out from hm)
  | succ k ih =>
    intro σ v2 hm hK50
    have hm : lb_X2_forget_2 N n u1 K50 (lf_X2_forget_2 N n u1 K50 k) σ v2 = some out := hm
    unfold lb_X2_forget_2 at hm
    by_cases q1 : 22 ≤ v2
    · have hm := (if_pos q1).symm.trans hm
      exact (hK50 _ _ hm).trans rfl
    · have hm := (if_neg q1).symm.trans hm
      obtain ⟨_, hm⟩ := gb_some hm
      obtain ⟨_, hm⟩ := gb_some hm
      obtain ⟨_, hm⟩ := gb_some hm
      obtain ⟨_, hm⟩ := gb_some hm
      exact (ih _ _ hm hK50).trans ((sg_t hc (by decide)).trans ((sg_t hc (by decide)).trans ((sg_t hc (by decide)).trans ((sg_t hc (by decide)).trans rfl))))
theorem fr_X2_forget {N n : Nat} {σ : Sg} {p0 : Int32} {r : Int32} {σ' : Sg} {c j : Nat} (hc : nt [33, 34, 35, 36, 38] [] c j = true) (hm : f_X2_forget N n σ p0 = some (r, σ')) : σ' c j = σ c j := by
  unfold f_X2_forget at hm
  refine (frl_X2_forget_2 (nt_sub hc (by decide) (by decide)) N _ _ hm ?_).trans rfl
  intro σ6 w7 hm
  obtain ⟨r8, σ9, h1, hm⟩ := bd_some hm
  have e1 := (fr_J7_fill_53178_38 (nt_sub hc (by decide) (by decide)) h1).trans rfl
  cases hm
  exact e1
theorem frl_X5_readSet_4 {N n : Nat} {u1 : Int32} {K33 : (Sg → Int32 → Int32 → Option (Int32 × Sg))} {out : Int32 × Sg} {c j : Nat} (hc : nt [] [] c j = true) : ∀ (k : Nat) (σ : Sg) (v2 : Int32) (v3 : Int32), lf_X5_readSet_4 N n u1 K33 k σ v2 v3 = some out → (∀ (σ : Sg) (v2 : Int32) (v3 : Int32), K33 σ v2 v3 = some out → out.2 c j = σ c j) → out.2 c j = σ c j := by
  intro k
  induction k with
  | zero => intro σ v2 v3 hm; exact nomatch (show none = some out from hm)
  | succ k ih =>
    intro σ v2 v3 hm hK33
    have hm : lb_X5_readSet_4 N n u1 K33 (lf_X5_readSet_4 N n u1 K33 k) σ v2 v3 = some out := hm
    unfold lb_X5_readSet_4 at hm
    obtain ⟨_, hm⟩ := gb_some hm
    by_cases q1 : (σ 18 (ix u1)) ≤ v3
    · have hm := (if_pos q1).symm.trans hm
      exact (hK33 _ _ _ hm).trans rfl
    · have hm := (if_neg q1).symm.trans hm
      obtain ⟨_, hm⟩ := gb_some hm
      obtain ⟨_, hm⟩ := gb_some hm
      exact (ih _ _ _ hm hK33).trans rfl
theorem fr_X5_readSet {N n : Nat} {σ : Sg} {p0 : Int32} {r : Int32} {σ' : Sg} {c j : Nat} (hc : nt [] [] c j = true) (hm : f_X5_readSet N n σ p0 = some (r, σ')) : σ' c j = σ c j := by
  unfold f_X5_readSet at hm
  refine (frl_X5_readSet_4 (nt_sub hc (by decide) (by decide)) N _ _ _ hm ?_).trans rfl
  intro σ5 w6 w7 hm
  cases hm
  exact rfl
theorem fr_X5_writtenSet {N n : Nat} {σ : Sg} {p0 : Int32} {r : Int32} {σ' : Sg} {c j : Nat} (hc : nt [] [] c j = true) (hm : f_X5_writtenSet N n σ p0 = some (r, σ')) : σ' c j = σ c j := by
  unfold f_X5_writtenSet at hm
  obtain ⟨_, hm⟩ := gb_some hm
  by_cases q1 : (σ 14 (ix p0)) = 3
  · have hm := (if_pos q1).symm.trans hm
    obtain ⟨r6, σ7, h2, hm⟩ := bd_some hm
    have e2 := (fr_X5_readSet (nt_sub hc (by decide) (by decide)) h2).trans rfl
    cases hm
    exact e2
  · have hm := (if_neg q1).symm.trans hm
    obtain ⟨_, hm⟩ := gb_some hm
    by_cases q3 : (σ 17 (ix p0)) = (-1)
    · have hm := (if_pos q3).symm.trans hm
      cases hm
      exact rfl
    · have hm := (if_neg q3).symm.trans hm
      obtain ⟨_, hm⟩ := gb_some hm
      cases hm
      exact rfl
theorem frl_X2_widen_3 {N n : Nat} {u1 : Int32} {u2 : Int32} {u3 : Int32} {K58 : (Sg → Int32 → Option (Int32 × Sg))} {out : Int32 × Sg} {c j : Nat} (hc : nt [33, 34] [] c j = true) : ∀ (k : Nat) (σ : Sg) (v4 : Int32), lf_X2_widen_3 N n u1 u2 u3 K58 k σ v4 = some out → (∀ (σ : Sg) (v4 : Int32), K58 σ v4 = some out → out.2 c j = σ c j) → out.2 c j = σ c j := by
  intro k
  induction k with
  | zero => intro σ v4 hm; exact nomatch (show none = some out from hm)
  | succ k ih =>
    intro σ v4 hm hK58
    have hm : lb_X2_widen_3 N n u1 u2 u3 K58 (lf_X2_widen_3 N n u1 u2 u3 K58 k) σ v4 = some out := hm
    unfold lb_X2_widen_3 at hm
    by_cases q1 : 22 ≤ v4
    · have hm := (if_pos q1).symm.trans hm
      exact (hK58 _ _ hm).trans rfl
    · have hm := (if_neg q1).symm.trans hm
      by_cases q2 : ((u3 >>> (v4 &&& 31)) &&& 1) = 0
      · have hm := (if_pos q2).symm.trans hm
        exact (ih _ _ hm hK58).trans rfl
      · have hm := (if_neg q2).symm.trans hm
        obtain ⟨_, hm⟩ := gb_some hm
        obtain ⟨_, hm⟩ := gb_some hm
        by_cases q3 : (σ 33 (ix (u1 + v4))) = (-1)
        · have hm := (if_pos q3).symm.trans hm
          obtain ⟨_, hm⟩ := gb_some hm
          exact (ih _ _ hm hK58).trans ((sg_t hc (by decide)).trans ((sg_t hc (by decide)).trans rfl))
        · have hm := (if_neg q3).symm.trans hm
          exact (ih _ _ hm hK58).trans ((sg_t hc (by decide)).trans rfl)
theorem fr_X2_widen {N n : Nat} {σ : Sg} {p0 : Int32} {p1 : Int32} {p2 : Int32} {r : Int32} {σ' : Sg} {c j : Nat} (hc : nt [33, 34] [] c j = true) (hm : f_X2_widen N n σ p0 p1 p2 = some (r, σ')) : σ' c j = σ c j := by
  unfold f_X2_widen at hm
  refine (frl_X2_widen_3 (nt_sub hc (by decide) (by decide)) N _ _ hm ?_).trans rfl
  intro σ7 w8 hm
  cases hm
  exact rfl
theorem frl_X2_giveBack_3 {N n : Nat} {u1 : Int32} {u2 : Int32} {u3 : Int32} {K52 : (Sg → Int32 → Option (Int32 × Sg))} {out : Int32 × Sg} {c j : Nat} (hc : nt [38] [] c j = true) : ∀ (k : Nat) (σ : Sg) (v4 : Int32), lf_X2_giveBack_3 N n u1 u2 u3 K52 k σ v4 = some out → (∀ (σ : Sg) (v4 : Int32), K52 σ v4 = some out → out.2 c j = σ c j) → out.2 c j = σ c j := by
  intro k
  induction k with
  | zero => intro σ v4 hm; exact nomatch (show none = some out from hm)
  | succ k ih =>
    intro σ v4 hm hK52
    have hm : lb_X2_giveBack_3 N n u1 u2 u3 K52 (lf_X2_giveBack_3 N n u1 u2 u3 K52 k) σ v4 = some out := hm
    unfold lb_X2_giveBack_3 at hm
    by_cases q1 : u3 ≤ v4
    · have hm := (if_pos q1).symm.trans hm
      exact (hK52 _ _ hm).trans rfl
    · have hm := (if_neg q1).symm.trans hm
      obtain ⟨_, hm⟩ := gb_some hm
      by_cases q2 : (σ 38 (ix v4)) = (-1)
      · have hm := (if_pos q2).symm.trans hm
        exact (ih _ _ hm hK52).trans rfl
      · have hm := (if_neg q2).symm.trans hm
        obtain ⟨_, hm⟩ := gb_some hm
        obtain ⟨_, hm⟩ := gb_some hm
        by_cases q3 : u2 ≤ (σ 34 (ix (u1 + (σ 38 (ix v4)))))
        · have hm := (if_pos q3).symm.trans hm
          exact (ih _ _ hm hK52).trans rfl
        · have hm := (if_neg q3).symm.trans hm
          obtain ⟨_, hm⟩ := gb_some hm
          exact (ih _ _ hm hK52).trans ((sg_t hc (by decide)).trans rfl)
theorem fr_X2_giveBack {N n : Nat} {σ : Sg} {p0 : Int32} {p1 : Int32} {p2 : Int32} {r : Int32} {σ' : Sg} {c j : Nat} (hc : nt [38] [] c j = true) (hm : f_X2_giveBack N n σ p0 p1 p2 = some (r, σ')) : σ' c j = σ c j := by
  unfold f_X2_giveBack at hm
  refine (frl_X2_giveBack_3 (nt_sub hc (by decide) (by decide)) N _ _ hm ?_).trans rfl
  intro σ8 w9 hm
  cases hm
  exact rfl
theorem frl_X2_longestWith_6 {N n : Nat} {u1 : Int32} {u3 : Int32} {K69 : (Sg → Int32 → Int32 → Option (Int32 × Sg))} {out : Int32 × Sg} {c j : Nat} (hc : nt [] [] c j = true) : ∀ (k : Nat) (σ : Sg) (v4 : Int32) (v5 : Int32), lf_X2_longestWith_6 N n u1 u3 K69 k σ v4 v5 = some out → (∀ (σ : Sg) (v4 : Int32) (v5 : Int32), K69 σ v4 v5 = some out → out.2 c j = σ c j) → out.2 c j = σ c j := by
  intro k
  induction k with
  | zero => intro σ v4 v5 hm; exact nomatch (show none = some out from hm)
  | succ k ih =>
    intro σ v4 v5 hm hK69
    have hm : lb_X2_longestWith_6 N n u1 u3 K69 (lf_X2_longestWith_6 N n u1 u3 K69 k) σ v4 v5 = some out := hm
    unfold lb_X2_longestWith_6 at hm
    by_cases q1 : u3 ≤ v5
    · have hm := (if_pos q1).symm.trans hm
      exact (hK69 _ _ _ hm).trans rfl
    · have hm := (if_neg q1).symm.trans hm
      obtain ⟨_, hm⟩ := gb_some hm
      obtain ⟨_, hm⟩ := gb_some hm
      obtain ⟨_, hm⟩ := gb_some hm
      by_cases q2 : 0 < ((σ 34 (ix (u1 + (σ 38 (ix v5))))) - (σ 34 (ix (u1 + v4))))
      · have hm := (if_pos q2).symm.trans hm
        exact (ih _ _ _ hm hK69).trans rfl
      · have hm := (if_neg q2).symm.trans hm
        by_cases q3 : ((σ 34 (ix (u1 + (σ 38 (ix v5))))) - (σ 34 (ix (u1 + v4)))) = 0
        · have hm := (if_pos q3).symm.trans hm
          by_cases q4 : (σ 38 (ix v5)) ≤ v4
          · have hm := (if_pos q4).symm.trans hm
            exact (ih _ _ _ hm hK69).trans rfl
          · have hm := (if_neg q4).symm.trans hm
            exact (ih _ _ _ hm hK69).trans rfl
        · have hm := (if_neg q3).symm.trans hm
          exact (ih _ _ _ hm hK69).trans rfl
theorem fr_X2_longestWith {N n : Nat} {σ : Sg} {p0 : Int32} {p1 : Int32} {p2 : Int32} {r : Int32} {σ' : Sg} {c j : Nat} (hc : nt [] [] c j = true) (hm : f_X2_longestWith N n σ p0 p1 p2 = some (r, σ')) : σ' c j = σ c j := by
  unfold f_X2_longestWith at hm
  refine (frl_X2_longestWith_6 (nt_sub hc (by decide) (by decide)) N _ _ _ hm ?_).trans rfl
  intro σ8 w9 w10 hm
  cases hm
  exact rfl
