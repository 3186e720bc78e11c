theorem nt_mk {T : List Nat} {Fs : List (Nat × Nat)} {c j : Nat} (h1 : ∀ d ∈ T, ¬ c = d) (h2 : ∀ p ∈ Fs, ¬ (c = p.1 ∧ j = p.2)) : nt T Fs c j = true := by
  unfold nt
  rw [Bool.and_eq_true, List.all_eq_true, List.all_eq_true]
  refine ⟨fun d hd => ?_, fun p hp => ?_⟩
  · cases hb : Nat.beq c d with
    | true => exact absurd (Nat.eq_of_beq_eq_true hb) (h1 d hd)
    | false => rfl
  · cases hb : Nat.beq c p.1 with
    | false => rfl
    | true => cases hb2 : Nat.beq j p.2 with
      | false => rfl
      | true => exact absurd ⟨Nat.eq_of_beq_eq_true hb, Nat.eq_of_beq_eq_true hb2⟩ (h2 p hp)
theorem tk_fn {F k y : Nat} {ar ar' : Nat → Nat} (h : ∀ g, g < F → ar g = ar' g) (hy : k = 14 → y < F) : tkN ar k y = tkN ar' k y := by
  unfold tkN
  by_cases e : k = 14
  · rw [if_pos e, if_pos e]; exact h y (hy e)
  · rw [if_neg e, if_neg e]
theorem ww_cs {σ τ : Sg} {F Wd : Nat} {ar lo st le : Nat → Nat} (h : Rl σ τ F Wd ar lo st le) {f w : Nat} (hf : f < F) (hw : w < le f) (hD : DR σ τ (st f) (le f)) (k : WW σ F ar lo st le f w) : WW (cs τ) F ar lo st le f w := by
  obtain ⟨hp, hr, he⟩ := h
  have q9 := hp.2.2.2.2.2.2.2.2.1 f hf
  obtain ⟨k, y, d, a1, a2, a3, a4, a5, a6, a7, a8, a9, a10⟩ := k
  have e6 : cs τ 6 (st f + w) = σ 6 (st f + w) := (he _ (by omega)).1
  have e7 : cs τ 7 (st f + w) = σ 7 (st f + w) := (he _ (by omega)).2
  have e8 : ∀ v, v < le f → cs τ 8 (st f + v) = σ 8 (st f + v) := fun v hv => hD v hv
  refine ⟨k, y, d, a1, a2, e6.trans a3, (e8 w hw).trans a4, a5, a6, fun q => ⟨(a7 q).1, e7.trans (a7 q).2⟩, fun q => ⟨(a8 q).1, e7.trans (a8 q).2.1, (e8 y (a8 q).1).trans (a8 q).2.2⟩, fun q => ⟨(a9 q).1, e7.trans (a9 q).2⟩, fun q1 q2 => ⟨(a10 q1 q2).1, (e8 _ (a10 q1 q2).1).trans (a10 q1 q2).2⟩⟩
theorem wf_cs {σ τ : Sg} {F Wd : Nat} {ar lo st le : Nat → Nat} (h : Rl σ τ F Wd ar lo st le) {f : Nat} (hf : f < F) (hl : 0 < le f) (hD : DR σ τ (st f) (le f)) (k : WF σ F ar lo st le f) : WF (cs τ) F ar lo st le f := by
  refine ⟨(hD 0 hl).trans k.1, fun w hw => ?_⟩
  rcases k.2 w hw with p | p
  · exact Or.inl ((hD w hw).trans p)
  · exact Or.inr (ww_cs h hf hw hD p)
/-- the REGISTER CODE of the first v FUNCS stands, within total t -/
def FCq (σ : Sg) (F v t : Nat) : Prop := ∀ g, g < v → ∃ S z, FCr σ F g S z ∧ S + z ≤ t
theorem rturn_loop {N n : Nat} (hN : 100000 ≤ N) {σ0 : Sg} {F Wd : Nat} {ar lo st le : Nat → Nat} (hp : PR σ0 F Wd ar lo st le) (hle : ∀ f, f < F → 0 < le f) (hW : ∀ f, f < F → WF (cs σ0) F ar lo st le f) {R : Nat} (hR : R ≤ 14) {K : Sg → Int32 → Option (Int32 × Sg)} {P : Int32 × Sg → Prop}
    (hK : ∀ (σ : Sg) (x : Int32), σ 59 37 = 0 → COr σ → (Fi σ → ∃ t, FCq σ F F t) → Ok (K σ x) P) :
    ∀ (k v : Nat) (σ : Sg) (t : Nat), v ≤ F → F < v + k → Hr σ0 σ → COr σ → σ 59 22 = nI (R + 2) → σ 59 30 = nI t → t ≤ 2000 → σ 59 37 = 0 → (Fi σ → FCq σ F v t) → Ok (lf_X12_turn_47 N n K k σ (nI v)) P := by
  have hF := hp.2.1
  intro k
  induction k with
  | zero => intro v σ t q1 q2; omega
  | succ k ih =>
    intro v σ t q1 q2 hH hC h22 h30 ht h37 hQ
    show Ok (lb_X12_turn_47 N n K (lf_X12_turn_47 N n K k) σ (nI v)) P
    unfold lb_X12_turn_47
    have hp1 := hr_PR hH hp
    rw [hp1.1]
    refine ok_if (fun c => ?_) (fun c => ?_)
    · rw [le_nn (by omega) (by omega)] at c
      obtain rfl : v = F := by omega
      exact hK σ _ h37 hC (fun q => ⟨t, hQ q⟩)
    · rw [le_nn (by omega) (by omega)] at c
      have hv : v < F := by omega
      refine ok_bd (lays_ok (by omega) hp1 hv (hle v hv) (hr_WF hH (hW v hv))) (fun r1 σ1 e1 h1 => ?_)
      obtain ⟨T1, -, l1⟩ := h1
      have hC1 : COr σ1 := fun u hu => by rw [fr_X12_lays (c := 75) rfl e1]; exact hC u hu
      refine ok_bd (forwards_ok (by omega) l1 hC1) (fun r2 σ2 e2 h2 => ?_)
      obtain ⟨l2, hC2⟩ := h2
      refine ok_bd (leavesOut_ok (by omega) l2) (fun r3 σ3 e3 h3 => ?_)
      obtain ⟨T, -, l3⟩ := h3
      rw [gb_nI (show v < 12 by omega) (by decide), ix_nI (k := v) (by omega), ad_nl v 1]
      -- what the steps so far keep
      have fr : ∀ c j, 59 ≤ c → c ≠ 68 → c ≠ 69 → c ≠ 70 → c ≠ 71 → c ≠ 72 → c ≠ 73 → c ≠ 74 → c ≠ 75 → c ≠ 76 → ¬ (c = 59 ∧ j = 12) → σ3 c j = σ c j := by
        intro c j q0 q1 q2 q3 q4 q5 q6 q7 q8 q9 q10
        have n1 : nt [68, 69, 70, 71, 73, 76] [(59, 12)] c j = true := nt_mk (by simp <;> omega) (by simp <;> omega)
        have n2 : nt [70, 74, 75] [] c j = true := nt_mk (by simp <;> omega) (by simp <;> omega)
        have n3 : nt [68, 69, 70, 71, 72] [(59, 12)] c j = true := nt_mk (by simp <;> omega) (by simp <;> omega)
        rw [fr_X12_leavesOut n1 e3, fr_X12_forwards n2 e2, fr_X12_lays n3 e1]
      obtain ⟨σ4, e4⟩ : ∃ z, z = sg σ3 82 v (σ3 59 12) := ⟨_, rfl⟩
      rw [← e4]
      have o4 : ∀ c j, c ≠ 82 → σ4 c j = σ3 c j := fun c j q => by rw [e4, sg_c q]
      have l4 : QL σ4 F T := ql_mid l3 (o4 59 12 (by decide)) (fun c j q1 q2 => o4 c j (by omega))
      have k22 : σ4 59 22 = nI (R + 2) := by
        rw [o4 59 22 (by decide), fr 59 22 (by decide) (by decide) (by decide) (by decide) (by decide) (by decide) (by decide) (by decide) (by decide) (by decide) (by decide)]; exact h22
      refine ok_bd (spans_ok (by omega) l4 (show v < 12 by omega) hR k22) (fun r5 σ5 e5 h5 => ?_)
      have h5 : ∀ p w, p < T → w < 22 → Nr σ4 p w → HMr σ5 v R w := h5
      have o5 : ∀ c j, c ≠ 77 → c ≠ 78 → c ≠ 79 → c ≠ 80 → c ≠ 81 → c ≠ 83 → σ5 c j = σ4 c j := fun c j a1 a2 a3 a4 a5 a6 => fr_X12_spans (nt_mk (by simp <;> omega) (by simp <;> omega)) e5
      have l5 : QL σ5 F T := ql_mid l4 (o5 59 12 (by decide) (by decide) (by decide) (by decide) (by decide) (by decide)) (fun c j q1 q2 => o5 c j (by omega) (by omega) (by omega) (by omega) (by omega) (by omega))
      have h5' : Hhr σ5 v R T := fun p w hp hw hn => h5 p w hp hw (by
        rcases hn with a | ⟨c, i, a1, a2, a3, a4⟩
        · rw [o5 76 _ (by decide) (by decide) (by decide) (by decide) (by decide) (by decide)] at a; exact Or.inl a
        · rw [o5 71 _ (by decide) (by decide) (by decide) (by decide) (by decide) (by decide)] at a1
          rw [o5 70 _ (by decide) (by decide) (by decide) (by decide) (by decide) (by decide)] at a4
          exact Or.inr ⟨c, i, a1, a2, a3, a4⟩)
      have g5 : ∀ c j, 59 ≤ c → c ≤ 67 → ¬ (c = 59 ∧ j = 12) → σ5 c j = σ c j := fun c j a1 a2 a3 => by
        rw [o5 c j (by omega) (by omega) (by omega) (by omega) (by omega) (by omega), o4 c j (by omega), fr c j (by omega) (by omega) (by omega) (by omega) (by omega) (by omega) (by omega) (by omega) (by omega) (by omega) a3]
      have g5' : ∀ c j, 84 ≤ c → σ5 c j = σ c j := fun c j a1 => by
        rw [o5 c j (by omega) (by omega) (by omega) (by omega) (by omega) (by omega), o4 c j (by omega), fr c j (by omega) (by omega) (by omega) (by omega) (by omega) (by omega) (by omega) (by omega) (by omega) (by omega) (by omega)]
      have hp5 := hp1.2.2.2.2
      have q9 := hp5.2.2.2.2.1 v hv
      have hH5 : Hr σ0 σ5 := hr_trans hH ⟨fun c j a b => g5 c j (by omega) (by omega) (by omega), g5 59 1 (by decide) (by decide) (by decide), g5 59 6 (by decide) (by decide) (by decide)⟩
      have hp6 := hr_PR hH5 hp
      refine ok_bd (codes_ok (by omega) (show v < 12 by omega) hR l5 h5' ((g5 59 22 (by decide) (by decide) (by decide)).trans h22) ((g5 59 30 (by decide) (by decide) (by decide)).trans h30) ht (hp6.2.2.2.2.2.1 v hv) (by omega) (hp6.2.2.2.2.1 v hv) (by omega)) (fun r6 σ6 e6 h6 => ?_)
      obtain ⟨t', b1, b2, b3, b4, b5, b6⟩ := h6
      have b4 : ∀ i, i < 5 * t → σ6 84 i = σ5 84 i := b4
      have b5 : ∀ g, g ≠ v → σ6 85 g = σ5 85 g ∧ σ6 86 g = σ5 86 g := b5
      have b6 : Fi σ6 → Fi σ5 ∧ FCr σ6 F v t (t' - t) := b6
      have o6 : ∀ c j, c ≤ 83 → ¬ (c = 59 ∧ j = 30) → ¬ (c = 59 ∧ j = 34) → ¬ (c = 59 ∧ j = 35) → σ6 c j = σ5 c j := fun c j a1 a2 a3 a4 => fr_X12_codes (nt_mk (by simp <;> omega) (by simp <;> omega)) e6
      refine ih (v + 1) σ6 t' (by omega) (by omega) (hr_trans hH5 ⟨fun c j a b => o6 c j (by omega) (by omega) (by omega) (by omega), o6 59 1 (by decide) (by decide) (by decide) (by decide), o6 59 6 (by decide) (by decide) (by decide) (by decide)⟩) (fun u hu => ?_) ((o6 59 22 (by decide) (by decide) (by decide) (by decide)).trans ((g5 59 22 (by decide) (by decide) (by decide)).trans h22)) b3 b2 ((o6 59 37 (by decide) (by decide) (by decide) (by decide)).trans ((g5 59 37 (by decide) (by decide) (by decide)).trans h37)) (fun q => ?_)
      · rw [o6 75 u (by decide) (by omega) (by omega) (by omega), o5 75 u (by decide) (by decide) (by decide) (by decide) (by decide) (by decide), o4 75 u (by decide), fr_X12_leavesOut (c := 75) rfl e3]
        exact hC2 u hu
      · obtain ⟨x1, x2⟩ := b6 q
        have x0 : Fi σ := by
          unfold Fi at x1 ⊢
          rw [g5 59 34 (by decide) (by decide) (by decide)] at x1
          exact x1
        intro g hg
        by_cases eg : g = v
        · subst eg
          exact ⟨t, t' - t, x2, by omega⟩
        · obtain ⟨S, z, y1, y2⟩ := hQ x0 g (by omega)
          exact ⟨S, z, fcr_same y1 ((b5 g eg).1.trans (g5' 85 g (by decide))) ((b5 g eg).2.trans (g5' 86 g (by decide))) (fun i hi => (b4 i (by omega)).trans (g5' 84 i (by decide))), by omega⟩
/-- a number from 3 to 16 -/
theorem regs_n {x : Int32} (c2 : ¬ x < 3) (c3 : x ≤ 16) : ∃ R, 1 ≤ R ∧ R ≤ 14 ∧ x = nI (R + 2) := by
  rcases cs_n x with q | ⟨m, hm, rfl⟩
  · exact absurd (Int32.lt_iff_toInt_lt.mpr (by
      have q1 := Int32.lt_iff_toInt_lt.mp q
      have q2 : (0 : Int32).toInt = 0 := by decide
      have q3 : (3 : Int32).toInt = 3 := by decide
      omega)) c2
  · rw [lt_nl (k := 3) (by omega) (by decide)] at c2
    rw [le_nl (k := 16) (by omega) (by decide)] at c3
    have c2 : ¬ m < 3 := c2
    have c3 : m ≤ 16 := c3
    exact ⟨m - 2, by omega, by omega, congrArg nI (by omega)⟩
theorem rturn_ok {N n : Nat} (hN : 100000 ≤ N) {σ : Sg} {F Wd : Nat} {ar lo st le : Nat → Nat} (hp : PR σ F Wd ar lo st le) (hW : ¬ σ 59 10 = 0 → (∀ f, f < F → 0 < le f) ∧ ∀ f, f < F → WF (cs σ) F ar lo st le f) (hC : COr σ) (x : Int32) :
    Ok (f_X12_turn N n σ x) (fun y => ((σ 59 10 = 0 ∨ x < 3 ∨ ¬ x ≤ 16) ∧ y.2 = sg σ 59 0 0) ∨ (¬ σ 59 10 = 0 ∧ ¬ x < 3 ∧ x ≤ 16 ∧ BG y.2 ∧ COr y.2 ∧ (y.2 59 37 = 0 ∨ (y.2 59 37 = 1 ∧ ∀ g, g < F → ∃ S z, FCr y.2 F g S z)))) := by
  unfold f_X12_turn
  refine ok_if (fun c => ok_ret (Or.inl ⟨Or.inl c, rfl⟩)) (fun c1 => ok_if (fun c => ok_ret (Or.inl ⟨Or.inr (Or.inl c), rfl⟩)) (fun c2 => ok_if (fun c3 => ?_) (fun c => ok_ret (Or.inl ⟨Or.inr (Or.inr c), rfl⟩))))
  obtain ⟨R, hR1, hR2, rfl⟩ := regs_n c2 c3
  obtain ⟨w1, w2⟩ := hW c1
  obtain ⟨σ1, e1⟩ : ∃ z, z = sg (sg (sg (sg (sg σ 59 0 0) 59 37 0) 59 34 0) 59 22 (nI (R + 2))) 59 30 0 := ⟨_, rfl⟩
  rw [← e1]
  have o1 : ∀ c j, c ≠ 59 → σ1 c j = σ c j := fun c j q => by rw [e1, sg_c q, sg_c q, sg_c q, sg_c q, sg_c q]
  have o2 : ∀ j, j ≠ 0 → j ≠ 37 → j ≠ 34 → j ≠ 22 → j ≠ 30 → σ1 59 j = σ 59 j := fun j q1 q2 q3 q4 q5 => by rw [e1, sg_ne q5, sg_ne q4, sg_ne q3, sg_ne q2, sg_ne q1]
  have hH : Hr σ σ1 := ⟨fun c j a b => o1 c j (by omega), o2 1 (by decide) (by decide) (by decide) (by decide) (by decide), o2 6 (by decide) (by decide) (by decide) (by decide) (by decide)⟩
  have k22 : σ1 59 22 = nI (R + 2) := by rw [e1, sg_ne (by decide), sg_at]
  have k30 : σ1 59 30 = nI 0 := by rw [e1]; exact sg_at _ _ _ _
  have k37 : σ1 59 37 = 0 := by rw [e1, sg_ne (by decide), sg_ne (by decide), sg_ne (by decide), sg_at]
  rw [show (0 : Int32) = nI 0 from rfl]
  refine rturn_loop hN (hr_PR hH hp) w1 (fun f hf => hr_WF hH (w2 f hf)) hR2 (fun σ2 x2 h37 hC2 hQ => ?_) N 0 σ1 0 (by omega) (by have := hp.2.1; omega) (hr_refl _) (fun u hu => by rw [o1 75 u (by decide)]; exact hC u hu) k22 k30 (by omega) k37 (fun _ g hg => by omega)
  refine ok_bd (begin_ref (by omega)) (fun r3 σ3 e3 h3 => ?_)
  have h3 : BG σ3 := h3
  have fr3 : ∀ c j, c ≤ 88 → σ3 c j = σ2 c j := fun c j q => fr_X12_begin (nt_hi (m := 88) (by decide) (by decide) q) e3
  have hC3 : COr σ3 := fun u hu => by rw [fr3 75 u (by decide)]; exact hC2 u hu
  refine ok_if (fun z => ok_ret (Or.inr ⟨c1, c2, c3, ?_, fun u hu => ?_, Or.inr ⟨show sg σ3 59 37 1 59 37 = 1 from sg_at _ _ _ _, fun g hg => ?_⟩⟩)) (fun z => ok_ret (Or.inr ⟨c1, c2, c3, h3, hC3, Or.inl ((fr3 59 37 (by decide)).trans h37)⟩))
  · refine ⟨fun m hm => ?_, fun k hk => ?_⟩
    · simp (disch := decide) only [sg_c]
      exact h3.1 m hm
    · show sg σ3 59 37 1 100 k = 0
      exact (sg_c (by decide)).trans (h3.2 k hk)
  · have e : sg σ3 59 37 1 75 u = σ3 75 u := sg_c (by decide)
    show sg σ3 59 37 1 75 u = (-1) ∨ Bl (sg σ3 59 37 1 75 u) 22
    rw [e]; exact hC3 u hu
  · have z : σ3 59 34 = nI 0 := z
    have f2 : Fi σ2 := by
      unfold Fi
      rw [← fr3 59 34 (by decide), z]
      decide
    obtain ⟨t, hq⟩ := hQ f2
    obtain ⟨S, zz, a1, -⟩ := hq g hg
    show ∃ S z, FCr (sg σ3 59 37 1) F g S z
    exact ⟨S, zz, fcr_same a1 ((sg_c (by decide)).trans (fr3 85 g (by decide))) ((sg_c (by decide)).trans (fr3 86 g (by decide))) (fun i _ => (sg_c (by decide)).trans (fr3 84 i (by decide)))⟩
