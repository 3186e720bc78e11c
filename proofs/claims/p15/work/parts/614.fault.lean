theorem bd_s {β : Type} (r : Int32) (σ : Sg) (k : Int32 → Sg → Option β) : bd (some (r, σ)) k = k r σ := rfl
theorem tkN_le {F : Nat} {ar : Nat → Nat} (h : ∀ f, f < F → ar f ≤ 6) {k y : Nat} (hk : k ≤ 17) (hy : k = 14 → y < F) : tkN ar k y ≤ 6 := by
  unfold tkN
  by_cases q : k = 14
  · rw [if_pos q]; exact h y (hy q)
  · rw [if_neg q]
    match k, hk with
    | 0, _ => decide
    | 1, _ => decide
    | 2, _ => decide
    | 3, _ => decide
    | 4, _ => decide
    | 5, _ => decide
    | 6, _ => decide
    | 7, _ => decide
    | 8, _ => decide
    | 9, _ => decide
    | 10, _ => decide
    | 11, _ => decide
    | 12, _ => decide
    | 13, _ => decide
    | 14, _ => decide
    | 15, _ => decide
    | 16, _ => decide
    | 17, _ => decide
    | k + 18, h => omega
theorem ptN_le {k : Nat} (hk : k ≤ 17) : ptN k ≤ 2 := by
  match k, hk with
  | 0, _ => decide
  | 1, _ => decide
  | 2, _ => decide
  | 3, _ => decide
  | 4, _ => decide
  | 5, _ => decide
  | 6, _ => decide
  | 7, _ => decide
  | 8, _ => decide
  | 9, _ => decide
  | 10, _ => decide
  | 11, _ => decide
  | 12, _ => decide
  | 13, _ => decide
  | 14, _ => decide
  | 15, _ => decide
  | 16, _ => decide
  | 17, _ => decide
  | k + 18, h => omega
theorem faultOfWord_ok {N n : Nat} {σ : Sg} {F Wd : Nat} {ar lo st le : Nat → Nat} (h : PI σ F Wd ar lo st le) {f w d a : Nat} (hf : f < F) (hw : w < le f) (hD : DI (st f) (le f) σ) (ha : a < 2147483648) (e : σ 9 2 = nI a) (hd : d ≤ 12) (hdw : σ 8 (st f + w) = nI d) :
    Ok (f_X0_faultOfWord N n σ (nI f) (nI w)) (fun y => Gr (st f) (le f) σ y.2 ∧ (y.1 = 0 → WW y.2 F ar lo st le f w) ∧ ∃ m, m ≤ 5 ∧ y.1 = nI m) := by
  have hp := h
  obtain ⟨h1, h2, h3, h4, h5, h6, h7, h8, h9, h10, h11⟩ := h
  have q9 := h9 f hf
  unfold f_X0_faultOfWord
  rw [ix_nI (k := f) (by omega), h7 f hf, ad_nn, ix_nI (k := st f + w) (by omega), gb_nI (by omega) (by omega), gb_nI (by omega) (by omega), gb_nI (by omega) (by omega)]
  rcases isFormed_ok (N := N) (n := n) hp hf (σ 6 (st f + w)) (σ 7 (st f + w)) with ⟨⟨k, hk, ho, c1, c2, c3⟩, e1⟩ | e1
  · rw [e1, bd_s, if_neg (by decide)]
    obtain ⟨y, hy1, hy2, hy3⟩ : ∃ y, ((k = 1 ∨ k = 2) → y < lo f ∧ σ 7 (st f + w) = nI y) ∧ ((k = 12 ∨ k = 13) → y < le f ∧ σ 7 (st f + w) = nI y) ∧ (k = 14 → y < F ∧ σ 7 (st f + w) = nI y) := by
      by_cases q1 : k = 1 ∨ k = 2
      · obtain ⟨y, p1, p2⟩ := c1 q1
        exact ⟨y, fun _ => ⟨p1, p2⟩, fun q => by omega, fun q => by omega⟩
      · by_cases q2 : k = 12 ∨ k = 13
        · obtain ⟨y, p1, p2⟩ := c2 q2
          exact ⟨y, fun q => absurd q q1, fun _ => ⟨p1, p2⟩, fun q => by omega⟩
        · by_cases q3 : k = 14
          · obtain ⟨y, p1, p2⟩ := c3 q3
            exact ⟨y, fun q => absurd q q1, fun q => absurd q q2, fun _ => ⟨p1, p2⟩⟩
          · exact ⟨0, fun q => absurd q q1, fun q => absurd q q2, fun q => absurd q q3⟩
    have ht6 : tkN ar k y ≤ 6 := tkN_le (fun f hf => (h9 f hf).1) hk (fun q => (hy3 q).1)
    have hp2 := ptN_le hk
    rw [ho, takes_ok hp hk hy3, bd_s, gb_nI (by omega) (by omega), hdw, ix_nI (k := k) (by omega), pt_nI hk]
    refine ok_if (fun q1 => ?_) (fun q1 => ?_)
    · rw [le_nn (by omega) (by omega)] at q1
      rw [gb_nI (by omega) (by omega), gb_nI (by omega) (by omega), sb_nn q1, ad_nn]
      refine ok_if (fun q2 => ?_) (fun q2 => ?_)
      · rw [le_nl (k := 12) (by omega) (by decide)] at q2
        have q2 : d - tkN ar k y + ptN k ≤ 12 := q2
        have fin : ∀ σ' : Sg, Gr (st f) (le f) σ σ' → ((k = 12 ∨ k = 13) → σ' 8 (st f + y) = nI (d - tkN ar k y + ptN k)) → (k ≠ 12 → k ≠ 15 → w + 1 < le f ∧ σ' 8 (st f + (w + 1)) = nI (d - tkN ar k y + ptN k)) → WW σ' F ar lo st le f w := by
          intro σ' hG g1 g2
          have s6 := (hG.1 6 (st f + w) (by omega) (by omega)).trans ho
          have s7 := hG.1 7 (st f + w) (by omega) (by omega)
          exact ⟨k, y, d, hk, hd, s6, gr_keep ha e hG hw (by omega) hdw, q1, q2, fun q => ⟨(hy1 q).1, s7.trans (hy1 q).2⟩, fun q => ⟨(hy2 q).1, s7.trans (hy2 q).2, g1 q⟩, fun q => ⟨(hy3 q).1, s7.trans (hy3 q).2⟩, g2⟩
        refine ok_if (fun q3 => ?_) (fun q3 => ?_)
        · rw [eq_nl (k := 12) (by omega) (by decide)] at q3
          have q3 : k = 12 := q3
          rw [(hy2 (Or.inl q3)).2]
          refine ok_bd (reach_ok hp hf (hy2 (Or.inl q3)).1 q2 hD ha e) (fun r σ1 _ hr => ?_)
          obtain ⟨hG, hr⟩ := hr
          rcases hr with ⟨r1, r2⟩ | r1
          · refine ok_if (fun z => ?_) (fun z => ok_ret ⟨hG, fun _ => fin σ1 hG (fun _ => r2) (fun q => absurd q3 q), ⟨0, by omega, rfl⟩⟩)
            rw [show r = 1 from r1] at z
            exact absurd z (by decide)
          · refine ok_if (fun z => ok_ret ⟨hG, fun q => absurd (show (5 : Int32) = 0 from q) (by decide), ⟨5, by omega, rfl⟩⟩) (fun z => absurd r1 z)
        · rw [eq_nl (k := 12) (by omega) (by decide)] at q3
          have q3 : ¬ k = 12 := q3
          refine ok_if (fun q4 => ?_) (fun q4 => ?_)
          · rw [eq_nl (k := 15) (by omega) (by decide)] at q4
            have q4 : k = 15 := q4
            rw [if_neg (by rw [q4]; decide)]
            exact ok_ret ⟨gr_refl _ _ _, fun _ => fin σ (gr_refl _ _ _) (fun q => by omega) (fun _ q => absurd q4 q), ⟨0, by omega, rfl⟩⟩
          · rw [eq_nl (k := 15) (by omega) (by decide)] at q4
            have q4 : ¬ k = 15 := q4
            rw [gb_nI (by omega) (by omega), h8 f hf, ad_nl w 1]
            refine ok_if (fun q5 => ?_) (fun q5 => ?_)
            · rw [lt_nn (by show w + 1 < _; omega) (by omega)] at q5
              have q5 : w + 1 < le f := q5
              refine ok_bd (reach_ok hp hf q5 q2 hD ha e) (fun r σ1 _ hr => ?_)
              obtain ⟨hG, hr⟩ := hr
              rcases hr with ⟨r1, r2⟩ | r1
              · refine ok_if (fun z => ?_) (fun z => ?_)
                · rw [show r = 1 from r1] at z
                  exact absurd z (by decide)
                · refine ok_if (fun q6 => ?_) (fun q6 => ?_)
                  · rw [eq_nl (k := 13) (by omega) (by decide)] at q6
                    have q6 : k = 13 := q6
                    rw [(hy2 (Or.inr q6)).2]
                    obtain ⟨a1, l1, e1', -⟩ := hG.2.2 a ha e
                    refine ok_bd (reach_ok (gr_PI hG hp) hf (hy2 (Or.inr q6)).1 q2 (gr_DI ha e hG hD) (by omega) e1') (fun r3 σ3 _ hr3 => ?_)
                    obtain ⟨hG3, hr3⟩ := hr3
                    have hG4 := gr_trans hG hG3
                    rcases hr3 with ⟨r4, r5⟩ | r4
                    · refine ok_if (fun z => ?_) (fun z => ok_ret ⟨hG4, fun _ => fin σ3 hG4 (fun _ => r5) (fun _ _ => ⟨q5, gr_keep (a := a1) (by omega) e1' hG3 q5 (by omega) r2⟩), ⟨0, by omega, rfl⟩⟩)
                      rw [show r3 = 1 from r4] at z
                      exact absurd z (by decide)
                    · refine ok_if (fun z => ok_ret ⟨hG4, fun q => absurd (show (5 : Int32) = 0 from q) (by decide), ⟨5, by omega, rfl⟩⟩) (fun z => absurd r4 z)
                  · rw [eq_nl (k := 13) (by omega) (by decide)] at q6
                    have q6 : ¬ k = 13 := q6
                    exact ok_ret ⟨hG, fun _ => fin σ1 hG (fun q => by omega) (fun _ _ => ⟨q5, r2⟩), ⟨0, by omega, rfl⟩⟩
              · refine ok_if (fun z => ok_ret ⟨hG, fun q => absurd (show (5 : Int32) = 0 from q) (by decide), ⟨5, by omega, rfl⟩⟩) (fun z => absurd r1 z)
            · exact ok_ret ⟨gr_refl _ _ _, fun q => absurd (show (4 : Int32) = 0 from q) (by decide), ⟨4, by omega, rfl⟩⟩
      · exact ok_ret ⟨gr_refl _ _ _, fun q => absurd (show (3 : Int32) = 0 from q) (by decide), ⟨3, by omega, rfl⟩⟩
    · exact ok_ret ⟨gr_refl _ _ _, fun q => absurd (show (2 : Int32) = 0 from q) (by decide), ⟨2, by omega, rfl⟩⟩
  · rw [e1, bd_s, if_pos rfl]
    exact ok_ret ⟨gr_refl _ _ _, fun q => absurd (show (1 : Int32) = 0 from q) (by decide), ⟨1, by omega, rfl⟩⟩
