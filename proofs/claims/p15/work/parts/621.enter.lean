theorem enter_ok {N n : Nat} (hN : 1000 ≤ N) {σ : Sg} {F Wd : Nat} {ar lo st le : Nat → Nat} (hp : PI σ F Wd ar lo st le) {h : Nat} {fn nx bt : Nat → Nat} {tp g : Nat} (hg : g < F) (hl : 0 < le g) (hd0 : σ 8 (st g) = nI 0) (j1 : σ 45 7 = nI h) (j3 : h ≤ 30) (j4 : σ 45 12 = nI tp)
    (j6 : ∀ r, r < h → fn r < F ∧ σ 47 r = nI (fn r) ∧ σ 51 r = nI (bt r) ∧ bt r ≤ 12 * r) (j7 : ∀ r, r + 1 < h → σ 48 r = nI (nx r) ∧ nx r < le (fn r) ∧ bt r ≤ bt (r + 1) ∧ σ 8 (st (fn r) + nx r) = nI (bt (r + 1) - bt r + 1))
    (j8 : 0 < h → ar g ≤ tp ∧ tp ≤ 12 * h ∧ σ 48 (h - 1) = nI (nx (h - 1)) ∧ nx (h - 1) < le (fn (h - 1)) ∧ bt (h - 1) ≤ tp - ar g ∧ σ 8 (st (fn (h - 1)) + nx (h - 1)) = nI (tp - ar g - bt (h - 1) + 1)) (j9 : h = 0 → tp = 0) :
    Ok (f_X4_enter_X8 N n σ (nI g)) (fun y => SE F st le y.2 ∧ (h < 30 → y.2 45 3 = σ 45 3 ∧ y.2 45 7 = nI (h + 1))) := by
  unfold f_X4_enter_X8
  rw [j1]
  have e30 : (nI h < 30) = (h < 30) := lt_nl (k := 30) (by omega) (by decide)
  refine ok_if (fun c => ?_) (fun c => ?_)
  · rw [e30] at c
    have c : h < 30 := c
    have htp : tp ≤ 360 := by
      by_cases z : h = 0
      · have := j9 z; omega
      · have := j8 (by omega); omega
    refine ok_bd (openRoom_ok hN hp hg c htp j4 (by
      by_cases z : h = 0
      · exact Or.inl z
      · exact Or.inr (j8 (by omega)).1)) (fun r σ1 _ hr => ?_)
    obtain ⟨p1, p2, p3, p4⟩ := hr
    have p1 : σ1 45 12 = nI (if h = 0 then tp else tp - ar g) := p1
    have p2 : σ1 51 h = nI (if h = 0 then tp else tp - ar g) := p2
    have p3 : ∀ c j, c ≠ 49 → c ≠ 51 → ¬ (c = 45 ∧ j = 12) → σ1 c j = σ c j := p3
    have p4 : ∀ j, j ≠ h → σ1 51 j = σ 51 j := p4
    have e7 : σ1 45 7 = nI h := (p3 45 7 (by decide) (by decide) (by decide)).trans j1
    rw [e7, ix_nI (k := h) (by omega), gb_nI c (by decide), gb_nI c (by decide), ad_nl h 1]
    obtain ⟨t1, et⟩ : ∃ t1, t1 = if h = 0 then tp else tp - ar g := ⟨_, rfl⟩
    rw [← et] at p1 p2
    obtain ⟨σ2, e2⟩ : ∃ z, z = sg (sg (sg (sg σ1 47 h (nI g)) 48 h 0) 45 7 (nI (h + 1))) 45 6 (σ1 45 6 + 1) := ⟨_, rfl⟩
    have o47 : ∀ j, σ2 47 j = if j = h then nI g else σ 47 j := fun j => by
      rw [e2, sg_c (by decide), sg_c (by decide), sg_c (by decide), sg_if]
      by_cases z : j = h
      · rw [if_pos z, if_pos z]
      · rw [if_neg z, if_neg z]; exact p3 47 j (by decide) (by decide) (by omega)
    have o48 : ∀ j, σ2 48 j = if j = h then nI 0 else σ 48 j := fun j => by
      rw [e2, sg_c (by decide), sg_c (by decide), sg_if]
      by_cases z : j = h
      · rw [if_pos z, if_pos z]; rfl
      · rw [if_neg z, if_neg z, sg_c (by decide)]; exact p3 48 j (by decide) (by decide) (by omega)
    have o51 : ∀ j, σ2 51 j = if j = h then nI t1 else σ 51 j := fun j => by
      rw [e2, sg_c (by decide), sg_c (by decide), sg_c (by decide), sg_c (by decide)]
      by_cases z : j = h
      · rw [if_pos z, z]; exact p2
      · rw [if_neg z]; exact p4 j z
    have o8 : ∀ j, σ2 8 j = σ 8 j := fun j => by
      rw [e2, sg_c (by decide), sg_c (by decide), sg_c (by decide), sg_c (by decide)]
      exact p3 8 j (by decide) (by decide) (by omega)
    have o7 : σ2 45 7 = nI (h + 1) := by rw [e2, sg_ne (by decide)]; exact sg_at _ _ _ _
    have o12 : σ2 45 12 = nI t1 := by rw [e2, sg_ne (by decide), sg_ne (by decide), sg_c (by decide), sg_c (by decide)]; exact p1
    have o3 : σ2 45 3 = σ 45 3 := by rw [e2, sg_ne (by decide), sg_ne (by decide), sg_c (by decide), sg_c (by decide)]; exact p3 45 3 (by decide) (by decide) (by decide)
    have ht1 : t1 ≤ 12 * h := by
      rw [et]
      by_cases z : h = 0
      · rw [if_pos z]; have := j9 z; omega
      · rw [if_neg z]; have := j8 (by omega); omega
    refine ok_ret ⟨?_, fun _ => ⟨?_, ?_⟩⟩
    · show SE F st le (sg (sg (sg (sg σ1 47 h (nI g)) 48 h 0) 45 7 (nI (h + 1))) 45 6 (σ1 45 6 + 1))
      rw [← e2]
      refine Or.inr ⟨h + 1, fun r => if r = h then g else fn r, fun r => if r = h then 0 else nx r, fun r => if r = h then t1 else bt r, t1, o7, by omega, o12, fun r hr => ?_, fun r hr => ?_, fun _ => ?_, fun z => by omega, by omega⟩
      · rw [o47, o51]
        by_cases z : r = h
        · simp only [if_pos z]; exact ⟨hg, trivial, trivial, by rw [z]; exact ht1⟩
        · simp only [if_neg z]; exact j6 r (by omega)
      · have z : ¬ r = h := by omega
        rw [o48, o8]
        simp only [if_neg z]
        by_cases y : r + 1 = h
        · obtain ⟨q1, q2, q3, q4, q5, q6⟩ := j8 (by omega)
          have er : h - 1 = r := by omega
          have eh : t1 = tp - ar g := by rw [et, if_neg (by omega)]
          rw [er] at q3 q4 q5 q6
          simp only [if_pos y]
          rw [eh]
          exact ⟨q3, q4, q5, q6⟩
        · simp only [if_neg y]
          exact j7 r (by omega)
      · simp only [show h + 1 - 1 = h by omega, if_true]
        rw [o48, if_pos rfl, o8]
        exact ⟨rfl, hl, Nat.le_refl _, by rw [Nat.sub_self]; exact hd0⟩
    · show (sg (sg (sg (sg σ1 47 h (nI g)) 48 h 0) 45 7 (nI (h + 1))) 45 6 (σ1 45 6 + 1)) 45 3 = σ 45 3
      rw [← e2]; exact o3
    · show (sg (sg (sg (sg σ1 47 h (nI g)) 48 h 0) 45 7 (nI (h + 1))) 45 6 (σ1 45 6 + 1)) 45 7 = nI (h + 1)
      rw [← e2]; exact o7
  · rw [e30] at c
    have c : ¬ h < 30 := c
    rw [finish_eq, bd_s]
    exact ok_ret ⟨Or.inl (by
      show ¬ (sg (sg σ 45 3 4) 45 7 0) 45 3 = 0
      rw [fin_end]; decide), fun z => absurd z c⟩
