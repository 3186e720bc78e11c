/-- where a value lives: in a register below R, or in a SLOT -/
def HM (σ : Sg) (f R v : Nat) : Prop := (σ 36 (f * 22 + v) = (-1) ∧ Bl (σ 35 (f * 22 + v)) R) ∨ Bl (σ 36 (f * 22 + v)) 22
theorem forget_hm_loop {N n : Nat} {f : Nat} (hf : f < 12) {K : Sg → Int32 → Option (Int32 × Sg)} {P : Int32 × Sg → Prop} {σ0 : Sg} (hK : ∀ (σ : Sg) (x : Int32), (∀ w, w < 22 → σ 33 (f * 22 + w) = (-1) ∧ σ 35 (f * 22 + w) = (-1) ∧ σ 36 (f * 22 + w) = (-1)) → (∀ c j, (c < 33 ∨ 36 < c) → σ c j = σ0 c j) → Ok (K σ x) P) :
    ∀ (k v : Nat) (σ : Sg), v ≤ 22 → 22 < v + k → (∀ w, w < v → σ 33 (f * 22 + w) = (-1) ∧ σ 35 (f * 22 + w) = (-1) ∧ σ 36 (f * 22 + w) = (-1)) → (∀ c j, (c < 33 ∨ 36 < c) → σ c j = σ0 c j) → Ok (lf_X2_forget_2 N n (nI (f * 22)) K k σ (nI v)) P := by
  intro k
  induction k with
  | zero => intro v σ h1 h2; omega
  | succ k ih =>
    intro v σ h1 h2 hv hs
    show Ok (lb_X2_forget_2 N n (nI (f * 22)) K (lf_X2_forget_2 N n (nI (f * 22)) K k) σ (nI v)) P
    unfold lb_X2_forget_2
    have e0 : ((22 : Int32) ≤ nI v) = (22 ≤ v) := le_ln (k := 22) (by omega) (by decide)
    refine ok_if (fun c => ?_) (fun c => ?_)
    · rw [e0] at c
      exact hK σ _ (fun w hw => hv w (by omega)) hs
    · rw [e0] at c
      rw [ad_nn, ad_nl v 1, gb_nI (show f * 22 + v < 264 by omega) (by decide), gb_nI (show f * 22 + v < 264 by omega) (by decide), gb_nI (show f * 22 + v < 264 by omega) (by decide), gb_nI (show f * 22 + v < 264 by omega) (by decide), ix_nI (k := f * 22 + v) (by omega)]
      refine ih (v + 1) _ (by omega) (by omega) (fun w hw => ?_) (fun c j q => ?_)
      · simp (disch := decide) only [sg_c, sg_if]
        by_cases e : w = v
        · simp only [if_pos (show f * 22 + w = f * 22 + v by omega)]
          exact ⟨trivial, trivial, trivial⟩
        · simp only [if_neg (show ¬ f * 22 + w = f * 22 + v by omega)]
          exact hv w (by omega)
      · rw [sg_c (by omega), sg_c (by omega), sg_c (by omega), sg_c (by omega)]; exact hs c j q
theorem forget_hm {N n : Nat} (hN : 1000 ≤ N) {σ : Sg} {f : Nat} (hf : f < 12) : Ok (f_X2_forget N n σ (nI (f * 22))) (fun y => (∀ w, w < 22 → y.2 33 (f * 22 + w) = (-1) ∧ y.2 35 (f * 22 + w) = (-1) ∧ y.2 36 (f * 22 + w) = (-1)) ∧ (∀ r, r < 16 → y.2 38 r = (-1)) ∧ ∀ c j, (c < 33 ∨ 38 < c) → y.2 c j = σ c j) := by
  unfold f_X2_forget
  refine forget_hm_loop hf (fun σ1 x h1 h2 => ?_) N 0 σ (by omega) (by omega) (fun w hw => by omega) (fun _ _ _ => rfl)
  refine ok_bd (fill38_ok hN (-1)) (fun r σ2 _ h3 => ok_ret ⟨fun w hw => ?_, h3.2, fun c j q => ?_⟩)
  · have h4 : ∀ c j, c ≠ 38 → σ2 c j = σ1 c j := h3.1
    show σ2 33 _ = _ ∧ σ2 35 _ = _ ∧ σ2 36 _ = _
    rw [h4 33 _ (by decide), h4 35 _ (by decide), h4 36 _ (by decide)]
    exact h1 w hw
  · exact (show σ2 c j = σ1 c j from h3.1 c j (by omega)).trans (h2 c j (by omega))
theorem widen_loop {N n : Nat} {σ0 : Sg} {f p : Nat} (hf : f < 12) (hp : p < 300) {x : Int32} :
    ∀ (k v : Nat) (σ : Sg), v ≤ 22 → 22 < v + k → (∀ w, w < 22 → (σ 33 (f * 22 + w) = σ0 33 (f * 22 + w) ∨ (σ0 33 (f * 22 + w) = (-1) ∧ σ 33 (f * 22 + w) = nI p)) ∧ (w < v → bt x w = true → ¬ σ 33 (f * 22 + w) = (-1))) → (∀ c j, c ≠ 33 → c ≠ 34 → σ c j = σ0 c j) →
      Ok (lf_X2_widen_3 N n (nI (f * 22)) (nI p) x (fun σ7 _ => some (0, σ7)) k σ (nI v)) (fun y => (∀ w, w < 22 → (y.2 33 (f * 22 + w) = σ0 33 (f * 22 + w) ∨ (σ0 33 (f * 22 + w) = (-1) ∧ y.2 33 (f * 22 + w) = nI p)) ∧ (bt x w = true → ¬ y.2 33 (f * 22 + w) = (-1))) ∧ ∀ c j, c ≠ 33 → c ≠ 34 → y.2 c j = σ0 c j) := by
  intro k
  induction k with
  | zero => intro v σ h1 h2; omega
  | succ k ih =>
    intro v σ h1 h2 hv hs
    show Ok (lb_X2_widen_3 N n (nI (f * 22)) (nI p) x _ (lf_X2_widen_3 N n (nI (f * 22)) (nI p) x _ k) σ (nI v)) _
    unfold lb_X2_widen_3
    have e0 : ((22 : Int32) ≤ nI v) = (22 ≤ v) := le_ln (k := 22) (by omega) (by decide)
    refine ok_if (fun c => ?_) (fun c => ?_)
    · rw [e0] at c
      exact ok_ret ⟨fun w hw => ⟨(hv w hw).1, (hv w hw).2 (by omega)⟩, hs⟩
    · rw [e0] at c
      rw [ad_nl v 1, ad_nn, ix_nI (k := f * 22 + v) (by omega)]
      refine ok_if (fun z => ?_) (fun z => ?_)
      · rw [b_tst (by omega)] at z
        refine ih (v + 1) σ (by omega) (by omega) (fun w hw => ⟨(hv w hw).1, fun q1 q2 => ?_⟩) hs
        by_cases e : w = v
        · rw [e, z] at q2; exact nomatch q2
        · exact (hv w hw).2 (by omega) q2
      · rw [gb_nI (show f * 22 + v < 264 by omega) (by decide), gb_nI (show f * 22 + v < 264 by omega) (by decide)]
        refine ok_if (fun z2 => ?_) (fun z2 => ?_)
        · rw [gb_nI (show f * 22 + v < 264 by omega) (by decide)]
          refine ih (v + 1) _ (by omega) (by omega) (fun w hw => ?_) (fun c j q1 q2 => (sg_c q1).trans ((sg_c q2).trans (hs c j q1 q2)))
          rw [sg_if, sg_c (by decide)]
          by_cases e : f * 22 + w = f * 22 + v
          · rw [if_pos e]
            refine ⟨Or.inr ⟨?_, rfl⟩, fun _ _ => n1_ne (by omega)⟩
            rcases (hv w hw).1 with q | q
            · rw [← q, e]; exact z2
            · exact q.1
          · rw [if_neg e]
            exact ⟨(hv w hw).1, fun q1 q2 => (hv w hw).2 (by omega) q2⟩
        · refine ih (v + 1) _ (by omega) (by omega) (fun w hw => ?_) (fun c j q1 q2 => (sg_c q2).trans (hs c j q1 q2))
          rw [sg_c (by decide)]
          refine ⟨(hv w hw).1, fun q1 q2 => ?_⟩
          by_cases e : w = v
          · rw [e]; exact z2
          · exact (hv w hw).2 (by omega) q2
theorem widen_ok {N n : Nat} (hN : 1000 ≤ N) {σ : Sg} {f p : Nat} (hf : f < 12) (hp : p < 300) (x : Int32) :
    Ok (f_X2_widen N n σ (nI (f * 22)) (nI p) x) (fun y => (∀ w, w < 22 → (y.2 33 (f * 22 + w) = σ 33 (f * 22 + w) ∨ (σ 33 (f * 22 + w) = (-1) ∧ y.2 33 (f * 22 + w) = nI p)) ∧ (bt x w = true → ¬ y.2 33 (f * 22 + w) = (-1))) ∧ ∀ c j, c ≠ 33 → c ≠ 34 → y.2 c j = σ c j) :=
  widen_loop hf hp N 0 σ (by omega) (by omega) (fun w hw => ⟨Or.inl rfl, fun q => by omega⟩) (fun _ _ _ _ => rfl)
/-- the place p names w: it is LIVE ahead of it, read or written there -/
def Nm (σ : Sg) (p w : Nat) : Prop := bt (σ 30 p) w = true ∨ (∃ c i, σ 18 p = nI c ∧ c ≤ 6 ∧ i < c ∧ σ 19 (p * 6 + i) = nI w) ∨ σ 17 p = nI w
theorem give22_loop {N n : Nat} (hN : 1000 ≤ N) {σ0 : Sg} {F T f : Nat} (hL : PL σ0 F T) (hf : f < 12) {u4 : Int32} {K : Sg → Int32 → Option (Int32 × Sg)} {P : Int32 × Sg → Prop}
    (hK : ∀ (σ : Sg) (x : Int32), (∀ c j, c ≠ 33 → c ≠ 34 → σ c j = σ0 c j) → (∀ w, w < 22 → (σ 33 (f * 22 + w) = (-1) ∨ Bl (σ 33 (f * 22 + w)) T) ∧ ∀ p, p < T → Nm σ0 p w → ¬ σ 33 (f * 22 + w) = (-1)) → Ok (K σ x) P) :
    ∀ (k v : Nat) (σ : Sg), v ≤ T → T < v + k → (∀ c j, c ≠ 33 → c ≠ 34 → σ c j = σ0 c j) → (∀ w, w < 22 → (σ 33 (f * 22 + w) = (-1) ∨ Bl (σ 33 (f * 22 + w)) v) ∧ ∀ p, p < v → Nm σ0 p w → ¬ σ 33 (f * 22 + w) = (-1)) → Ok (lf_X2_give_22 N n (nI f) u4 (nI (f * 22)) K k σ (nI v)) P := by
  have hT := hL.2.2.1
  intro k
  induction k with
  | zero => intro v σ h1 h2; omega
  | succ k ih =>
    intro v σ h1 h2 hs hv
    have hL1 : PL σ F T := pl_eq hL (fun c j _ q => hs c j (by omega) (by omega))
    show Ok (lb_X2_give_22 N n (nI f) u4 (nI (f * 22)) K (lf_X2_give_22 N n (nI f) u4 (nI (f * 22)) K k) σ (nI v)) P
    unfold lb_X2_give_22
    rw [hL1.1]
    refine ok_if (fun c => ?_) (fun c => ?_)
    · rw [le_nn (by omega) (by omega)] at c
      obtain rfl : v = T := by omega
      exact hK σ _ hs hv
    · rw [le_nn (by omega) (by omega)] at c
      rw [gb_nI (show v < 300 by omega) (by decide), ix_nI (k := v) (by omega), ad_nl v 1]
      have hpp := hL1.2.2.2.1 v (by omega)
      have hpp0 := hpp
      obtain ⟨kd, cc, a14, a18, a19, ak⟩ := hpp
      refine ok_bd (readSet_ok hN (by omega) a18 ak.2.1 a19) (fun r1 σ1 _ h1 => ?_)
      obtain ⟨hs1, h1⟩ := h1
      have hs1 : σ1 = σ := hs1
      subst hs1
      refine ok_bd (writtenSet_ok hN (by omega) hpp0) (fun r2 σ2 _ h2 => ?_)
      obtain ⟨hs2, h2⟩ := h2
      have hs2 : σ2 = σ1 := hs2
      subst hs2
      refine ok_bd (widen_ok hN hf (by omega) _) (fun r3 σ3 _ h3 => ?_)
      obtain ⟨h3, h4⟩ := h3
      have h4 : ∀ c j, c ≠ 33 → c ≠ 34 → σ3 c j = σ2 c j := h4
      refine ih (v + 1) σ3 (by omega) (by omega) (fun c j q1 q2 => (h4 c j q1 q2).trans (hs c j q1 q2)) (fun w hw => ?_)
      obtain ⟨w1, w2⟩ := h3 w hw
      have w1 : σ3 33 (f * 22 + w) = σ2 33 (f * 22 + w) ∨ (σ2 33 (f * 22 + w) = (-1) ∧ σ3 33 (f * 22 + w) = nI v) := w1
      obtain ⟨o1, o2⟩ := hv w hw
      refine ⟨?_, fun p hp hn => ?_⟩
      · rcases w1 with q | ⟨-, q⟩
        · rw [q]
          rcases o1 with z | ⟨z, z1, z2⟩
          · exact Or.inl z
          · exact Or.inr ⟨z, by omega, z2⟩
        · exact Or.inr ⟨v, by omega, q⟩
      · by_cases e : p = v
        · refine w2 ?_
          rw [e] at hn
          show bt ((σ2 30 v ||| r1) ||| r2) w = true
          rw [b_or, b_or, hs 30 v (by decide) (by decide)]
          rcases hn with q | ⟨c', i, q1, q2, q3, q4⟩ | q
          · rw [q]; rfl
          · have ec : c' = cc := (nI_eq (by omega) (by have := ak.2.1; omega)).mp ((q1.symm.trans (hs 18 v (by decide) (by decide)).symm).trans a18)
            have : bt r1 w = true := h1 i w (by omega) hw ((hs 19 _ (by decide) (by decide)).trans q4)
            rw [this, Bool.or_true, Bool.true_or]
          · have : bt r2 w = true := h2 w hw ((hs 17 _ (by decide) (by decide)).trans q)
            rw [this, Bool.or_true]
        · have h0 := o2 p (by omega) hn
          rcases w1 with q | ⟨q, -⟩
          · rw [q]; exact h0
          · exact absurd q h0
