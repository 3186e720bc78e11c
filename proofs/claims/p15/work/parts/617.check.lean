theorem ch_WF {σ σ' : Sg} {F Wd : Nat} {ar lo st le : Nat → Nat} (h : PI σ F Wd ar lo st le) {f g : Nat} (hg : g < f) (hf : f < F) (k : Ch (st f) (le f) σ σ') (hW : WF σ F ar lo st le g) (hl : 0 < le g) : WF σ' F ar lo st le g := by
  obtain ⟨g1, g2, g3, g4, g5, g6, g7, g8, g9, g10, g11⟩ := h
  have hd := g10 g f hg hf
  have e8 : ∀ w, w < le g → σ' 8 (st g + w) = σ 8 (st g + w) := fun w hw => k.2 _ (by omega)
  have e6 : ∀ j, σ' 6 j = σ 6 j := fun j => k.1 6 j (by omega) (by omega) (by omega)
  have e7 : ∀ j, σ' 7 j = σ 7 j := fun j => k.1 7 j (by omega) (by omega) (by omega)
  refine ⟨(e8 0 hl).trans hW.1, fun w hw => ?_⟩
  rcases hW.2 w hw with p | ⟨o, y, d, h1, h2, h3, h4, h5, h6, h7, h8, h9, h10⟩
  · exact Or.inl ((e8 w hw).trans p)
  · exact Or.inr ⟨o, y, d, h1, h2, (e6 _).trans h3, (e8 w hw).trans h4, h5, h6, fun q => ⟨(h7 q).1, (e7 _).trans (h7 q).2⟩, fun q => ⟨(h8 q).1, (e7 _).trans (h8 q).2.1, (e8 y (h8 q).1).trans (h8 q).2.2⟩, fun q => ⟨(h9 q).1, (e7 _).trans (h9 q).2⟩, fun q1 q2 => ⟨(h10 q1 q2).1, (e8 _ (h10 q1 q2).1).trans (h10 q1 q2).2⟩⟩
/-- only what CHECK writes -/
def CK (σ σ' : Sg) : Prop := ∀ c j, c ≠ 8 → c ≠ 10 → ¬ (c = 9 ∧ j = 2) → σ' c j = σ c j
theorem loopB_ok {N n : Nat} (hN : 1000 ≤ N) {σ0 : Sg} {F Wd : Nat} {ar lo st le : Nat → Nat} (hle : ∀ f, f < F → 0 < le f) :
    ∀ (k v : Nat) (σ : Sg), v ≤ F → F < v + k → PI σ F Wd ar lo st le → CK σ0 σ → (∀ f, f < v → WF σ F ar lo st le f) →
      Ok (lf_X0_firstFault_54 N n (fun σ12 _ => some (0, σ12)) k σ (nI v)) (fun y => CK σ0 y.2 ∧ PI y.2 F Wd ar lo st le ∧ (y.1 = 0 → ∀ f, f < F → WF y.2 F ar lo st le f)) := by
  intro k
  induction k with
  | zero => intro v σ h1 h2; omega
  | succ k ih =>
    intro v σ h1 h2 hp hC hW
    have hp' := hp
    obtain ⟨g1, g2, -⟩ := hp'
    show Ok (lb_X0_firstFault_54 N n _ (lf_X0_firstFault_54 N n _ k) σ (nI v)) _
    unfold lb_X0_firstFault_54
    rw [g1]
    refine ok_if (fun c => ?_) (fun c => ?_)
    · rw [le_nn (by omega) (by omega)] at c
      exact ok_ret ⟨hC, hp, fun _ f hf => hW f (by omega)⟩
    · rw [le_nn (by omega) (by omega)] at c
      refine ok_bd (faultOfFunc_ok hN hp (f := v) (by omega) (hle v (by omega))) (fun r σ1 _ hr => ?_)
      obtain ⟨hCh, hr⟩ := hr
      have hp1 := ch_PI hCh hp
      have hC1 : CK σ0 σ1 := fun c j q1 q2 q3 => (hCh.1 c j q1 q2 q3).trans (hC c j q1 q2 q3)
      refine ok_if (fun z => ?_) (fun z => ok_ret ⟨hC1, hp1, fun q => absurd q z⟩)
      rw [ad_nl v 1]
      refine ih (v + 1) σ1 (by omega) (by omega) hp1 hC1 (fun f hf => ?_)
      by_cases e : f = v
      · rw [e]; exact hr z
      · exact ch_WF hp (g := f) (f := v) (by omega) (by omega) hCh (hW f (by omega)) (hle f (by omega))
theorem loopA_ok {N n : Nat} {σ : Sg} {F Wd : Nat} {ar lo st le : Nat → Nat} {K : Sg → Int32 → Option (Int32 × Sg)} {P : Int32 × Sg → Prop} (hp : PI σ F Wd ar lo st le) (hb : ∀ f, f < F → P (nI (6 + 8 * f), σ)) (hK : (∀ f, f < F → 0 < le f) → ∀ x, Ok (K σ x) P) :
    ∀ (k v : Nat), v ≤ F → F < v + k → (∀ f, f < v → 0 < le f) → Ok (lf_X0_firstFault_15 N n K k σ (nI v)) P := by
  obtain ⟨g1, g2, g3, g4, g5, g6, g7, g8, g9, -⟩ := hp
  intro k
  induction k with
  | zero => intro v h1 h2; omega
  | succ k ih =>
    intro v h1 h2 hv
    show Ok (lb_X0_firstFault_15 N n K (lf_X0_firstFault_15 N n K k) σ (nI v)) P
    unfold lb_X0_firstFault_15
    rw [g1]
    refine ok_if (fun c => ?_) (fun c => ?_)
    · rw [le_nn (by omega) (by omega)] at c
      exact hK (fun f hf => hv f (by omega)) _
    · rw [le_nn (by omega) (by omega)] at c
      have q9 := g9 v (by omega)
      rw [gb_nI (by omega) (by omega), ix_nI (k := v) (by omega), g8 v (by omega), ml_ln v 8, ad_ln, ad_nl v 1]
      refine ok_if (fun z => ok_ret (hb v (by omega))) (fun z => ih (v + 1) (by omega) (by omega) (fun f hf => ?_))
      by_cases e : f = v
      · rw [e]
        exact Nat.pos_of_ne_zero (fun x => z (by rw [x]; rfl))
      · exact hv f (by omega)
theorem firstFault_ok {N n : Nat} (hN : 1000 ≤ N) {σ : Sg} {F Wd : Nat} {ar lo st le : Nat → Nat} (hp : PI σ F Wd ar lo st le) :
    Ok (f_X0_firstFault N n σ) (fun y => CK σ y.2 ∧ PI y.2 F Wd ar lo st le ∧ (y.1 = 0 → 0 < F ∧ (∀ f, f < F → 0 < le f) ∧ ∀ f, f < F → WF y.2 F ar lo st le f)) := by
  have hp' := hp
  obtain ⟨g1, g2, -⟩ := hp'
  have hr : CK σ σ := fun _ _ _ _ _ => rfl
  unfold f_X0_firstFault
  rw [g1]
  refine ok_if (fun z => ok_ret ⟨hr, hp, fun q => absurd (show (7 : Int32) = 0 from q) (by decide)⟩) (fun z => ?_)
  have hF : 0 < F := Nat.pos_of_ne_zero (fun x => z (by rw [x]; rfl))
  refine loopA_ok hp (fun f hf => ⟨hr, hp, fun q => absurd (show nI (6 + 8 * f) = 0 from q) (nI_ne0 (by omega) (by omega))⟩) (fun hle x => ?_) N 0 (by omega) (by omega) (fun f hf => by omega)
  exact ok_mono (loopB_ok hN hle N 0 σ (by omega) (by omega) hp hr (fun f hf => by omega)) (fun y hy => ⟨hy.1, hy.2.1, fun q => ⟨hF, hle, hy.2.2 q⟩⟩)
/-- FUNCS and WORDS; and where they are checked, they keep to all rules -/
def CI (σ : Sg) : Prop := ∃ F Wd, ∃ ar lo st le : Nat → Nat, PI σ F Wd ar lo st le ∧ (σ 1 9 = 0 ∨ σ 1 9 = 1) ∧ (σ 1 9 = 1 → 0 < F ∧ (∀ f, f < F → 0 < le f) ∧ ∀ f, f < F → WF σ F ar lo st le f)
theorem check_ok {N n : Nat} (hN : 1000 ≤ N) {σ : Sg} (h : CI σ) : Ok (f_X11_check N n σ) (fun y => CI y.2) := by
  obtain ⟨F, Wd, ar, lo, st, le, hp, h01, hW⟩ := h
  unfold f_X11_check
  refine ok_if (fun c => ?_) (fun c => ok_ret ⟨F, Wd, ar, lo, st, le, hp, h01, hW⟩)
  refine ok_bd (firstFault_ok hN hp) (fun r σ1 _ hr => ?_)
  obtain ⟨hC, hp1, hr⟩ := hr
  have key : ∀ (x : Int32), PI (sg σ1 1 9 x) F Wd ar lo st le ∧ ∀ f, WF σ1 F ar lo st le f → WF (sg σ1 1 9 x) F ar lo st le f := by
    intro x
    obtain ⟨g1, g2, g3, g4, g5, g6, g7, g8, g9⟩ := hp1
    refine ⟨⟨(sg_ne (by decide)).trans g1, g2, (sg_ne (by decide)).trans g3, g4, fun f hf => (sg_c (by decide)).trans (g5 f hf), fun f hf => (sg_c (by decide)).trans (g6 f hf), fun f hf => (sg_c (by decide)).trans (g7 f hf), fun f hf => (sg_c (by decide)).trans (g8 f hf), g9⟩, fun f hf => ⟨(sg_c (by decide)).trans hf.1, fun w hw => ?_⟩⟩
    rcases hf.2 w hw with p | p
    · exact Or.inl ((sg_c (by decide)).trans p)
    · exact Or.inr (WW_same (fun j => sg_c (by decide)) (fun j => sg_c (by decide)) (fun j => sg_c (by decide)) p)
  refine ok_if (fun z => ok_ret ?_) (fun z => ok_ret ?_)
  · obtain ⟨p1, p2, p3⟩ := hr z
    exact ⟨F, Wd, ar, lo, st, le, (key 1).1, Or.inr (sg_at σ1 1 9 1), fun _ => ⟨p1, p2, fun f hf => (key 1).2 f (p3 f hf)⟩⟩
  · exact ⟨F, Wd, ar, lo, st, le, (key 0).1, Or.inl (sg_at σ1 1 9 0), fun q => absurd ((sg_at σ1 1 9 0).symm.trans q) (by decide)⟩
