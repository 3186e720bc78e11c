/-- the reference's machines at their beginning -/
def BG (τ : Sg) : Prop := (∀ m, m < 2 → τ 89 m = 0 ∧ τ 90 m = 0 ∧ τ 91 m = 0 ∧ τ 92 m = 0 ∧ τ 93 m = 0) ∧ ∀ k, k < 12 → τ 100 k = 0
theorem begin57_loop {N n : Nat} {τ0 : Sg} :
    ∀ (k v : Nat) (τ : Sg), v ≤ 12 → 12 < v + k → (∀ c j, c ≠ 100 → τ c j = τ0 c j) → (∀ j, j < v → τ 100 j = 0) → Ok (lf_X12_begin_57 N n (fun σ12 _ => some (0, σ12)) k τ (nI v)) (fun y => (∀ c j, c ≠ 100 → y.2 c j = τ0 c j) ∧ ∀ j, j < 12 → y.2 100 j = 0) := by
  intro k
  induction k with
  | zero => intro v σ h1 h2; omega
  | succ k ih =>
    intro v σ h1 h2 hs hv
    show Ok (lb_X12_begin_57 N n _ (lf_X12_begin_57 N n _ k) σ (nI v)) _
    unfold lb_X12_begin_57
    have e0 : ((12 : Int32) ≤ nI v) = (12 ≤ v) := le_ln (k := 12) (by omega) (by decide)
    refine ok_if (fun c => ?_) (fun c => ?_)
    · rw [e0] at c
      exact ok_ret ⟨hs, fun j hj => hv j (by omega)⟩
    · rw [e0] at c
      rw [gb_nI (show v < 12 by omega) (by decide), ix_nI (k := v) (by omega), ad_nl v 1]
      refine ih (v + 1) _ (by omega) (by omega) (fun c j q => (sg_c q).trans (hs c j q)) (fun j hj => ?_)
      rw [sg_if]
      by_cases e : j = v
      · rw [if_pos e]
      · rw [if_neg e]; exact hv j (by omega)
theorem begin2_loop {N n : Nat} {K : Sg → Int32 → Option (Int32 × Sg)} {P : Int32 × Sg → Prop} (hK : ∀ (τ : Sg) (x : Int32), (∀ m, m < 2 → τ 89 m = 0 ∧ τ 90 m = 0 ∧ τ 91 m = 0 ∧ τ 92 m = 0 ∧ τ 93 m = 0) → Ok (K τ x) P) :
    ∀ (k v : Nat) (τ : Sg), v ≤ 2 → 2 < v + k → (∀ m, m < v → τ 89 m = 0 ∧ τ 90 m = 0 ∧ τ 91 m = 0 ∧ τ 92 m = 0 ∧ τ 93 m = 0) → Ok (lf_X12_begin_2 N n K k τ (nI v)) P := by
  intro k
  induction k with
  | zero => intro v σ h1 h2; omega
  | succ k ih =>
    intro v σ h1 h2 hv
    show Ok (lb_X12_begin_2 N n K (lf_X12_begin_2 N n K k) σ (nI v)) P
    unfold lb_X12_begin_2
    have e0 : ((2 : Int32) ≤ nI v) = (2 ≤ v) := le_ln (k := 2) (by omega) (by decide)
    refine ok_if (fun c => ?_) (fun c => ?_)
    · rw [e0] at c
      exact hK σ _ (fun m hm => hv m (by omega))
    · rw [e0] at c
      have gv : ∀ y : Option (Int32 × Sg), gb (nI v) 2 y = y := fun y => gb_nI (show v < 2 by omega) (by decide)
      simp only [gv]
      rw [ix_nI (k := v) (by omega), ad_nl v 1]
      refine ih (v + 1) _ (by omega) (by omega) (fun m hm => ?_)
      simp (disch := decide) only [sg_c, sg_if]
      by_cases e : m = v
      · simp only [if_pos e]; exact ⟨trivial, trivial, trivial, trivial, trivial⟩
      · simp only [if_neg e]; exact hv m (by omega)
theorem begin_ref {N n : Nat} (hN : 1000 ≤ N) {τ : Sg} : Ok (f_X12_begin N n τ) (fun y => BG y.2) := by
  unfold f_X12_begin
  refine begin2_loop (fun τ1 x h1 => ?_) N 0 τ (by omega) (by omega) (fun m hm => by omega)
  refine ok_mono (begin57_loop N 0 τ1 (by omega) (by omega) (fun _ _ _ => rfl) (fun j hj => by omega)) (fun y hy => ⟨fun m hm => ?_, hy.2⟩)
  rw [hy.1 89 m (by decide), hy.1 90 m (by decide), hy.1 91 m (by decide), hy.1 92 m (by decide), hy.1 93 m (by decide)]
  exact h1 m hm
theorem loopA_rel {N n : Nat} {σ τ : Sg} {F Wd : Nat} {ar lo st le : Nat → Nat} {K K' : Sg → Int32 → Option (Int32 × Sg)} {P : Int32 × Sg → Int32 × Sg → Prop} (hR : Rl σ τ F Wd ar lo st le) (hb : ∀ f, f < F → P (nI (6 + 8 * f), σ) (nI (6 + 8 * f), τ)) (hK : (∀ f, f < F → 0 < le f) → ∀ x x', Ok2 (K σ x) (K' τ x') P) :
    ∀ (k v : Nat), v ≤ F → F < v + k → (∀ f, f < v → 0 < le f) → Ok2 (lf_X0_firstFault_15 N n K k σ (nI v)) (lf_X12_check_26 N n K' k τ (nI v)) P := by
  obtain ⟨hp, hr, -⟩ := hR
  obtain ⟨g1, g2, g3, g4, g5, g6, g7, g8, g9, -⟩ := hp
  obtain ⟨r1, r2, r3, r4, r5, r6, r7, r8, -⟩ := hr
  intro k
  induction k with
  | zero => intro v h1 h2; omega
  | succ k ih =>
    intro v h1 h2 hv
    show Ok2 (lb_X0_firstFault_15 N n K (lf_X0_firstFault_15 N n K k) σ (nI v)) (lb_X12_check_26 N n K' (lf_X12_check_26 N n K' k) τ (nI v)) P
    unfold lb_X0_firstFault_15 lb_X12_check_26
    rw [g1, r1]
    refine o2_if Iff.rfl (fun c => ?_) (fun c => ?_)
    · rw [le_nn (by omega) (by omega)] at c
      exact hK (fun f hf => hv f (by omega)) _ _
    · rw [le_nn (by omega) (by omega)] at c
      rw [gb_nI (show v < 12 by omega) (by decide), gb_nI (show v < 12 by omega) (by decide), ix_nI (k := v) (by omega), g8 v (by omega), r8 v (by omega), ml_ln v 8, ad_ln, ad_nl v 1]
      refine o2_if Iff.rfl (fun z => o2_ret (hb v (by omega))) (fun z => ih (v + 1) (by omega) (by omega) (fun f hf => ?_))
      by_cases e : f = v
      · rw [e]
        exact Nat.pos_of_ne_zero (fun x => z (by rw [x]; rfl))
      · exact hv f (by omega)
/-- how CHECK ends on both sides -/
def CkQ (τ0 : Sg) (F : Nat) (st le : Nat → Nat) (x y : Int32 × Sg) : Prop := x.1 = y.1 ∧ ((x.1 = 0 ∧ (∀ f, f < F → DR x.2 y.2 (st f) (le f)) ∧ BG y.2 ∧ y.2 59 10 = 1) ∨ (¬ x.1 = 0 ∧ ∀ c j, c ≠ 66 → c ≠ 67 → y.2 c j = τ0 c j))
theorem loopB_rel {N n : Nat} (hN : 200000 ≤ N) {τ0 : Sg} {F Wd : Nat} {ar lo st le : Nat → Nat} (hle : ∀ f, f < F → 0 < le f) :
    ∀ (k v : Nat) (σ τ : Sg), v ≤ F → F < v + k → Rl σ τ F Wd ar lo st le → (∀ f, f < v → DR σ τ (st f) (le f)) → (∀ c j, c ≠ 66 → c ≠ 67 → τ c j = τ0 c j) →
      Ok2 (lf_X0_firstFault_54 N n (fun σ12 _ => some (0, σ12)) k σ (nI v)) (lf_X12_check_59 N n (fun σ13 _ => bd (f_X12_begin N n (sg σ13 59 10 1)) (fun _ σ16 => some (0, σ16))) k τ (nI v)) (CkQ τ0 F st le) := by
  intro k
  induction k with
  | zero => intro v σ τ h1 h2; omega
  | succ k ih =>
    intro v σ τ h1 h2 hR hD hf0
    have hp := hR.1
    have hp' := hp
    obtain ⟨g1, g2, g3, g4, g5, g6, g7, g8, g9, g10, g11⟩ := hp'
    show Ok2 (lb_X0_firstFault_54 N n _ (lf_X0_firstFault_54 N n _ k) σ (nI v)) (lb_X12_check_59 N n _ (lf_X12_check_59 N n _ k) τ (nI v)) _
    unfold lb_X0_firstFault_54 lb_X12_check_59
    rw [g1, hR.2.1.1]
    refine o2_if Iff.rfl (fun c => ?_) (fun c => ?_)
    · rw [le_nn (by omega) (by omega)] at c
      obtain ⟨⟨r1, τ1⟩, e1, b1⟩ := begin_ref (N := N) (n := n) (by omega) (τ := sg τ 59 10 1)
      show Ok2 (some ((0 : Int32), σ)) (bd (f_X12_begin N n (sg τ 59 10 1)) (fun _ σ16 => some ((0 : Int32), σ16))) _
      rw [e1, bd_s]
      refine o2_ret ⟨rfl, Or.inl ⟨rfl, fun f hf w hw => ?_, b1, ?_⟩⟩
      · show τ1 66 (st f + w) = σ 8 (st f + w)
        rw [show τ1 66 (st f + w) = τ 66 (st f + w) from (fr_X12_begin rfl e1).trans (sg_c (by decide))]
        exact hD f (by omega) w hw
      · show τ1 59 10 = 1
        exact (fr_X12_begin rfl e1).trans (sg_at _ _ _ _)
    · rw [le_nn (by omega) (by omega)] at c
      obtain ⟨⟨ra, σa⟩, ea, hCh, -⟩ := faultOfFunc_ok (N := N) (n := n) (by omega) hp (f := v) (by omega) (hle v (by omega))
      have hCh : Ch (st v) (le v) σ σa := hCh
      refine o2_bd (func_rel hN hR (f := v) (by omega) (hle v (by omega))) (fun r σ1 r' τ1 e1 e2 hh => ?_)
      obtain ⟨x1, ⟨m, m1, m2⟩, x3, x4⟩ := hh
      rw [e1] at ea
      cases ea
      have x1 : ra = r' := x1
      have m2 : ra = nI m := m2
      have m3 : r' = nI m := x1.symm.trans m2
      subst m3
      subst m2
      have hCh : Ch (st v) (le v) σ σa := hCh
      have x3 : DR σa τ1 (st v) (le v) := x3
      have x4 : F7 τ τ1 (st v) (le v) := x4
      have hf1 : ∀ c j, c ≠ 66 → c ≠ 67 → τ1 c j = τ0 c j := fun c j a b => (x4.1 c j a b).trans (hf0 c j a b)
      by_cases z : nI m = 0
      · rw [if_pos z, if_pos (show nI m ≤ 0 by rw [z]; decide), ad_nl v 1]
        refine ih (v + 1) σa τ1 (by omega) (by omega) ⟨ch_PI hCh hp, pr_same hR.2.1 (fun j _ => x4.1 59 j (by decide) (by decide)) (fun c j _ q => x4.1 c j (by omega) (by omega)), fun j hj => ?_⟩ (fun f hf w hw => ?_) hf1
        · rw [x4.1 64 j (by decide) (by decide), x4.1 65 j (by decide) (by decide), hCh.1 6 j (by decide) (by decide) (by omega), hCh.1 7 j (by decide) (by decide) (by omega)]
          exact hR.2.2 j hj
        · by_cases e : f = v
          · rw [e] at hw ⊢; exact x3 w hw
          · have := g10 f v (by omega) (by omega)
            rw [x4.2 _ (by omega), hCh.2 _ (by omega)]
            exact hD f (by omega) w hw
      · have hm0 : 0 < m := Nat.pos_of_ne_zero (fun x => z (by rw [x]; rfl))
        rw [if_neg z, if_neg (show ¬ nI m ≤ 0 by rw [show (0 : Int32) = nI 0 from rfl, le_nn (by omega) (by decide)]; omega)]
        exact o2_ret ⟨rfl, Or.inr ⟨z, hf1⟩⟩
theorem ff_rel {N n : Nat} (hN : 200000 ≤ N) {σ τ : Sg} {F Wd : Nat} {ar lo st le : Nat → Nat} (hR : Rl σ τ F Wd ar lo st le) :
    Ok2 (f_X0_firstFault N n σ) (if (τ 59 1) = 0 then some (7, τ) else lf_X12_check_26 N n (fun σ6 _ => lf_X12_check_59 N n (fun σ13 _ => bd (f_X12_begin N n (sg σ13 59 10 1)) (fun _ σ16 => some (0, σ16))) N σ6 0) N τ 0) (CkQ τ F st le) := by
  have hF := hR.1.2.1
  unfold f_X0_firstFault
  rw [hR.1.1, hR.2.1.1]
  refine o2_if Iff.rfl (fun _ => o2_ret ⟨rfl, Or.inr ⟨show ¬ (7 : Int32) = 0 by decide, fun _ _ _ _ => rfl⟩⟩) (fun _ => ?_)
  exact loopA_rel hR (fun f hf => ⟨rfl, Or.inr ⟨nI_ne0 (by omega) (by omega), fun _ _ _ _ => rfl⟩⟩) (fun hle x x' => loopB_rel hN hle N 0 σ τ (by omega) (by omega) hR (fun f hf => by omega) (fun _ _ _ _ => rfl)) N 0 (by omega) (by omega) (fun f hf => by omega)
theorem rl_thrown {σ τ : Sg} {F Wd : Nat} {ar lo st le : Nat → Nat} (h : Rl σ τ F Wd ar lo st le) (x : Int32) : Rl σ (sg τ 59 0 x) F Wd ar lo st le :=
  ⟨h.1, pr_thrown h.2.1 x, fun j hj => by rw [sg_c (by decide), sg_c (by decide)]; exact h.2.2 j hj⟩
/-- the class's check and the reference's -/
theorem check_rel {N n : Nat} (hN : 200000 ≤ N) {σ τ : Sg} {F Wd : Nat} {ar lo st le : Nat → Nat} (hR : Rl σ τ F Wd ar lo st le) (hck : τ 59 10 = σ 1 9) (hu : σ 1 9 = 0 ∨ σ 1 9 = 1) :
    Ok2 (f_X11_check N n σ) (f_X12_check N n τ) (fun x y => x.1 = y.1 ∧ y.2 59 10 = x.2 1 9 ∧ ((x.2 = σ ∧ y.2 = sg τ 59 0 0 ∧ σ 1 9 = 1) ∨ (σ 1 9 = 0 ∧ x.2 1 9 = 1 ∧ (∀ f, f < F → DR x.2 y.2 (st f) (le f)) ∧ BG y.2) ∨ (σ 1 9 = 0 ∧ x.2 1 9 = 0 ∧ ∀ c j, c ≠ 66 → c ≠ 67 → y.2 c j = sg τ 59 0 0 c j))) := by
  unfold f_X11_check f_X12_check
  rw [hck]
  have e1 : (τ 59 1) = (sg τ 59 0 0) 59 1 := (sg_ne (by decide)).symm
  rcases hu with q | q
  · rw [if_pos q, if_pos q, e1]
    obtain ⟨⟨r1, σ1⟩, ⟨r2, τ2⟩, a1, a2, x1, x2⟩ := ff_rel (N := N) (n := n) hN (rl_thrown hR 0)
    have x1 : r1 = r2 := x1
    subst x1
    rw [a1, a2, bd_s]
    rcases x2 with ⟨x3, x4, x5, x6⟩ | ⟨x3, x4⟩
    · have x3 : r1 = 0 := x3
      rw [if_pos x3]
      refine o2_ret ⟨rfl, ?_, Or.inr (Or.inl ⟨q, show sg σ1 1 9 1 1 9 = 1 from sg_at _ _ _ _, fun f hf w hw => ?_, x5⟩)⟩
      · show τ2 59 10 = sg σ1 1 9 1 1 9
        rw [sg_at]; exact x6
      · show τ2 66 (st f + w) = sg σ1 1 9 1 8 (st f + w)
        rw [sg_c (by decide)]; exact x4 f hf w hw
    · have x3 : ¬ r1 = 0 := x3
      have x4 : ∀ c j, c ≠ 66 → c ≠ 67 → τ2 c j = sg τ 59 0 0 c j := x4
      rw [if_neg x3]
      refine o2_ret ⟨rfl, ?_, Or.inr (Or.inr ⟨q, show sg σ1 1 9 0 1 9 = 0 from sg_at _ _ _ _, x4⟩)⟩
      show τ2 59 10 = sg σ1 1 9 0 1 9
      rw [sg_at, x4 59 10 (by decide) (by decide), sg_ne (by decide), hck, q]
  · rw [if_neg (by rw [q]; decide), if_neg (by rw [q]; decide)]
    refine o2_ret ⟨rfl, ?_, Or.inl ⟨rfl, rfl, q⟩⟩
    show sg τ 59 0 0 59 10 = σ 1 9
    rw [sg_ne (by decide)]; exact hck
