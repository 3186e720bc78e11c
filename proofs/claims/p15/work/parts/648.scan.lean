/-- holders: each register that is held has a value that lives there -/
def HS (σ : Sg) (f R : Nat) : Prop := ∀ r, r < R → σ 38 r = (-1) ∨ ∃ v, v < 22 ∧ σ 38 r = nI v ∧ σ 35 (f * 22 + v) = nI r ∧ σ 36 (f * 22 + v) = (-1)
/-- the scan at work: those of D have got their homes -/
def HG (σ : Sg) (f R : Nat) (D : Nat → Prop) : Prop :=
  (∀ v, v < 22 → D v → HM σ f R v) ∧ (∀ v, v < 22 → ¬ D v → σ 35 (f * 22 + v) = (-1) ∧ σ 36 (f * 22 + v) = (-1)) ∧ HS σ f R ∧ ∃ s, σ 37 f = nI s ∧ s ≤ cn (fun w => decide (¬ σ 36 (f * 22 + w) = (-1))) 22
theorem hg_iff {σ : Sg} {f R : Nat} {D D' : Nat → Prop} (h : HG σ f R D) (e : ∀ v, v < 22 → (D' v ↔ D v)) : HG σ f R D' :=
  ⟨fun v hv q => h.1 v hv ((e v hv).mp q), fun v hv q => h.2.1 v hv (fun z => q ((e v hv).mpr z)), h.2.2⟩
theorem hg_eq {σ σ' : Sg} {f R : Nat} {D : Nat → Prop} (h : HG σ f R D) (e : ∀ c j, 35 ≤ c → c ≤ 37 → σ' c j = σ c j) (hS : HS σ' f R) : HG σ' f R D := by
  obtain ⟨h1, h2, -, s, h4, h5⟩ := h
  have e6 : ∀ j, σ' 36 j = σ 36 j := fun j => e 36 j (by decide) (by decide)
  have e5 : ∀ j, σ' 35 j = σ 35 j := fun j => e 35 j (by decide) (by decide)
  refine ⟨fun v hv q => ?_, fun v hv q => ?_, hS, s, (e 37 f (by decide) (by decide)).trans h4, ?_⟩
  · unfold HM; rw [e6, e5]; exact h1 v hv q
  · rw [e6, e5]; exact h2 v hv q
  · simp only [e6]; exact h5
theorem giveBack_loop {N n : Nat} {σ0 : Sg} {f R : Nat} (hf : f < 12) (hR : R ≤ 14) {pl : Int32} :
    ∀ (k v : Nat) (σ : Sg), v ≤ R → R < v + k → HS σ f R → (∀ c j, c ≠ 38 → σ c j = σ0 c j) → Ok (lf_X2_giveBack_3 N n (nI (f * 22)) pl (nI R) (fun σ8 _ => some (0, σ8)) k σ (nI v)) (fun y => HS y.2 f R ∧ ∀ c j, c ≠ 38 → y.2 c j = σ0 c j) := by
  intro k
  induction k with
  | zero => intro v σ h1 h2; omega
  | succ k ih =>
    intro v σ h1 h2 hS hs
    show Ok (lb_X2_giveBack_3 N n (nI (f * 22)) pl (nI R) _ (lf_X2_giveBack_3 N n (nI (f * 22)) pl (nI R) _ k) σ (nI v)) _
    unfold lb_X2_giveBack_3
    refine ok_if (fun _ => ok_ret ⟨hS, hs⟩) (fun c => ?_)
    rw [le_nn (by omega) (by omega)] at c
    rw [gb_nI (show v < 16 by omega) (by decide), ix_nI (k := v) (by omega), ad_nl v 1]
    refine ok_if (fun _ => ih (v + 1) σ (by omega) (by omega) hS hs) (fun z => ?_)
    obtain ⟨w, hw, e1, e2, e3⟩ := (hS v (by omega)).resolve_left z
    rw [gb_nI (show v < 16 by omega) (by decide), e1, ad_nn, gb_nI (show f * 22 + w < 264 by omega) (by decide)]
    refine ok_if (fun _ => ih (v + 1) σ (by omega) (by omega) hS hs) (fun _ => ?_)
    rw [gb_nI (show v < 16 by omega) (by decide)]
    refine ih (v + 1) _ (by omega) (by omega) (fun r hr => ?_) (fun c j q => (sg_c q).trans (hs c j q))
    rw [sg_if]
    by_cases e : r = v
    · rw [if_pos e]; exact Or.inl rfl
    · rw [if_neg e]
      rcases hS r hr with q | ⟨w, w1, w2, w3, w4⟩
      · exact Or.inl q
      · exact Or.inr ⟨w, w1, w2, (sg_c (by decide)).trans w3, (sg_c (by decide)).trans w4⟩
theorem longest_loop {N n : Nat} {σ : Sg} {f R : Nat} (hf : f < 12) (hR : R ≤ 14) {v0 : Nat} (hS : HS σ f R) (hh : ∀ r, r < R → ¬ σ 38 r = (-1)) :
    ∀ (k v u : Nat), v ≤ R → R < v + k → u < 22 → (u = v0 ∨ ∃ r, r < R ∧ σ 38 r = nI u) → Ok (lf_X2_longestWith_6 N n (nI (f * 22)) (nI R) (fun σ8 w9 _ => some (w9, σ8)) k σ (nI u) (nI v)) (fun y => y.2 = σ ∧ ∃ u, u < 22 ∧ y.1 = nI u ∧ (u = v0 ∨ ∃ r, r < R ∧ σ 38 r = nI u)) := by
  intro k
  induction k with
  | zero => intro v u h1 h2; omega
  | succ k ih =>
    intro v u h1 h2 hu hq
    show Ok (lb_X2_longestWith_6 N n (nI (f * 22)) (nI R) _ (lf_X2_longestWith_6 N n (nI (f * 22)) (nI R) _ k) σ (nI u) (nI v)) _
    unfold lb_X2_longestWith_6
    refine ok_if (fun _ => ok_ret ⟨rfl, u, hu, rfl, hq⟩) (fun c => ?_)
    rw [le_nn (by omega) (by omega)] at c
    obtain ⟨w, hw, e1, e2, e3⟩ := (hS v (by omega)).resolve_left (hh v (by omega))
    rw [gb_nI (show v < 16 by omega) (by decide), ix_nI (k := v) (by omega), e1, ad_nn, ad_nn, gb_nI (show f * 22 + w < 264 by omega) (by decide), gb_nI (show f * 22 + u < 264 by omega) (by decide), ad_nl v 1]
    have a : Ok (lf_X2_longestWith_6 N n (nI (f * 22)) (nI R) (fun σ8 w9 _ => some (w9, σ8)) k σ (nI w) (nI (v + 1))) (fun y => y.2 = σ ∧ ∃ u, u < 22 ∧ y.1 = nI u ∧ (u = v0 ∨ ∃ r, r < R ∧ σ 38 r = nI u)) := ih (v + 1) w (by omega) (by omega) hw (Or.inr ⟨v, by omega, e1⟩)
    have b : Ok (lf_X2_longestWith_6 N n (nI (f * 22)) (nI R) (fun σ8 w9 _ => some (w9, σ8)) k σ (nI u) (nI (v + 1))) (fun y => y.2 = σ ∧ ∃ u, u < 22 ∧ y.1 = nI u ∧ (u = v0 ∨ ∃ r, r < R ∧ σ 38 r = nI u)) := ih (v + 1) u (by omega) (by omega) hu hq
    exact ok_if (fun _ => a) (fun _ => ok_if (fun _ => ok_if (fun _ => b) (fun _ => a)) (fun _ => b))
/-- the SLOT row with one more SLOT -/
theorem cn_slot {σ σ' : Sg} {f u : Nat} (hu : u < 22) (h0 : σ 36 (f * 22 + u) = (-1)) (h1 : ¬ σ' 36 (f * 22 + u) = (-1)) (h : ∀ w, w < 22 → w ≠ u → σ' 36 (f * 22 + w) = σ 36 (f * 22 + w)) :
    cn (fun w => decide (¬ σ' 36 (f * 22 + w) = (-1))) 22 = cn (fun w => decide (¬ σ 36 (f * 22 + w) = (-1))) 22 + 1 := by
  refine cn_set hu ?_ ?_ (fun w hw hn => ?_)
  · exact decide_eq_false (fun q => q h0)
  · exact decide_eq_true h1
  · show decide (¬ σ' 36 (f * 22 + w) = (-1)) = decide (¬ σ 36 (f * 22 + w) = (-1))
    rw [h w hw hn]
theorem cn_room {σ : Sg} {f u : Nat} (hu : u < 22) (h0 : σ 36 (f * 22 + u) = (-1)) : cn (fun w => decide (¬ σ 36 (f * 22 + w) = (-1))) 22 < 22 := by
  have h1 := cn_le (fun w => decide (¬ σ 36 (f * 22 + w) = (-1))) 22
  by_cases e : cn (fun w => decide (¬ σ 36 (f * 22 + w) = (-1))) 22 = 22
  · have h2 : decide (¬ σ 36 (f * 22 + u) = (-1)) = true := cn_full (p := fun w => decide (¬ σ 36 (f * 22 + w) = (-1))) e u hu
    exact absurd h0 (of_decide_eq_true h2)
  · omega
theorem free_loop {N n : Nat} {σ : Sg} {f R v : Nat} (hf : f < 12) (hR : R ≤ 14) (hv : v < 22) {D : Nat → Prop} (hD : ¬ D v) (hG : HG σ f R D) {K : Sg → Int32 → Option (Int32 × Sg)} {P : Int32 × Sg → Prop}
    (hP : ∀ (r : Int32) (σ' : Sg), HG σ' f R (fun w => D w ∨ w = v) → (∀ c j, (c < 35 ∨ 38 < c) → σ' c j = σ c j) → P (r, σ')) (hK : ∀ x : Int32, (∀ r, r < R → ¬ σ 38 r = (-1)) → Ok (K σ x) P) :
    ∀ (k t : Nat), t ≤ R → R < t + k → (∀ r, r < t → ¬ σ 38 r = (-1)) → Ok (lf_X2_giveOne_25 N n (nI f) (nI v) (nI R) (nI (f * 22)) K k σ (nI t)) P := by
  intro k
  induction k with
  | zero => intro t h1 h2; omega
  | succ k ih =>
    intro t h1 h2 hh
    show Ok (lb_X2_giveOne_25 N n (nI f) (nI v) (nI R) (nI (f * 22)) K (lf_X2_giveOne_25 N n (nI f) (nI v) (nI R) (nI (f * 22)) K k) σ (nI t)) P
    unfold lb_X2_giveOne_25
    refine ok_if (fun c => ?_) (fun c => ?_)
    · rw [le_nn (by omega) (by omega)] at c
      exact hK _ (fun r hr => hh r (by omega))
    · rw [le_nn (by omega) (by omega)] at c
      rw [gb_nI (show t < 16 by omega) (by decide), ix_nI (k := t) (by omega), ad_nl t 1]
      refine ok_if (fun z => ?_) (fun z => ih (t + 1) (by omega) (by omega) (fun r hr => ?_))
      · rw [gb_nI (show t < 16 by omega) (by decide), ad_nn, gb_nI (show f * 22 + v < 264 by omega) (by decide), ix_nI (k := f * 22 + v) (by omega)]
        obtain ⟨g1, g2, g3, s, g4, g5⟩ := hG
        obtain ⟨d1, d2⟩ := g2 v hv hD
        refine ok_ret (hP _ _ ⟨fun w hw q => ?_, fun w hw q => ?_, fun r hr => ?_, s, ?_, ?_⟩ (fun c j q => (sg_c (by omega)).trans (sg_c (by omega))))
        · by_cases e : w = v
          · subst e
            exact Or.inl ⟨(sg_c (by decide)).trans ((sg_c (by decide)).trans d2), by rw [sg_at]; exact bl_n (by omega)⟩
          · unfold HM
            rw [sg_c (by decide), sg_c (by decide), sg_ne (by omega), sg_c (by decide)]
            exact g1 w hw (q.resolve_right e)
        · have e : w ≠ v := fun z => q (Or.inr z)
          rw [sg_ne (by omega), sg_c (by decide), sg_c (by decide), sg_c (by decide)]
          exact g2 w hw (fun z => q (Or.inl z))
        · rw [sg_c (by decide), sg_if]
          by_cases e : r = t
          · rw [if_pos e]
            refine Or.inr ⟨v, hv, rfl, ?_, (sg_c (by decide)).trans ((sg_c (by decide)).trans d2)⟩
            rw [sg_at, e]
          · rw [if_neg e]
            rcases g3 r hr with q | ⟨w, w1, w2, w3, w4⟩
            · exact Or.inl q
            · have hne : w ≠ v := fun q => by
                rw [q, d1] at w3
                exact n1_ne (show r < 2147483648 by omega) w3.symm
              refine Or.inr ⟨w, w1, w2, ?_, (sg_c (by decide)).trans ((sg_c (by decide)).trans w4)⟩
              rw [sg_ne (by omega), sg_c (by decide)]; exact w3
        · rw [sg_c (by decide), sg_c (by decide)]; exact g4
        · simp (disch := decide) only [sg_c]; exact g5
      · by_cases e : r = t
        · rw [e]; exact z
        · exact hh r (by omega)
theorem giveOne_ok {N n : Nat} (hN : 1000 ≤ N) {σ : Sg} {f R v : Nat} (hf : f < 12) (hR : R ≤ 14) (hv : v < 22) {D : Nat → Prop} (hD : ¬ D v) (hG : HG σ f R D) :
    Ok (f_X2_giveOne N n σ (nI f) (nI v) (nI R)) (fun y => HG y.2 f R (fun w => D w ∨ w = v) ∧ ∀ c j, (c < 35 ∨ 38 < c) → y.2 c j = σ c j) := by
  unfold f_X2_giveOne
  rw [ml_nl f 22, ad_nn]
  have ef : f * OfNat.ofNat 22 = f * 22 := rfl
  rw [ef, gb_nI (show f * 22 + v < 264 by omega) (by decide), ix_nI (k := f * 22 + v) (by omega), ix_nI (k := f) (by omega)]
  unfold f_X2_giveBack
  refine ok_bd (giveBack_loop hf hR N 0 σ (by omega) (by omega) hG.2.2.1 (fun _ _ _ => rfl)) (fun r1 σ1 _ h1 => ?_)
  obtain ⟨h1, f1⟩ := h1
  have f1 : ∀ c j, c ≠ 38 → σ1 c j = σ c j := f1
  have h1 : HS σ1 f R := h1
  have hG1 : HG σ1 f R D := hg_eq hG (fun c j _ q => f1 c j (by omega)) h1
  refine free_loop hf hR hv hD hG1 (P := fun y => HG y.2 f R (fun w => D w ∨ w = v) ∧ ∀ c j, (c < 35 ∨ 38 < c) → y.2 c j = σ c j) (fun r σ' a b => ⟨a, fun c j q => (b c j q).trans (f1 c j (by omega))⟩) (fun x hh => ?_) N 0 (by omega) (by omega) (fun r hr => by omega)
  unfold f_X2_longestWith
  refine ok_bd (longest_loop hf hR (v0 := v) h1 hh N 0 v (by omega) (by omega) hv (Or.inl rfl)) (fun r2 σ2 _ h2 => ?_)
  obtain ⟨hs2, u, hu, eu, hor⟩ := h2
  have hs2 : σ2 = σ1 := hs2
  have eu : r2 = nI u := eu
  subst hs2
  subst eu
  obtain ⟨g1, g2, g3, s, g4, g5⟩ := hG1
  obtain ⟨d1, d2⟩ := g2 v hv hD
  rw [ad_nn, gb_nI hf (by decide), gb_nI (show f * 22 + u < 264 by omega) (by decide), gb_nI hf (by decide), gb_nI hf (by decide), ix_nI (k := f * 22 + u) (by omega), g4, ad_nl s 1]
  have hu36 : σ2 36 (f * 22 + u) = (-1) := by
    rcases hor with q | ⟨r, hr, q⟩
    · rw [q]; exact d2
    · obtain ⟨w, w1, w2, w3, w4⟩ := (h1 r hr).resolve_left (hh r hr)
      have : w = u := (nI_eq (by omega) (by omega)).mp (w2.symm.trans q)
      rw [← this]; exact w4
  have hs22 : s < 22 := by have := cn_room (σ := σ2) (f := f) hu hu36; omega
  refine ok_if (fun z => ?_) (fun z => ?_)
  · rw [eq_nn (by omega) (by omega)] at z
    subst z
    have o36 : ∀ j, (sg (sg σ2 36 (f * 22 + u) (nI s)) 37 f (nI (s + 1))) 36 j = if j = f * 22 + u then nI s else σ2 36 j := fun j => by rw [sg_c (by decide), sg_if]
    have o35 : ∀ j, (sg (sg σ2 36 (f * 22 + u) (nI s)) 37 f (nI (s + 1))) 35 j = σ2 35 j := fun j => by rw [sg_c (by decide), sg_c (by decide)]
    refine ok_ret ⟨⟨fun w hw q => ?_, fun w hw q => ?_, fun r hr => ?_, s + 1, show (sg (sg σ2 36 (f * 22 + u) (nI s)) 37 f (nI (s + 1))) 37 f = nI (s + 1) from sg_at _ _ _ _, ?_⟩, fun c j q => ((sg_c (by omega)).trans (sg_c (by omega))).trans (f1 c j (by omega))⟩
    · show HM (sg (sg σ2 36 (f * 22 + u) (nI s)) 37 f (nI (s + 1))) f R w
      unfold HM
      rw [o36, o35]
      by_cases e : w = u
      · rw [if_pos (by omega)]; exact Or.inr (bl_n hs22)
      · rw [if_neg (by omega)]; exact g1 w hw (q.resolve_right e)
    · have e : w ≠ u := fun z => q (Or.inr z)
      show (sg (sg σ2 36 (f * 22 + u) (nI s)) 37 f (nI (s + 1))) 35 _ = _ ∧ (sg (sg σ2 36 (f * 22 + u) (nI s)) 37 f (nI (s + 1))) 36 _ = _
      rw [o36, o35, if_neg (by omega)]
      exact g2 w hw (fun z => q (Or.inl z))
    · show (sg (sg σ2 36 (f * 22 + u) (nI s)) 37 f (nI (s + 1))) 38 r = _ ∨ ∃ v, v < 22 ∧ (sg (sg σ2 36 (f * 22 + u) (nI s)) 37 f (nI (s + 1))) 38 r = _ ∧ (sg (sg σ2 36 (f * 22 + u) (nI s)) 37 f (nI (s + 1))) 35 _ = _ ∧ (sg (sg σ2 36 (f * 22 + u) (nI s)) 37 f (nI (s + 1))) 36 _ = _
      rw [sg_c (by decide), sg_c (by decide)]
      obtain ⟨w, w1, w2, w3, w4⟩ := (g3 r hr).resolve_left (hh r hr)
      have hne : w ≠ u := fun q => by
        rw [q, d1] at w3
        exact n1_ne (show r < 2147483648 by omega) w3.symm
      exact Or.inr ⟨w, w1, w2, by rw [o35]; exact w3, by rw [o36, if_neg (by omega)]; exact w4⟩
    · rw [cn_slot (σ := σ2) (u := u) hu hu36 ?_ (fun w hw hn => ?_)]
      · omega
      · show ¬ (sg (sg σ2 36 (f * 22 + u) (nI s)) 37 f (nI (s + 1))) 36 _ = _
        rw [o36, if_pos rfl]; exact n1_ne (by omega)
      · show (sg (sg σ2 36 (f * 22 + u) (nI s)) 37 f (nI (s + 1))) 36 _ = _
        rw [o36, if_neg (by omega)]
  · rw [eq_nn (by omega) (by omega)] at z
    obtain ⟨r0, hr0, q0⟩ := hor.resolve_left z
    obtain ⟨w0, w1, w2, w3, w4⟩ := (h1 r0 hr0).resolve_left (hh r0 hr0)
    have ew : w0 = u := (nI_eq (by omega) (by omega)).mp (w2.symm.trans q0)
    subst ew
    rw [gb_nI (show f * 22 + w0 < 264 by omega) (by decide), gb_nI (show f * 22 + w0 < 264 by omega) (by decide), gb_nI (show f * 22 + v < 264 by omega) (by decide), w3, gb_nI (show r0 < 16 by omega) (by decide), ix_nI (k := r0) (by omega)]
    obtain ⟨σ3, e3⟩ : ∃ z, z = sg (sg (sg (sg (sg σ2 36 (f * 22 + w0) (nI s)) 37 f (nI (s + 1))) 35 (f * 22 + w0) (-1)) 35 (f * 22 + v) (nI r0)) 38 r0 (nI v) := ⟨_, rfl⟩
    have o36 : ∀ j, σ3 36 j = if j = f * 22 + w0 then nI s else σ2 36 j := fun j => by
      rw [e3]; simp (disch := decide) only [sg_c]; exact sg_if _ _ _ _ _
    have o35 : ∀ j, σ3 35 j = if j = f * 22 + v then nI r0 else if j = f * 22 + w0 then (-1) else σ2 35 j := fun j => by
      rw [e3, sg_c (by decide), sg_if, sg_if, sg_c (by decide), sg_c (by decide)]
    have o37 : σ3 37 f = nI (s + 1) := by
      rw [e3]; simp (disch := decide) only [sg_c]; exact sg_at _ _ _ _
    have o38 : ∀ r, σ3 38 r = if r = r0 then nI v else σ2 38 r := fun r => by
      rw [e3, sg_if]; simp (disch := decide) only [sg_c]
    have oc : ∀ c j, (c < 35 ∨ 38 < c) → σ3 c j = σ2 c j := fun c j q => by
      rw [e3, sg_c (by omega), sg_c (by omega), sg_c (by omega), sg_c (by omega), sg_c (by omega)]
    refine ⟨(0, σ3), by rw [e3], ⟨fun w hw q => ?_, fun w hw q => ?_, fun r hr => ?_, s + 1, o37, ?_⟩, fun c j q => (oc c j q).trans (f1 c j (by omega))⟩
    · show HM σ3 f R w
      unfold HM
      rw [o36, o35]
      by_cases e : w = w0
      · rw [if_pos (show f * 22 + w = f * 22 + w0 by omega)]; exact Or.inr (bl_n hs22)
      · rw [if_neg (show ¬ f * 22 + w = f * 22 + w0 by omega), if_neg (show ¬ f * 22 + w = f * 22 + w0 by omega)]
        by_cases e2 : w = v
        · rw [if_pos (by omega), e2]; exact Or.inl ⟨d2, bl_n hr0⟩
        · rw [if_neg (by omega)]; exact g1 w hw (q.resolve_right e2)
    · have e : w ≠ v := fun z => q (Or.inr z)
      have e2 : w ≠ w0 := fun z => by
        have := (g2 w hw (fun y => q (Or.inl y))).1
        rw [z, w3] at this
        exact n1_ne (show r0 < 2147483648 by omega) this
      show σ3 35 _ = _ ∧ σ3 36 _ = _
      rw [o36, o35, if_neg (show ¬ f * 22 + w = f * 22 + v by omega), if_neg (show ¬ f * 22 + w = f * 22 + w0 by omega), if_neg (show ¬ f * 22 + w = f * 22 + w0 by omega)]
      exact g2 w hw (fun z => q (Or.inl z))
    · show σ3 38 r = _ ∨ ∃ v, v < 22 ∧ σ3 38 r = _ ∧ σ3 35 _ = _ ∧ σ3 36 _ = _
      by_cases e : r = r0
      · refine Or.inr ⟨v, hv, by rw [o38, if_pos e], by rw [o35, if_pos rfl, e], by rw [o36, if_neg (by omega)]; exact d2⟩
      · obtain ⟨w, x1, x2, x3, x4⟩ := (g3 r hr).resolve_left (hh r hr)
        have n1 : w ≠ v := fun q => by
          rw [q, d1] at x3
          exact n1_ne (show r < 2147483648 by omega) x3.symm
        have n2 : w ≠ w0 := fun q => by
          rw [q, w3] at x3
          exact e ((nI_eq (by omega) (by omega)).mp x3.symm)
        exact Or.inr ⟨w, x1, by rw [o38, if_neg e]; exact x2, by rw [o35, if_neg (by omega), if_neg (by omega)]; exact x3, by rw [o36, if_neg (by omega)]; exact x4⟩
    · show s + 1 ≤ cn (fun w => decide (¬ σ3 36 (f * 22 + w) = (-1))) 22
      rw [cn_slot (σ := σ2) (u := w0) hu hu36 ?_ (fun w hw hn => ?_)]
      · omega
      · rw [o36, if_pos rfl]; exact n1_ne (by omega)
      · rw [o36, if_neg (by omega)]
/-- whose home is given when the scan is at the value v of the place p -/
def Dn (σ : Sg) (f p v : Nat) : Nat → Prop := fun w => ∃ q, q < 300 ∧ σ 33 (f * 22 + w) = nI q ∧ (q < p ∨ (q = p ∧ w < v))
theorem give81_loop {N n : Nat} (hN : 1000 ≤ N) {σ0 : Sg} {f R p : Nat} (hf : f < 12) (hR : R ≤ 14) (hp : p < 300) {K : Sg → Int32 → Option (Int32 × Sg)} {P : Int32 × Sg → Prop}
    (hK : ∀ (σ : Sg) (x : Int32), (∀ c j, (c < 35 ∨ 38 < c) → σ c j = σ0 c j) → HG σ f R (Dn σ0 f (p + 1) 0) → Ok (K σ x) P) :
    ∀ (k v : Nat) (σ : Sg), v ≤ 22 → 22 < v + k → (∀ c j, (c < 35 ∨ 38 < c) → σ c j = σ0 c j) → HG σ f R (Dn σ0 f p v) → Ok (lf_X2_give_81 N n (nI f) (nI R) (nI (f * 22)) (nI p) K k σ (nI v)) P := by
  intro k
  induction k with
  | zero => intro v σ h1 h2; omega
  | succ k ih =>
    intro v σ h1 h2 hs hG
    show Ok (lb_X2_give_81 N n (nI f) (nI R) (nI (f * 22)) (nI p) K (lf_X2_give_81 N n (nI f) (nI R) (nI (f * 22)) (nI p) K k) σ (nI v)) P
    unfold lb_X2_give_81
    have e0 : ((22 : Int32) ≤ nI v) = (22 ≤ v) := le_ln (k := 22) (by omega) (by decide)
    refine ok_if (fun c => ?_) (fun c => ?_)
    · rw [e0] at c
      refine hK σ _ hs (hg_iff hG (fun w hw => ⟨fun ⟨q, a, b, d⟩ => ⟨q, a, b, by omega⟩, fun ⟨q, a, b, d⟩ => ⟨q, a, b, by omega⟩⟩))
    · rw [e0] at c
      rw [ad_nn, gb_nI (show f * 22 + v < 264 by omega) (by decide), ix_nI (k := f * 22 + v) (by omega), ad_nl v 1, hs 33 _ (by omega)]
      refine ok_if (fun z => ?_) (fun z => ?_)
      · have hnd : ¬ Dn σ0 f p v v := fun ⟨q, a, b, d⟩ => by
          have : q = p := (nI_eq (by omega) (by omega)).mp (b.symm.trans z)
          omega
        refine ok_bd (giveOne_ok hN hf hR (by omega) hnd hG) (fun r σ1 _ h1 => ?_)
        obtain ⟨h1, f1⟩ := h1
        refine ih (v + 1) σ1 (by omega) (by omega) (fun c j q => (f1 c j q).trans (hs c j q)) (hg_iff h1 (fun w hw => ⟨fun ⟨q, a, b, d⟩ => ?_, fun q => ?_⟩))
        · by_cases e : w = v
          · exact Or.inr e
          · exact Or.inl ⟨q, a, b, by omega⟩
        · rcases q with ⟨q, a, b, d⟩ | q
          · exact ⟨q, a, b, by omega⟩
          · exact ⟨p, hp, by rw [q]; exact z, by omega⟩
      · refine ih (v + 1) σ (by omega) (by omega) hs (hg_iff hG (fun w hw => ⟨fun ⟨q, a, b, d⟩ => ?_, fun ⟨q, a, b, d⟩ => ⟨q, a, b, by omega⟩⟩))
        by_cases e : w = v
        · subst e
          by_cases e2 : q = p
          · exact absurd (e2 ▸ b) z
          · exact ⟨q, a, b, by omega⟩
        · exact ⟨q, a, b, by omega⟩
theorem give69_loop {N n : Nat} (hN : 1000 ≤ N) {σ0 : Sg} {f R T : Nat} (hf : f < 12) (hR : R ≤ 14) (hT : T ≤ 300) (h13 : σ0 13 6 = nI T) :
    ∀ (k v : Nat) (σ : Sg), v ≤ T → T < v + k → (∀ c j, (c < 35 ∨ 38 < c) → σ c j = σ0 c j) → HG σ f R (Dn σ0 f v 0) → Ok (lf_X2_give_69 N n (nI f) (nI R) (nI (f * 22)) (fun σ27 _ => some (0, σ27)) k σ (nI v)) (fun y => HG y.2 f R (Dn σ0 f T 0)) := by
  intro k
  induction k with
  | zero => intro v σ h1 h2; omega
  | succ k ih =>
    intro v σ h1 h2 hs hG
    show Ok (lb_X2_give_69 N n (nI f) (nI R) (nI (f * 22)) _ (lf_X2_give_69 N n (nI f) (nI R) (nI (f * 22)) _ k) σ (nI v)) _
    unfold lb_X2_give_69
    rw [(hs 13 6 (by omega)).trans h13]
    refine ok_if (fun c => ?_) (fun c => ?_)
    · rw [le_nn (by omega) (by omega)] at c
      obtain rfl : v = T := by omega
      exact ok_ret hG
    · rw [le_nn (by omega) (by omega)] at c
      refine give81_loop hN hf hR (by omega) (fun σ1 x a b => ?_) N 0 σ (by omega) (by omega) hs hG
      rw [ad_nl v 1]
      exact ih (v + 1) σ1 (by omega) (by omega) a b
theorem give_ok {N n : Nat} (hN : 1000 ≤ N) {σ : Sg} {F T f R : Nat} (hL : PL σ F T) (hf : f < 12) (hR : R ≤ 14) : Ok (f_X2_give N n σ (nI f) (nI R)) (fun y => ∀ p w, p < T → w < 22 → Nm σ p w → HM y.2 f R w) := by
  have hT := hL.2.2.1
  unfold f_X2_give
  rw [ml_nl f 22]
  have ef : f * OfNat.ofNat 22 = f * 22 := rfl
  rw [ef]
  refine ok_bd (forget_hm hN hf) (fun r1 σ1 _ h1 => ?_)
  obtain ⟨a1, a2, a3⟩ := h1
  have a1 : ∀ w, w < 22 → σ1 33 (f * 22 + w) = (-1) ∧ σ1 35 (f * 22 + w) = (-1) ∧ σ1 36 (f * 22 + w) = (-1) := a1
  have a2 : ∀ r, r < 16 → σ1 38 r = (-1) := a2
  have a3 : ∀ c j, (c < 33 ∨ 38 < c) → σ1 c j = σ c j := a3
  rw [gb_nI hf (by decide), ix_nI (k := f) (by omega)]
  obtain ⟨σ2, e2⟩ : ∃ z, z = sg σ1 37 f 0 := ⟨_, rfl⟩
  rw [← e2]
  have o2 : ∀ c j, c ≠ 37 → σ2 c j = σ1 c j := fun c j q => by rw [e2]; exact sg_c q
  have hL2 : PL σ2 F T := pl_eq hL (fun c j _ q => (o2 c j (by omega)).trans (a3 c j (by omega)))
  refine give22_loop hN hL2 hf (fun σ3 x hs h3 => ?_) N 0 σ2 (by omega) (by omega) (fun _ _ _ _ => rfl) (fun w hw => ⟨Or.inl ((o2 33 _ (by decide)).trans (a1 w hw).1), fun p hp => by omega⟩)
  refine ok_mono (give69_loop hN (σ0 := σ3) (T := T) hf hR hT ((hs 13 6 (by decide) (by decide)).trans hL2.1) N 0 σ3 (by omega) (by omega) (fun _ _ _ => rfl) ⟨fun v hv ⟨q, qa, qb, qc⟩ => by omega, fun v hv _ => ?_, fun r hr => Or.inl ?_, 0, ?_, Nat.zero_le _⟩) (fun y hy p w hp hw hn => ?_)
  · rw [hs 35 _ (by decide) (by decide), hs 36 _ (by decide) (by decide), o2 35 _ (by decide), o2 36 _ (by decide)]
    exact (a1 v hv).2
  · rw [hs 38 _ (by decide) (by decide), o2 38 _ (by decide)]
    exact a2 r (by omega)
  · rw [hs 37 _ (by decide) (by decide), e2]; exact sg_at _ _ _ _
  · obtain ⟨b1, b2⟩ := h3 w hw
    refine hy.1 w hw ?_
    have hn2 : Nm σ2 p w := by
      unfold Nm at hn ⊢
      rw [(o2 30 p (by decide)).trans (a3 30 p (by omega)), (o2 18 p (by decide)).trans (a3 18 p (by omega)), (o2 17 p (by decide)).trans (a3 17 p (by omega))]
      rcases hn with q | ⟨c, i, q1, q2, q3, q4⟩ | q
      · exact Or.inl q
      · exact Or.inr (Or.inl ⟨c, i, q1, q2, q3, ((o2 19 _ (by decide)).trans (a3 19 _ (by omega))).trans q4⟩)
      · exact Or.inr (Or.inr q)
    obtain ⟨q, q1, q2⟩ := b1.resolve_left (b2 p hp hn2)
    exact ⟨q, by omega, q2, Or.inl q1⟩
