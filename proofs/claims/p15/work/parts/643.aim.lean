/-- a place that doesn't jump needs no goal -/
theorem pp_nj {σ : Sg} {F : Nat} {Gp Gq : Nat → Prop} {p k : Nat} (h : Pp σ F Gp p) (hk : σ 14 p = nI k) (hk2 : k < 16) (hn : ¬ (k = 4 ∨ k = 5)) : Pp σ F Gq p := by
  obtain ⟨k', c, h1, h2, h3, h4⟩ := h
  have hk3 := pk_k h4
  have e : k' = k := (nI_eq (by omega) (by omega)).mp (h1.symm.trans hk)
  obtain ⟨a1, a2, a3, a4, a5, a6⟩ := h4
  exact ⟨k', c, h1, h2, h3, a1, a2, a3, a4, fun q => absurd (e ▸ q) hn, a6⟩
theorem aim_ok {N n : Nat} {σ0 : Sg} {F T : Nat} {Gq : Nat → Prop} (hT : T ≤ 300) (hG : ∀ y, Gq y → y < 300 ∧ Bl (σ0 26 y) T) (h13 : σ0 13 6 = nI T) :
    ∀ (k v : Nat) (σ : Sg), v ≤ T → T < v + k → (∀ c j, c ≠ 16 → σ c j = σ0 c j) → (∀ p, p < v → Pp σ F (fun y => y < T) p) → (∀ p, v ≤ p → p < T → Pp σ F Gq p) →
      Ok (lf_X5_aimAnew_2 N n (fun σ9 _ => some (0, σ9)) k σ (nI v)) (fun y => (∀ c j, c ≠ 16 → y.2 c j = σ0 c j) ∧ ∀ p, p < T → Pp y.2 F (fun y => y < T) p) := by
  intro k
  induction k with
  | zero => intro v σ h1 h2; omega
  | succ k ih =>
    intro v σ h1 h2 hs hA hB
    show Ok (lb_X5_aimAnew_2 N n _ (lf_X5_aimAnew_2 N n _ k) σ (nI v)) _
    unfold lb_X5_aimAnew_2
    rw [(hs 13 6 (by decide)).trans h13]
    refine ok_if (fun c => ?_) (fun c => ?_)
    · rw [le_nn (by omega) (by omega)] at c
      exact ok_ret ⟨hs, fun p hp => hA p (by omega)⟩
    · rw [le_nn (by omega) (by omega)] at c
      have hv := hB v (Nat.le_refl _) (by omega)
      have hv0 := hv
      obtain ⟨kd, cn0, e14, e18, e19, hk⟩ := hv
      have hkd := pk_k hk
      rw [jumps_eq (by omega) e14 (by omega), bd_s, ad_nl v 1]
      refine ok_if (fun z => ?_) (fun z => ?_)
      · have hn : ¬ (kd = 4 ∨ kd = 5) := fun q => by rw [if_pos q] at z; exact absurd z (by decide)
        refine ih (v + 1) σ (by omega) (by omega) hs (fun p hp => ?_) (fun p q1 q2 => hB p (by omega) q2)
        by_cases e : p = v
        · rw [e]; exact pp_nj hv0 e14 (by omega) hn
        · exact hA p (by omega)
      · have hj : kd = 4 ∨ kd = 5 := Classical.byContradiction fun q => z (if_neg q)
        obtain ⟨a1, a2, a3, a4, a5, a6⟩ := hk
        obtain ⟨y, gy, ey⟩ := a5 hj
        obtain ⟨y3, t, t1, t2⟩ := hG y gy
        rw [ix_nI (k := v) (by omega), ey, ix_nI (k := y) (by omega), (hs 26 y (by decide)).trans t2, gb_nI (by omega) (by decide), gb_nI y3 (by decide), gb_nI (by omega) (by decide)]
        refine ih (v + 1) _ (by omega) (by omega) (fun c j q => (sg_c q).trans (hs c j q)) (fun p hp => ?_) (fun p q1 q2 => ?_)
        · by_cases e : p = v
          · subst e
            refine ⟨kd, cn0, (sg_c (by decide)).trans e14, (sg_c (by decide)).trans e18, fun i hi => ?_, ?_⟩
            · rw [sg_c (by decide)]; exact e19 i hi
            · rw [sg_c (by decide), sg_c (by decide), sg_at]
              exact ⟨a1, a2, a3, a4, fun _ => ⟨t, t1, rfl⟩, a6⟩
          · exact pp_same (hA p (by omega)) (sg_c (by decide)) (sg_c (by decide)) (sg_ne e) (sg_c (by decide)) (sg_c (by decide)) (fun i _ => sg_c (by decide))
        · exact pp_same (hB p (by omega) q2) (sg_c (by decide)) (sg_c (by decide)) (sg_ne (by omega)) (sg_c (by decide)) (sg_c (by decide)) (fun i _ => sg_c (by decide))
/-- all places of a FUNC: T of them, none goes anywhere else, the last one doesn't go on -/
def PL (σ : Sg) (F T : Nat) : Prop := σ 13 6 = nI T ∧ 0 < T ∧ T ≤ 300 ∧ (∀ p, p < T → Pp σ F (fun y => y < T) p) ∧ (σ 14 (T - 1) = nI 4 ∨ σ 14 (T - 1) = nI 6)
/-- while they are built: the WORDS ahead of v are gone through -/
def BI (σ0 σ : Sg) (F : Nat) (st le : Nat → Nat) (f v T : Nat) : Prop :=
  Pg σ0 σ ∧ σ 13 6 = nI T ∧ T ≤ v ∧ (∀ p, p < T → Pp σ F (Gw σ0 st le f) p) ∧
  (∀ u, u < v → ∃ t, σ 26 u = nI t ∧ t ≤ T ∧ (¬ σ0 8 (st f + u) = (-1) → t < T ∨ (v < le f ∧ ¬ σ0 8 (st f + v) = (-1)))) ∧
  (0 < T → (σ 14 (T - 1) = nI 4 ∨ σ 14 (T - 1) = nI 6) ∨ (v < le f ∧ ¬ σ0 8 (st f + v) = (-1)))
theorem pg_WW {σ σ' : Sg} {F : Nat} {ar lo st le : Nat → Nat} {f w : Nat} (h : Pg σ σ') (k : WW σ F ar lo st le f w) : WW σ' F ar lo st le f w :=
  WW_same (fun j => h 6 j (by decide) (by decide)) (fun j => h 7 j (by decide) (by decide)) (fun j => h 8 j (by decide) (by decide)) k
theorem build_loop {N n : Nat} (hN : 1000 ≤ N) {σ0 : Sg} {F Wd : Nat} {ar lo st le : Nat → Nat} (hp : PI σ0 F Wd ar lo st le) {f : Nat} (hf : f < F) (hW : WF σ0 F ar lo st le f) {K : Sg → Int32 → Option (Int32 × Sg)} {P : Int32 × Sg → Prop}
    (hK : ∀ (σ : Sg) (T : Nat) (x : Int32), BI σ0 σ F st le f (le f) T → Ok (K σ x) P) :
    ∀ (k v : Nat) (σ : Sg) (T : Nat), v ≤ le f → le f < v + k → BI σ0 σ F st le f v T → Ok (lf_X5_build_15 N n (nI f) (nI (st f)) K k σ (nI v)) P := by
  intro k
  induction k with
  | zero => intro v σ T h1 h2; omega
  | succ k ih =>
    intro v σ T h1 h2 hB
    have hB0 := hB
    obtain ⟨hg, b1, b2, b3, b4, b5⟩ := hB
    have hp1 := pg_PI hg hp
    have hp' := hp1
    obtain ⟨g1, g2, g3, g4, g5, g6, g7, g8, g9, g10, g11⟩ := hp'
    have q9 := g9 f hf
    have e8 : ∀ j, σ 8 j = σ0 8 j := fun j => hg 8 j (by decide) (by decide)
    show Ok (lb_X5_build_15 N n (nI f) (nI (st f)) K (lf_X5_build_15 N n (nI f) (nI (st f)) K k) σ (nI v)) P
    unfold lb_X5_build_15
    rw [gb_nI (show f < 12 by omega) (by decide), ix_nI (k := f) (by omega), g8 f hf]
    refine ok_if (fun c => ?_) (fun c => ?_)
    · rw [le_nn (by omega) (by omega)] at c
      obtain rfl : v = le f := by omega
      exact hK σ T _ hB0
    · rw [le_nn (by omega) (by omega)] at c
      rw [ad_nn, gb_nI (show v < 300 by omega) (by decide), gb_nI (show st f + v < 300 by omega) (by decide), ix_nI (k := st f + v) (by omega), ix_nI (k := v) (by omega), ad_nl v 1, b1, gb_nI (show f < 12 by omega) (by decide), g6 f hf]
      have o26 : ∀ u, (sg σ 26 v (nI T)) 26 u = if u = v then nI T else σ 26 u := fun u => sg_if _ _ _ _ _
      have hg1 : Pg σ0 (sg σ 26 v (nI T)) := fun c j a b => (sg_c (by omega)).trans (hg c j a b)
      have pp1 : ∀ p, p < T → Pp (sg σ 26 v (nI T)) F (Gw σ0 st le f) p := fun p hp => pp_same (b3 p hp) (sg_c (by decide)) (sg_c (by decide)) (sg_c (by decide)) (sg_c (by decide)) (sg_c (by decide)) (fun i _ => sg_c (by decide))
      refine ok_if (fun z => ?_) (fun z => ?_)
      · rw [e8] at z
        refine ih (v + 1) _ T (by omega) (by omega) ⟨hg1, (sg_c (by decide)).trans b1, by omega, pp1, fun u hu => ?_, fun q => ?_⟩
        · rw [o26]
          by_cases e : u = v
          · rw [if_pos e]
            exact ⟨T, rfl, Nat.le_refl _, fun q => absurd (e ▸ z) q⟩
          · rw [if_neg e]
            obtain ⟨t, t1, t2, t3⟩ := b4 u (by omega)
            exact ⟨t, t1, t2, fun q => Or.inl ((t3 q).resolve_right (fun q2 => q2.2 z))⟩
        · exact Or.inl (by rw [sg_c (by decide)]; exact (b5 q).resolve_right (fun q2 => q2.2 z))
      · rw [e8] at z
        have hww := (hW.2 v (by omega)).resolve_left z
        refine ok_bd (become_ok hN (pg_PI hg1 hp) hf (by omega) (pg_WW hg1 hww) ((sg_c (by decide)).trans b1) (by omega)) (fun r σ1 e hr => ?_)
        have s26 : ∀ u, σ1 26 u = if u = v then nI T else σ 26 u := fun u => (fr_X5_become rfl e).trans (o26 u)
        have hg2 : Pg σ0 σ1 := fun c j a b => (fr_X5_become (nt_hi (m := 8) (by decide) (by decide) b) e).trans (hg1 c j a b)
        have hgw : ∀ y, Gw (sg σ 26 v (nI T)) st le f y → Gw σ0 st le f y := fun y q => ⟨q.1, fun x => q.2 ((hg1 8 _ (by decide) (by decide)).trans x)⟩
        have hnx : Nx (sg σ 26 v (nI T)) st le f v → v + 1 < le f ∧ ¬ σ0 8 (st f + (v + 1)) = (-1) := fun q => ⟨q.1, fun x => q.2 ((hg1 8 _ (by decide) (by decide)).trans x)⟩
        rcases hr with ⟨hr1, hr2⟩ | ⟨kd, cc, w', m, g, hA, hk, hl⟩
        · have hr1 : σ1 = sg σ 26 v (nI T) := hr1
          refine ih (v + 1) σ1 T (by omega) (by omega) ⟨hg2, by rw [hr1]; exact (sg_c (by decide)).trans b1, by omega, by rw [hr1]; exact pp1, fun u hu => ?_, fun q => Or.inr (hnx hr2)⟩
          rw [s26]
          by_cases e : u = v
          · rw [if_pos e]
            exact ⟨T, rfl, Nat.le_refl _, fun _ => Or.inr (hnx hr2)⟩
          · rw [if_neg e]
            obtain ⟨t, t1, t2, t3⟩ := b4 u (by omega)
            exact ⟨t, t1, t2, fun _ => Or.inr (hnx hr2)⟩
        · have hA : Ad (sg σ 26 v (nI T)) σ1 T (nI kd) w' m g cc := hA
          refine ih (v + 1) σ1 (T + 1) (by omega) (by omega) ⟨hg2, hA.1, by omega, fun p hp => ?_, fun u hu => ?_, fun q => ?_⟩
          · by_cases e : p = T
            · rw [e]; exact ad_pp hA (pk_G hk hgw)
            · exact ad_old hA e (pp1 p (by omega))
          · rw [s26]
            by_cases e : u = v
            · rw [if_pos e]
              exact ⟨T, rfl, by omega, fun _ => Or.inl (by omega)⟩
            · rw [if_neg e]
              obtain ⟨t, t1, t2, t3⟩ := b4 u (by omega)
              exact ⟨t, t1, by omega, fun _ => Or.inl (by omega)⟩
          · rw [show T + 1 - 1 = T by omega, hA.2.1]
            rcases hl with hl | hl | hl
            · exact Or.inl (Or.inl (by rw [hl]))
            · exact Or.inl (Or.inr (by rw [hl]))
            · exact Or.inr (hnx hl)
theorem build_ok {N n : Nat} (hN : 1000 ≤ N) {σ : Sg} {F Wd : Nat} {ar lo st le : Nat → Nat} (hp : PI σ F Wd ar lo st le) {f : Nat} (hf : f < F) (hl : 0 < le f) (hW : WF σ F ar lo st le f) :
    Ok (f_X5_build N n σ (nI f)) (fun y => ∃ T, T ≤ le f ∧ PL y.2 F T) := by
  have hp' := hp
  obtain ⟨g1, g2, g3, g4, g5, g6, g7, g8, g9, g10, g11⟩ := hp'
  have q9 := g9 f hf
  unfold f_X5_build
  rw [gb_nI (show f < 12 by omega) (by decide), ix_nI (k := f) (by omega), g7 f hf]
  refine build_loop hN hp hf hW (fun σ1 T x hB => ?_) N 0 _ 0 (by omega) (by omega) ⟨fun c j a b => sg_c (by omega), sg_at _ _ _ _, by omega, fun p q => by omega, fun u q => by omega, fun q => by omega⟩
  obtain ⟨hg, b1, b2, b3, b4, b5⟩ := hB
  have t0 : 0 < T := by
    obtain ⟨t, t1, t2, t3⟩ := b4 0 hl
    have := t3 (by rw [Nat.add_zero, hW.1]; exact n1_ne (by decide))
    omega
  unfold f_X5_aimAnew
  refine ok_bd (aim_ok (σ0 := σ1) (F := F) (T := T) (Gq := Gw σ st le f) (by omega) (fun y gy => ?_) b1 N 0 σ1 (by omega) (by omega) (fun _ _ _ => rfl) (fun p q => by omega) (fun p _ q => b3 p q)) (fun r σ2 e hr => ok_ret ⟨T, by omega, ?_⟩)
  · obtain ⟨t, t1, t2, t3⟩ := b4 y gy.1
    have := t3 gy.2
    have := gy.1
    exact ⟨by omega, t, by omega, t1⟩
  · refine ⟨(hr.1 13 6 (by decide)).trans b1, t0, by omega, hr.2, ?_⟩
    show σ2 14 (T - 1) = nI 4 ∨ σ2 14 (T - 1) = nI 6
    rw [show σ2 14 (T - 1) = σ1 14 (T - 1) from hr.1 14 _ (by decide)]
    exact (b5 t0).resolve_right (fun q => by omega)
