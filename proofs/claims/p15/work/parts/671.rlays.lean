/-- the reference's program is as it was -/
def Hr (τ τ' : Sg) : Prop := (∀ c j, 60 ≤ c → c ≤ 66 → τ' c j = τ c j) ∧ τ' 59 1 = τ 59 1 ∧ τ' 59 6 = τ 59 6
theorem hr_refl (τ : Sg) : Hr τ τ := ⟨fun _ _ _ _ => rfl, rfl, rfl⟩
theorem hr_trans {τ τ1 τ2 : Sg} (h : Hr τ τ1) (k : Hr τ1 τ2) : Hr τ τ2 := ⟨fun c j a b => (k.1 c j a b).trans (h.1 c j a b), k.2.1.trans h.2.1, k.2.2.trans h.2.2⟩
theorem hr_PR {τ τ' : Sg} {F Wd : Nat} {ar lo st le : Nat → Nat} (h : Hr τ τ') (k : PR τ F Wd ar lo st le) : PR τ' F Wd ar lo st le := by
  obtain ⟨h1, h2, h3, h4, h5, h6, h7, h8, h9⟩ := k
  exact ⟨h.2.1.trans h1, h2, h.2.2.trans h3, h4, fun f hf => (h.1 60 f (by decide) (by decide)).trans (h5 f hf), fun f hf => (h.1 61 f (by decide) (by decide)).trans (h6 f hf), fun f hf => (h.1 62 f (by decide) (by decide)).trans (h7 f hf), fun f hf => (h.1 63 f (by decide) (by decide)).trans (h8 f hf), h9⟩
theorem hr_WW {τ τ' : Sg} {F : Nat} {ar lo st le : Nat → Nat} {f w : Nat} (h : Hr τ τ') (k : WW (cs τ) F ar lo st le f w) : WW (cs τ') F ar lo st le f w :=
  WW_same (σ := cs τ) (σ' := cs τ') (fun j => h.1 64 j (by decide) (by decide)) (fun j => h.1 65 j (by decide) (by decide)) (fun j => h.1 66 j (by decide) (by decide)) k
theorem hr_WF {τ τ' : Sg} {F : Nat} {ar lo st le : Nat → Nat} {f : Nat} (h : Hr τ τ') (k : WF (cs τ) F ar lo st le f) : WF (cs τ') F ar lo st le f := by
  refine ⟨(h.1 66 _ (by decide) (by decide)).trans k.1, fun w hw => ?_⟩
  rcases k.2 w hw with p | p
  · exact Or.inl ((h.1 66 _ (by decide) (by decide)).trans p)
  · exact Or.inr (hr_WW h p)
theorem rneg {σ : Sg} {j : Nat} {F : Nat} {ar lo st le : Nat → Nat} {f w : Nat} (hW : WF (cs σ) F ar lo st le f) (hw : w < le f) (e : j = st f + w) : (σ 66 j = (-1) ∧ σ 66 j < 0) ∨ (∃ d, d ≤ 12 ∧ σ 66 j = nI d ∧ ¬ σ 66 j < 0 ∧ WW (cs σ) F ar lo st le f w ∧ ¬ σ 66 j = (-1)) := by
  subst e
  rcases hW.2 w hw with p | p
  · rw [cs8] at p
    exact Or.inl ⟨p, by rw [p]; decide⟩
  · have p0 := p
    obtain ⟨k, y, d, a1, a2, a3, a4, -⟩ := p
    rw [cs8] at a4
    exact Or.inr ⟨d, a2, a4, by rw [a4]; exact nI_pos (by omega), p0, by rw [a4]; exact n1_ne (by omega)⟩
/-- while they are laid -/
def BR (σ0 σ : Sg) (F : Nat) (st le : Nat → Nat) (f v T : Nat) : Prop :=
  Hr σ0 σ ∧ σ 59 12 = nI T ∧ T ≤ v ∧ (∀ p, p < T → Qp σ F (Gw (cs σ0) st le f) p) ∧
  (∀ u, u < v → ∃ t, σ 72 u = nI t ∧ t ≤ T ∧ (¬ σ0 66 (st f + u) = (-1) → t < T ∨ (v < le f ∧ ¬ σ0 66 (st f + v) = (-1)))) ∧
  (0 < T → (σ 68 (T - 1) = nI 4 ∨ σ 68 (T - 1) = nI 6) ∨ (v < le f ∧ ¬ σ0 66 (st f + v) = (-1)))
theorem lays_loop {N n : Nat} (hN : 1000 ≤ N) {σ0 : Sg} {F Wd : Nat} {ar lo st le : Nat → Nat} (hp : PR σ0 F Wd ar lo st le) {f : Nat} (hf : f < F) (hW : WF (cs σ0) F ar lo st le f) {K : Sg → Int32 → Option (Int32 × Sg)} {P : Int32 × Sg → Prop}
    (hK : ∀ (σ : Sg) (T : Nat) (x : Int32), BR σ0 σ F st le f (le f) T → Ok (K σ x) P) :
    ∀ (k v : Nat) (σ : Sg) (T : Nat), v ≤ le f → le f < v + k → BR σ0 σ F st le f v T → Ok (lf_X12_lays_14 N n (nI f) (nI (st f)) K k σ (nI v)) P := by
  intro k
  induction k with
  | zero => intro v σ T h1 h2; omega
  | succ k ih =>
    intro v σ T h1 h2 hB
    have hB0 := hB
    obtain ⟨hg, b1, b2, b3, b4, b5⟩ := hB
    have hp1 := hr_PR hg hp
    have hp' := hp1
    obtain ⟨g1, g2, g3, g4, g5, g6, g7, g8, g9, g10, g11⟩ := hp'
    have q9 := g9 f hf
    have e66 : ∀ j, σ 66 j = σ0 66 j := fun j => hg.1 66 j (by decide) (by decide)
    show Ok (lb_X12_lays_14 N n (nI f) (nI (st f)) K (lf_X12_lays_14 N n (nI f) (nI (st f)) K k) σ (nI v)) P
    unfold lb_X12_lays_14
    rw [gb_nI (show f < 12 by omega) (by decide), ix_nI (k := f) (by omega), g8 f hf]
    refine ok_if (fun c => ?_) (fun c => ?_)
    · rw [le_nn (by omega) (by omega)] at c
      obtain rfl : v = le f := by omega
      exact hK σ T _ hB0
    · rw [le_nn (by omega) (by omega)] at c
      rw [ad_nn, gb_nI (show v < 301 by omega) (by decide), gb_nI (show st f + v < 300 by omega) (by decide), ix_nI (k := st f + v) (by omega), ix_nI (k := v) (by omega), ad_nl v 1, b1, gb_nI (show st f + v < 300 by omega) (by decide), gb_nI (show st f + v < 300 by omega) (by decide), gb_nI (show f < 12 by omega) (by decide), gb_nI (show st f + v < 300 by omega) (by decide), g6 f hf]
      obtain ⟨σ1, e1⟩ : ∃ z, z = sg σ 72 v (nI T) := ⟨_, rfl⟩
      rw [← e1]
      have o1 : ∀ c j, c ≠ 72 → σ1 c j = σ c j := fun c j q => by rw [e1]; exact sg_c q
      have o72 : ∀ u, σ1 72 u = if u = v then nI T else σ 72 u := fun u => by rw [e1]; exact sg_if _ _ _ _ _
      have hg1 : Hr σ0 σ1 := hr_trans hg ⟨fun c j _ b => o1 c j (by omega), o1 59 1 (by decide), o1 59 6 (by decide)⟩
      have pp1 : ∀ p, p < T → Qp σ1 F (Gw (cs σ0) st le f) p := fun p hp => qp_same (b3 p hp) (o1 _ _ (by decide)) (o1 _ _ (by decide)) (o1 _ _ (by decide)) (fun i _ => o1 _ _ (by decide))
      rcases rneg (hr_WF hg hW) (show v < le f by omega) rfl with ⟨z1, z2⟩ | ⟨d, hd, z1, z2, hww, zn⟩
      · rw [if_pos z2]
        rw [e66] at z1
        refine ih (v + 1) σ1 T (by omega) (by omega) ⟨hg1, (o1 _ _ (by decide)).trans b1, by omega, pp1, fun u hu => ?_, fun q => ?_⟩
        · rw [o72]
          by_cases e : u = v
          · rw [if_pos e]
            exact ⟨T, rfl, Nat.le_refl _, fun q => absurd (e ▸ z1) q⟩
          · rw [if_neg e]
            obtain ⟨t, t1, t2, t3⟩ := b4 u (by omega)
            exact ⟨t, t1, t2, fun q => Or.inl ((t3 q).resolve_right (fun q2 => q2.2 z1))⟩
        · exact Or.inl (by rw [o1 _ _ (by decide)]; exact (b5 q).resolve_right (fun q2 => q2.2 z1))
      · rw [if_neg z2]
        rw [e66] at zn
        have m1 : σ 64 (st f + v) = σ1 64 (st f + v) := (o1 _ _ (by decide)).symm
        have m2 : σ 65 (st f + v) = σ1 65 (st f + v) := (o1 _ _ (by decide)).symm
        rw [z1, ad_nn, m1, m2]
        refine ok_bd (lay_ok hN (hr_PR hg1 hp) hf (by omega) (hr_WW (τ := σ) ⟨fun c j _ b => o1 c j (by omega), o1 59 1 (by decide), o1 59 6 (by decide)⟩ hww) ((o1 _ _ (by decide)).trans z1) (by omega) ((o1 _ _ (by decide)).trans b1) (by omega) _) (fun r σ2 e hr => ?_)
        have s72 : ∀ u, σ2 72 u = if u = v then nI T else σ 72 u := fun u => (fr_X12_lay rfl e).trans (o72 u)
        have hg2 : Hr σ0 σ2 := hr_trans hg1 ⟨fun c j a b => fr_X12_lay (by
          unfold nt
          rw [Bool.and_eq_true]
          refine ⟨List.all_eq_true.mpr fun d hd => ?_, List.all_eq_true.mpr fun p hp => ?_⟩
          · have : d ∈ [68, 69, 70, 71] := hd
            cases hb : Nat.beq c d with
            | false => rfl
            | true =>
              have e := Nat.eq_of_beq_eq_true hb
              subst e
              simp at this
              omega
          · have : p ∈ [(59, 12)] := hp
            simp at this
            subst this
            cases hb : Nat.beq c 59 with
            | false => rfl
            | true => have e := Nat.eq_of_beq_eq_true hb; omega) e, fr_X12_lay rfl e, fr_X12_lay rfl e⟩
        have ec : ∀ j, cs σ1 8 j = cs σ0 8 j := fun j => (o1 66 j (by decide)).trans (e66 j)
        have hgw : ∀ y, Gw (cs σ1) st le f y → Gw (cs σ0) st le f y := fun y q => ⟨q.1, fun x => q.2 ((ec _).trans x)⟩
        have hnx : Nx (cs σ1) st le f v → v + 1 < le f ∧ ¬ σ0 66 (st f + (v + 1)) = (-1) := fun q => ⟨q.1, fun x => q.2 ((ec _).trans x)⟩
        rcases hr with ⟨hr1, hr2⟩ | ⟨kd, cc, m, hA, hk, hl⟩
        · have hr1 : σ2 = σ1 := hr1
          refine ih (v + 1) σ2 T (by omega) (by omega) ⟨hg2, by rw [hr1]; exact (o1 _ _ (by decide)).trans b1, by omega, by rw [hr1]; exact pp1, fun u hu => ?_, fun q => Or.inr (hnx hr2)⟩
          rw [s72]
          by_cases e : u = v
          · rw [if_pos e]
            exact ⟨T, rfl, Nat.le_refl _, fun _ => Or.inr (hnx hr2)⟩
          · rw [if_neg e]
            obtain ⟨t, t1, t2, t3⟩ := b4 u (by omega)
            exact ⟨t, t1, t2, fun _ => Or.inr (hnx hr2)⟩
        · have hA : AdR σ1 σ2 T (nI kd) m cc := hA
          refine ih (v + 1) σ2 (T + 1) (by omega) (by omega) ⟨hg2, hA.1, by omega, fun p hp => ?_, fun u hu => ?_, fun q => ?_⟩
          · by_cases e : p = T
            · rw [e]; exact adr_qp hA (qk_G hk hgw)
            · exact adr_old hA e (pp1 p (by omega))
          · rw [s72]
            by_cases e : u = v
            · rw [if_pos e]
              exact ⟨T, rfl, by omega, fun _ => Or.inl (by omega)⟩
            · rw [if_neg e]
              obtain ⟨t, t1, t2, t3⟩ := b4 u (by omega)
              exact ⟨t, t1, by omega, fun _ => Or.inl (by omega)⟩
          · rw [show T + 1 - 1 = T by omega, hA.2.1]
            rcases hl with hl | hl | hl
            · exact Or.inl (Or.inl (by rw [hl]))
            · exact Or.inl (Or.inr (by rw [hl]))
            · exact Or.inr (hnx hl)
theorem raim_ok {N n : Nat} {σ0 : Sg} {F T : Nat} {Gq : Nat → Prop} (hT : T ≤ 300) (hG : ∀ y, Gq y → y < 301 ∧ Bl (σ0 72 y) T) (h12 : σ0 59 12 = nI T) :
    ∀ (k v : Nat) (σ : Sg), v ≤ T → T < v + k → (∀ c j, c ≠ 69 → σ c j = σ0 c j) → (∀ p, p < v → Qp σ F (fun y => y < T) p) → (∀ p, v ≤ p → p < T → Qp σ F Gq p) →
      Ok (lf_X12_lays_89 N n (fun σ25 _ => some (0, σ25)) k σ (nI v)) (fun y => (∀ c j, c ≠ 69 → y.2 c j = σ0 c j) ∧ ∀ p, p < T → Qp y.2 F (fun y => y < T) p) := by
  intro k
  induction k with
  | zero => intro v σ h1 h2; omega
  | succ k ih =>
    intro v σ h1 h2 hs hA hB
    show Ok (lb_X12_lays_89 N n _ (lf_X12_lays_89 N n _ k) σ (nI v)) _
    unfold lb_X12_lays_89
    rw [(hs 59 12 (by decide)).trans h12]
    refine ok_if (fun c => ?_) (fun c => ?_)
    · rw [le_nn (by omega) (by omega)] at c
      exact ok_ret ⟨hs, fun p hp => hA p (by omega)⟩
    · rw [le_nn (by omega) (by omega)] at c
      have hv := hB v (Nat.le_refl _) (by omega)
      have hv0 := hv
      obtain ⟨kd, cn0, e68, e71, e70, hk⟩ := hv
      have hkd := qk_k hk
      rw [gb_nI (show v < 300 by omega) (by decide), ix_nI (k := v) (by omega), e68, isJump_eq (by omega), bd_s, ad_nl v 1]
      refine ok_if (fun z => ?_) (fun z => ?_)
      · have hn : ¬ (kd = 4 ∨ kd = 5) := fun q => by rw [if_pos q] at z; exact absurd z (by decide)
        refine ih (v + 1) σ (by omega) (by omega) hs (fun p hp => ?_) (fun p q1 q2 => hB p (by omega) q2)
        by_cases e : p = v
        · rw [e]; exact qp_nj hv0 e68 (by omega) hn
        · exact hA p (by omega)
      · have hj : kd = 4 ∨ kd = 5 := Classical.byContradiction fun q => z (if_neg q)
        obtain ⟨a1, a2, a3, a4, a5, a6, a7⟩ := hk
        obtain ⟨y, gy, ey⟩ := a6 hj
        obtain ⟨y3, t, t1, t2⟩ := hG y gy
        rw [ey, ix_nI (k := y) (by omega), (hs 72 y (by decide)).trans t2, gb_nI (show v < 300 by omega) (by decide), gb_nI y3 (by decide), gb_nI (show v < 300 by omega) (by decide)]
        refine ih (v + 1) _ (by omega) (by omega) (fun c j q => (sg_c q).trans (hs c j q)) (fun p hp => ?_) (fun p q1 q2 => ?_)
        · by_cases e : p = v
          · subst e
            refine ⟨kd, cn0, (sg_c (by decide)).trans e68, (sg_c (by decide)).trans e71, fun i hi => ?_, ?_⟩
            · rw [sg_c (by decide)]; exact e70 i hi
            · rw [sg_at]
              refine ⟨a1, a2, a3, a4, a5, fun _ => ⟨t, t1, rfl⟩, fun q => ?_⟩
              omega
          · exact qp_same (hA p (by omega)) (sg_c (by decide)) (sg_ne e) (sg_c (by decide)) (fun i _ => sg_c (by decide))
        · exact qp_same (hB p (by omega) q2) (sg_c (by decide)) (sg_ne (by omega)) (sg_c (by decide)) (fun i _ => sg_c (by decide))
theorem lays_ok {N n : Nat} (hN : 1000 ≤ N) {σ : Sg} {F Wd : Nat} {ar lo st le : Nat → Nat} (hp : PR σ F Wd ar lo st le) {f : Nat} (hf : f < F) (hl : 0 < le f) (hW : WF (cs σ) F ar lo st le f) :
    Ok (f_X12_lays N n σ (nI f)) (fun y => ∃ T, T ≤ le f ∧ QL y.2 F T) := by
  have hp' := hp
  obtain ⟨g1, g2, g3, g4, g5, g6, g7, g8, g9, g10, g11⟩ := hp'
  have q9 := g9 f hf
  unfold f_X12_lays
  rw [gb_nI (show f < 12 by omega) (by decide), ix_nI (k := f) (by omega), g7 f hf]
  refine lays_loop hN hp hf hW (fun σ1 T x hB => ?_) N 0 _ 0 (by omega) (by omega) ⟨⟨fun c j a b => sg_c (by omega), sg_ne (by decide), sg_ne (by decide)⟩, sg_at _ _ _ _, by omega, fun p q => by omega, fun u q => by omega, fun q => by omega⟩
  obtain ⟨hg, b1, b2, b3, b4, b5⟩ := hB
  have t0 : 0 < T := by
    obtain ⟨t, t1, t2, t3⟩ := b4 0 hl
    have h0 : σ 66 (st f) = nI 0 := hW.1
    have := t3 (by rw [Nat.add_zero, h0]; exact n1_ne (by decide))
    omega
  refine ok_mono (raim_ok (σ0 := σ1) (F := F) (T := T) (Gq := Gw (cs σ) st le f) (by omega) (fun y gy => ?_) b1 N 0 σ1 (by omega) (by omega) (fun _ _ _ => rfl) (fun p q => by omega) (fun p _ q => b3 p q)) (fun y hr => ⟨T, by omega, (hr.1 59 12 (by decide)).trans b1, t0, by omega, hr.2, ?_⟩)
  · obtain ⟨t, t1, t2, t3⟩ := b4 y gy.1
    have := t3 gy.2
    have := gy.1
    exact ⟨by omega, t, by omega, t1⟩
  · rw [hr.1 68 _ (by decide)]
    exact (b5 t0).resolve_right (fun q => by omega)
