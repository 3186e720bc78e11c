/-! the reference's places: 59.12 how many, 68 kinds, 69 numbers and goals, 70 values (8 a place), 71 how many values, 72 became -/
/-- σ' is σ with the place T added -/
def AdR (σ σ' : Sg) (T : Nat) (k m : Int32) (c : Nat) : Prop :=
  σ' 59 12 = nI (T + 1) ∧ σ' 68 T = k ∧ σ' 69 T = m ∧ σ' 71 T = nI c ∧ (∀ i, i < c → Bl (σ' 70 (8 * T + i)) 22) ∧ (∀ d j, d ≠ 59 → d ≠ 70 → j ≠ T → σ' d j = σ d j) ∧ ∀ p i, p ≠ T → i < 8 → σ' 70 (8 * p + i) = σ 70 (8 * p + i)
theorem place_ad {N n : Nat} {σ : Sg} {T : Nat} (h : σ 59 12 = nI T) (ht : T < 300) (k m : Int32) : ∃ σ', f_X12_place N n σ k m = some (0, σ') ∧ AdR σ σ' T k m 0 := by
  unfold f_X12_place
  rw [h, ix_nI (k := T) (by omega), gb_nI ht (by decide), gb_nI ht (by decide), gb_nI ht (by decide), ad_nl T 1]
  refine ⟨_, rfl, sg_at _ _ _ _, ?_, ?_, ?_, fun i hi => absurd hi (Nat.not_lt_zero _), fun d j q1 q2 q3 => ?_, fun p i q1 q2 => ?_⟩
  · simp (disch := decide) only [sg_at, sg_c]
  · simp (disch := decide) only [sg_at, sg_c]
  · simp (disch := decide) only [sg_at, sg_c]; rfl
  · rw [sg_c q1, sg_o (Or.inr q3), sg_o (Or.inr q3), sg_o (Or.inr q3)]
  · simp (disch := decide) only [sg_c]
theorem tells_ad {N n : Nat} {σ σ1 : Sg} {T : Nat} {k m : Int32} {c : Nat} (h : AdR σ σ1 T k m c) (ht : T < 300) (hc : c < 8) {v : Int32} (hv : Bl v 22) : ∃ σ', f_X12_tells N n σ1 v = some (0, σ') ∧ AdR σ σ' T k m (c + 1) := by
  obtain ⟨h1, h2, h3, h4, h5, h6, h7⟩ := h
  unfold f_X12_tells
  have e : nI (T + 1) - 1 = nI T := (sb_nl (k := 1) (show 1 ≤ T + 1 by omega)).trans (congrArg nI (show T + 1 - 1 = T by omega))
  rw [h1, e, ix_nI (k := T) (by omega), h4, ml_ln T 8, ad_nn]
  have e8 : OfNat.ofNat 8 * T + c = 8 * T + c := rfl
  rw [e8, gb_nI ht (by decide), gb_nI (show 8 * T + c < 2400 by omega) (by decide), gb_nI ht (by decide), gb_nI ht (by decide), ix_nI (k := 8 * T + c) (by omega), ad_nl c 1]
  refine ⟨_, rfl, ?_, ?_, ?_, sg_at _ _ _ _, fun i hi => ?_, fun d j q1 q2 q3 => ?_, fun p i q1 q2 => ?_⟩
  · simp (disch := decide) only [sg_c]; exact h1
  · simp (disch := decide) only [sg_c]; exact h2
  · simp (disch := decide) only [sg_c]; exact h3
  · rw [sg_c (by decide)]
    by_cases z : i = c
    · rw [z, sg_at]; exact hv
    · rw [sg_ne (by omega)]; exact h5 i (by omega)
  · rw [sg_o (Or.inr q3), sg_c q2]; exact h6 d j q1 q2 q3
  · rw [sg_c (by decide), sg_ne (by omega)]; exact h7 p i q1 q2
/-- what a place's parts are, by its kind -/
def QK (k c : Nat) (m : Int32) (F : Nat) (Gp : Nat → Prop) : Prop :=
  (k ≤ 8 ∨ k = 13) ∧ c ≤ 7 ∧ ((k = 0 ∨ k = 5 ∨ k = 6 ∨ k = 13) → 1 ≤ c) ∧ ((k = 1 ∨ k = 3 ∨ k = 7 ∨ k = 8) → 2 ≤ c) ∧ (k = 2 → 3 ≤ c) ∧ (k = 4 ∨ k = 5 → ∃ v, Gp v ∧ m = nI v) ∧ (k = 13 → Bl m F)
def Qp (σ : Sg) (F : Nat) (Gp : Nat → Prop) (p : Nat) : Prop := ∃ k c, σ 68 p = nI k ∧ σ 71 p = nI c ∧ (∀ i, i < c → Bl (σ 70 (8 * p + i)) 22) ∧ QK k c (σ 69 p) F Gp
theorem qk_k {k c : Nat} {m : Int32} {F : Nat} {Gp : Nat → Prop} (h : QK k c m F Gp) : k ≤ 13 := by have := h.1; omega
theorem qk_G {k c : Nat} {m : Int32} {F : Nat} {Gp Gq : Nat → Prop} (h : QK k c m F Gp) (hG : ∀ v, Gp v → Gq v) : QK k c m F Gq := by
  obtain ⟨h1, h2, h3, h4, h5, h6, h7⟩ := h
  refine ⟨h1, h2, h3, h4, h5, fun q => ?_, h7⟩
  obtain ⟨v, a, b⟩ := h6 q
  exact ⟨v, hG v a, b⟩
theorem qp_same {σ σ' : Sg} {F : Nat} {Gp : Nat → Prop} {p p' : Nat} (h : Qp σ F Gp p) (e68 : σ' 68 p' = σ 68 p) (e69 : σ' 69 p' = σ 69 p) (e71 : σ' 71 p' = σ 71 p) (e70 : ∀ i, i < 8 → σ' 70 (8 * p' + i) = σ 70 (8 * p + i)) : Qp σ' F Gp p' := by
  obtain ⟨k, c, h1, h2, h3, h4⟩ := h
  refine ⟨k, c, e68.trans h1, e71.trans h2, fun i hi => ?_, ?_⟩
  · rw [e70 i (by have := h4.2.1; omega)]; exact h3 i hi
  · rw [e69]; exact h4
theorem adr_qp {σ σ' : Sg} {T k c : Nat} {m : Int32} {F : Nat} {Gp : Nat → Prop} (h : AdR σ σ' T (nI k) m c) (hk : QK k c m F Gp) : Qp σ' F Gp T := by
  obtain ⟨h1, h2, h3, h4, h5, h6, h7⟩ := h
  exact ⟨k, c, h2, h4, h5, by rw [h3]; exact hk⟩
theorem adr_old {σ σ' : Sg} {T c : Nat} {k m : Int32} {F : Nat} {Gp : Nat → Prop} (h : AdR σ σ' T k m c) {p : Nat} (hp : p ≠ T) (hk : Qp σ F Gp p) : Qp σ' F Gp p := by
  obtain ⟨h1, h2, h3, h4, h5, h6, h7⟩ := h
  exact qp_same hk (h6 _ _ (by decide) (by decide) hp) (h6 _ _ (by decide) (by decide) hp) (h6 _ _ (by decide) (by decide) hp) (fun i hi => h7 p i hp hi)
/-- the reference's WORDS and DEPTHS in the class's cells -/
def cs (τ : Sg) : Sg := fun c => if c = 6 then τ 64 else if c = 7 then τ 65 else if c = 8 then τ 66 else τ c
theorem cs6 (τ : Sg) : cs τ 6 = τ 64 := rfl
theorem cs7 (τ : Sg) : cs τ 7 = τ 65 := rfl
theorem cs8 (τ : Sg) : cs τ 8 = τ 66 := rfl
theorem layCall_loop {N n : Nat} {σ : Sg} {T tp na g : Nat} {kk m : Int32} (ht : T < 300) (hg : g < 12) (hna : na ≤ 6) (hle : na ≤ tp) (htp : tp ≤ 22) :
    ∀ (k v : Nat) (σ1 : Sg), v ≤ na → na < v + k → σ1 60 g = nI na → AdR σ σ1 T kk m (v + 1) → ∃ σ', lf_X12_lay_229 N n (nI g) (nI tp) (fun σ8 _ => some (0, σ8)) k σ1 (nI v) = some (0, σ') ∧ AdR σ σ' T kk m (na + 1) := by
  intro k
  induction k with
  | zero => intro v σ1 h1 h2; omega
  | succ k ih =>
    intro v σ1 h1 h2 h60 hA
    show ∃ σ', lb_X12_lay_229 N n (nI g) (nI tp) _ (lf_X12_lay_229 N n (nI g) (nI tp) _ k) σ1 (nI v) = some (0, σ') ∧ _
    unfold lb_X12_lay_229
    rw [gb_nI hg (by decide), gb_nI hg (by decide), ix_nI (k := g) (by omega), h60]
    by_cases c : nI na ≤ nI v
    · rw [if_pos c]
      rw [le_nn (by omega) (by omega)] at c
      obtain rfl : v = na := by omega
      exact ⟨σ1, rfl, hA⟩
    · rw [if_neg c]
      rw [le_nn (by omega) (by omega)] at c
      rw [sb_nn hle, ad_nn, ad_nl v 1]
      obtain ⟨σ2, e2, a2⟩ := tells_ad (N := N) (n := n) hA ht (by omega) (v := nI (tp - na + v)) (bl_n (by omega))
      rw [e2, bd_s]
      exact ih (v + 1) σ2 (by omega) (by omega) ((fr_X12_tells rfl e2).trans h60) a2
theorem lay_ok {N n : Nat} (hN : 1000 ≤ N) {σ : Sg} {F Wd : Nat} {ar lo st le : Nat → Nat} (hp : PR σ F Wd ar lo st le) {f w T d : Nat} (hf : f < F) (hw : w < le f) (hW : WW (cs σ) F ar lo st le f w) (hd8 : σ 66 (st f + w) = nI d) (hd9 : d < 2147483648) (hT : σ 59 12 = nI T) (ht : T < 300) (pf : Int32) :
    Ok (f_X12_lay N n σ pf (σ 64 (st f + w)) (σ 65 (st f + w)) (nI (lo f + d))) (fun y => (y.2 = σ ∧ Nx (cs σ) st le f w) ∨ ∃ k c m, AdR σ y.2 T (nI k) m c ∧ QK k c m F (Gw (cs σ) st le f) ∧ (k = 4 ∨ k = 6 ∨ Nx (cs σ) st le f w)) := by
  obtain ⟨g1, g2, g3, g4, g5, g6, g7, g8, g9, g10, g11⟩ := hp
  have q9 := g9 f hf
  obtain ⟨k, y, d', hk, hd, ho, hdw, ht2, hb, c1, c2, c3, c4⟩ := hW
  rw [cs6] at ho
  rw [cs8] at hdw c2 c4
  rw [cs7] at c1 c2 c3
  have ed : d' = d := (nI_eq (by omega) hd9).mp (hdw.symm.trans hd8)
  subst ed
  have nx : k ≠ 12 → k ≠ 15 → Nx (cs σ) st le f w := fun a b => ⟨(c4 a b).1, fun q => n1_ne (show d' - tkN ar k y + ptN k < 2147483648 by omega) ((c4 a b).2.symm.trans q)⟩
  have gl : (k = 12 ∨ k = 13) → Gw (cs σ) st le f y := fun a => ⟨(c2 a).1, fun q => n1_ne (show d' - tkN ar k y + ptN k < 2147483648 by omega) ((c2 a).2.2.symm.trans q)⟩
  have kk : ∀ (m : Nat), m < 2147483648 → nI k = nI m → k = m := fun m hm q => (nI_eq (by omega) hm).mp q
  unfold f_X12_lay
  rw [ho]
  refine ok_if (fun c => ?_) (fun n0 => ?_)
  · obtain rfl : k = 0 := kk 0 (by decide) c
    have e1 : tkN ar 0 y = 0 := rfl
    have e2 : ptN 0 = 1 := rfl
    obtain ⟨σ1, f1, a1⟩ := place_ad (N := N) (n := n) hT ht 0 (σ 65 (st f + w))
    obtain ⟨σ2, f2, a2⟩ := tells_ad (N := N) (n := n) a1 ht (by decide) (v := nI (lo f + d')) (bl_n (by omega))
    rw [f1, bd_s, f2, bd_s]
    exact ok_ret (Or.inr ⟨0, 1, _, a2, ⟨by decide, by decide, fun q => by omega, fun q => by omega, fun q => by omega, fun q => by omega, fun q => by omega⟩, Or.inr (Or.inr (nx (by decide) (by decide)))⟩)
  refine ok_if (fun c => ?_) (fun n1 => ?_)
  · obtain rfl : k = 1 := kk 1 (by decide) c
    have e1 : tkN ar 1 y = 0 := rfl
    have e2 : ptN 1 = 1 := rfl
    obtain ⟨y1, y2⟩ := c1 (by decide)
    rw [y2]
    obtain ⟨σ1, f1, a1⟩ := place_ad (N := N) (n := n) hT ht 1 0
    obtain ⟨σ2, f2, a2⟩ := tells_ad (N := N) (n := n) a1 ht (by decide) (v := nI (lo f + d')) (bl_n (by omega))
    obtain ⟨σ3, f3, a3⟩ := tells_ad (N := N) (n := n) a2 ht (by decide) (v := nI y) (bl_n (by omega))
    rw [f1, bd_s, f2, bd_s, f3, bd_s]
    exact ok_ret (Or.inr ⟨1, 2, _, a3, ⟨by decide, by decide, fun q => by omega, fun q => by omega, fun q => by omega, fun q => by omega, fun q => by omega⟩, Or.inr (Or.inr (nx (by decide) (by decide)))⟩)
  refine ok_if (fun c => ?_) (fun n2 => ?_)
  · obtain rfl : k = 2 := kk 2 (by decide) c
    have e1 : tkN ar 2 y = 1 := rfl
    have e2 : ptN 2 = 0 := rfl
    obtain ⟨y1, y2⟩ := c1 (by decide)
    have m1 : nI (lo f + d') - 1 = nI (lo f + d' - 1) := sb_nl (k := 1) (show 1 ≤ lo f + d' by omega)
    rw [y2, m1]
    obtain ⟨σ1, f1, a1⟩ := place_ad (N := N) (n := n) hT ht 1 0
    obtain ⟨σ2, f2, a2⟩ := tells_ad (N := N) (n := n) a1 ht (by decide) (v := nI y) (bl_n (by omega))
    obtain ⟨σ3, f3, a3⟩ := tells_ad (N := N) (n := n) a2 ht (by decide) (v := nI (lo f + d' - 1)) (bl_n (by omega))
    rw [f1, bd_s, f2, bd_s, f3, bd_s]
    exact ok_ret (Or.inr ⟨1, 2, _, a3, ⟨by decide, by decide, fun q => by omega, fun q => by omega, fun q => by omega, fun q => by omega, fun q => by omega⟩, Or.inr (Or.inr (nx (by decide) (by decide)))⟩)
  refine ok_if (fun c => ?_) (fun n9 => ?_)
  · obtain rfl : k = 9 := kk 9 (by decide) c
    have e1 : tkN ar 9 y = 1 := rfl
    have e2 : ptN 9 = 2 := rfl
    have m1 : nI (lo f + d') - 1 = nI (lo f + d' - 1) := sb_nl (k := 1) (show 1 ≤ lo f + d' by omega)
    rw [m1]
    obtain ⟨σ1, f1, a1⟩ := place_ad (N := N) (n := n) hT ht 1 0
    obtain ⟨σ2, f2, a2⟩ := tells_ad (N := N) (n := n) a1 ht (by decide) (v := nI (lo f + d')) (bl_n (by omega))
    obtain ⟨σ3, f3, a3⟩ := tells_ad (N := N) (n := n) a2 ht (by decide) (v := nI (lo f + d' - 1)) (bl_n (by omega))
    rw [f1, bd_s, f2, bd_s, f3, bd_s]
    exact ok_ret (Or.inr ⟨1, 2, _, a3, ⟨by decide, by decide, fun q => by omega, fun q => by omega, fun q => by omega, fun q => by omega, fun q => by omega⟩, Or.inr (Or.inr (nx (by decide) (by decide)))⟩)
  refine ok_if (fun c => ?_) (fun n10 => ?_)
  · obtain rfl : k = 10 := kk 10 (by decide) c
    have e1 : tkN ar 10 y = 2 := rfl
    have e2 : ptN 10 = 2 := rfl
    have m1 : nI (lo f + d') - 1 = nI (lo f + d' - 1) := sb_nl (k := 1) (show 1 ≤ lo f + d' by omega)
    have m2 : nI (lo f + d') - 2 = nI (lo f + d' - 2) := sb_nl (k := 2) (show 2 ≤ lo f + d' by omega)
    rw [m1, m2]
    obtain ⟨σ1, f1, a1⟩ := place_ad (N := N) (n := n) hT ht 3 0
    obtain ⟨σ2, f2, a2⟩ := tells_ad (N := N) (n := n) a1 ht (by decide) (v := nI (lo f + d' - 1)) (bl_n (by omega))
    obtain ⟨σ3, f3, a3⟩ := tells_ad (N := N) (n := n) a2 ht (by decide) (v := nI (lo f + d' - 2)) (bl_n (by omega))
    rw [f1, bd_s, f2, bd_s, f3, bd_s]
    exact ok_ret (Or.inr ⟨3, 2, _, a3, ⟨by decide, by decide, fun q => by omega, fun q => by omega, fun q => by omega, fun q => by omega, fun q => by omega⟩, Or.inr (Or.inr (nx (by decide) (by decide)))⟩)
  refine ok_if (fun c => ?_) (fun n11 => ?_)
  · obtain rfl : k = 11 := kk 11 (by decide) c
    have e1 : tkN ar 11 y = 1 := rfl
    have e2 : ptN 11 = 0 := rfl
    exact ok_ret (Or.inl ⟨rfl, nx (by decide) (by decide)⟩)
  refine ok_if (fun c => ?_) (fun n12 => ?_)
  · obtain rfl : k = 12 := kk 12 (by decide) c
    have e1 : tkN ar 12 y = 0 := rfl
    have e2 : ptN 12 = 0 := rfl
    obtain ⟨y1, y2, y3⟩ := c2 (by decide)
    rw [y2]
    obtain ⟨σ1, f1, a1⟩ := place_ad (N := N) (n := n) hT ht 4 (nI y)
    rw [f1, bd_s]
    exact ok_ret (Or.inr ⟨4, 0, _, a1, ⟨by decide, by decide, fun q => by omega, fun q => by omega, fun q => by omega, fun q => ⟨y, gl (by decide), rfl⟩, fun q => by omega⟩, Or.inl rfl⟩)
  refine ok_if (fun c => ?_) (fun n13 => ?_)
  · obtain rfl : k = 13 := kk 13 (by decide) c
    have e1 : tkN ar 13 y = 1 := rfl
    have e2 : ptN 13 = 0 := rfl
    obtain ⟨y1, y2, y3⟩ := c2 (by decide)
    have m1 : nI (lo f + d') - 1 = nI (lo f + d' - 1) := sb_nl (k := 1) (show 1 ≤ lo f + d' by omega)
    rw [y2, m1]
    obtain ⟨σ1, f1, a1⟩ := place_ad (N := N) (n := n) hT ht 5 (nI y)
    obtain ⟨σ2, f2, a2⟩ := tells_ad (N := N) (n := n) a1 ht (by decide) (v := nI (lo f + d' - 1)) (bl_n (by omega))
    rw [f1, bd_s, f2, bd_s]
    exact ok_ret (Or.inr ⟨5, 1, _, a2, ⟨by decide, by decide, fun q => by omega, fun q => by omega, fun q => by omega, fun q => ⟨y, gl (by decide), rfl⟩, fun q => by omega⟩, Or.inr (Or.inr (nx (by decide) (by decide)))⟩)
  refine ok_if (fun c => ?_) (fun n14 => ?_)
  · obtain rfl : k = 14 := kk 14 (by decide) c
    obtain ⟨y1, y2⟩ := c3 rfl
    have e1 : tkN ar 14 y = ar y := rfl
    have e2 : ptN 14 = 1 := rfl
    have r9 := g9 y y1
    rw [y2]
    obtain ⟨σ1, f1, a1⟩ := place_ad (N := N) (n := n) hT ht 13 (nI y)
    have h60 : σ1 60 y = nI (ar y) := (fr_X12_place rfl f1).trans (g5 y y1)
    rw [f1, bd_s, gb_nI (show y < 12 by omega) (by decide), ix_nI (k := y) (by omega), h60, sb_nn (by omega)]
    obtain ⟨σ2, f2, a2⟩ := tells_ad (N := N) (n := n) a1 ht (by decide) (v := nI (lo f + d' - ar y)) (bl_n (by omega))
    rw [f2, bd_s]
    obtain ⟨σ3, f3, a3⟩ := layCall_loop (N := N) (n := n) (tp := lo f + d') (na := ar y) (g := y) ht (by omega) (by omega) (by omega) (by omega) N 0 σ2 (by omega) (by omega) ((fr_X12_tells rfl f2).trans h60) a2
    have f3 : lf_X12_lay_229 N n (nI y) (nI (lo f + d')) (fun σ74 _ => some (0, σ74)) N σ2 0 = some (0, σ3) := f3
    rw [f3]
    exact ok_ret (Or.inr ⟨13, ar y + 1, _, a3, ⟨by decide, by omega, fun q => by omega, fun q => by omega, fun q => by omega, fun q => by omega, fun _ => bl_n y1⟩, Or.inr (Or.inr (nx (by decide) (by decide)))⟩)
  refine ok_if (fun c => ?_) (fun n15 => ?_)
  · obtain rfl : k = 15 := kk 15 (by decide) c
    have e1 : tkN ar 15 y = 1 := rfl
    have e2 : ptN 15 = 0 := rfl
    have m1 : nI (lo f + d') - 1 = nI (lo f + d' - 1) := sb_nl (k := 1) (show 1 ≤ lo f + d' by omega)
    rw [m1]
    obtain ⟨σ1, f1, a1⟩ := place_ad (N := N) (n := n) hT ht 6 0
    obtain ⟨σ2, f2, a2⟩ := tells_ad (N := N) (n := n) a1 ht (by decide) (v := nI (lo f + d' - 1)) (bl_n (by omega))
    rw [f1, bd_s, f2, bd_s]
    exact ok_ret (Or.inr ⟨6, 1, _, a2, ⟨by decide, by decide, fun q => by omega, fun q => by omega, fun q => by omega, fun q => by omega, fun q => by omega⟩, Or.inr (Or.inl rfl)⟩)
  refine ok_if (fun c => ?_) (fun n16 => ?_)
  · obtain rfl : k = 16 := kk 16 (by decide) c
    have e1 : tkN ar 16 y = 1 := rfl
    have e2 : ptN 16 = 1 := rfl
    have m1 : nI (lo f + d') - 1 = nI (lo f + d' - 1) := sb_nl (k := 1) (show 1 ≤ lo f + d' by omega)
    rw [m1]
    obtain ⟨σ1, f1, a1⟩ := place_ad (N := N) (n := n) hT ht 7 0
    obtain ⟨σ2, f2, a2⟩ := tells_ad (N := N) (n := n) a1 ht (by decide) (v := nI (lo f + d' - 1)) (bl_n (by omega))
    obtain ⟨σ3, f3, a3⟩ := tells_ad (N := N) (n := n) a2 ht (by decide) (v := nI (lo f + d' - 1)) (bl_n (by omega))
    rw [f1, bd_s, f2, bd_s, f3, bd_s]
    exact ok_ret (Or.inr ⟨7, 2, _, a3, ⟨by decide, by decide, fun q => by omega, fun q => by omega, fun q => by omega, fun q => by omega, fun q => by omega⟩, Or.inr (Or.inr (nx (by decide) (by decide)))⟩)
  refine ok_if (fun c => ?_) (fun n17 => ?_)
  · obtain rfl : k = 17 := kk 17 (by decide) c
    have e1 : tkN ar 17 y = 2 := rfl
    have e2 : ptN 17 = 0 := rfl
    have m1 : nI (lo f + d') - 1 = nI (lo f + d' - 1) := sb_nl (k := 1) (show 1 ≤ lo f + d' by omega)
    have m2 : nI (lo f + d') - 2 = nI (lo f + d' - 2) := sb_nl (k := 2) (show 2 ≤ lo f + d' by omega)
    rw [m1, m2]
    obtain ⟨σ1, f1, a1⟩ := place_ad (N := N) (n := n) hT ht 8 0
    obtain ⟨σ2, f2, a2⟩ := tells_ad (N := N) (n := n) a1 ht (by decide) (v := nI (lo f + d' - 1)) (bl_n (by omega))
    obtain ⟨σ3, f3, a3⟩ := tells_ad (N := N) (n := n) a2 ht (by decide) (v := nI (lo f + d' - 2)) (bl_n (by omega))
    rw [f1, bd_s, f2, bd_s, f3, bd_s]
    exact ok_ret (Or.inr ⟨8, 2, _, a3, ⟨by decide, by decide, fun q => by omega, fun q => by omega, fun q => by omega, fun q => by omega, fun q => by omega⟩, Or.inr (Or.inr (nx (by decide) (by decide)))⟩)
  have hn : 3 ≤ k ∧ k ≤ 8 := by
    have z0 : k ≠ 0 := fun q => n0 (by rw [q]; rfl)
    have z1 : k ≠ 1 := fun q => n1 (by rw [q]; rfl)
    have z2 : k ≠ 2 := fun q => n2 (by rw [q]; rfl)
    have z9 : k ≠ 9 := fun q => n9 (by rw [q]; rfl)
    have z10 : k ≠ 10 := fun q => n10 (by rw [q]; rfl)
    have z11 : k ≠ 11 := fun q => n11 (by rw [q]; rfl)
    have z12 : k ≠ 12 := fun q => n12 (by rw [q]; rfl)
    have z13 : k ≠ 13 := fun q => n13 (by rw [q]; rfl)
    have z14 : k ≠ 14 := fun q => n14 (by rw [q]; rfl)
    have z15 : k ≠ 15 := fun q => n15 (by rw [q]; rfl)
    have z16 : k ≠ 16 := fun q => n16 (by rw [q]; rfl)
    have z17 : k ≠ 17 := fun q => n17 (by rw [q]; rfl)
    omega
  have e1 : tkN ar k y = 2 := by
    match k, hn with
    | 3, _ => rfl
    | 4, _ => rfl
    | 5, _ => rfl
    | 6, _ => rfl
    | 7, _ => rfl
    | 8, _ => rfl
    | 0, h => omega
    | 1, h => omega
    | 2, h => omega
    | k + 9, h => omega
  have m1 : nI (lo f + d') - 1 = nI (lo f + d' - 1) := sb_nl (k := 1) (show 1 ≤ lo f + d' by omega)
  have m2 : nI (lo f + d') - 2 = nI (lo f + d' - 2) := sb_nl (k := 2) (show 2 ≤ lo f + d' by omega)
  rw [m1, m2]
  obtain ⟨σ1, f1, a1⟩ := place_ad (N := N) (n := n) hT ht 2 (nI k)
  obtain ⟨σ2, f2, a2⟩ := tells_ad (N := N) (n := n) a1 ht (by decide) (v := nI (lo f + d' - 2)) (bl_n (by omega))
  obtain ⟨σ3, f3, a3⟩ := tells_ad (N := N) (n := n) a2 ht (by decide) (v := nI (lo f + d' - 2)) (bl_n (by omega))
  obtain ⟨σ4, f4, a4⟩ := tells_ad (N := N) (n := n) a3 ht (by decide) (v := nI (lo f + d' - 1)) (bl_n (by omega))
  rw [f1, bd_s, f2, bd_s, f3, bd_s, f4, bd_s]
  exact ok_ret (Or.inr ⟨2, 3, _, a4, ⟨by decide, by decide, fun q => by omega, fun q => by omega, fun q => by omega, fun q => by omega, fun q => by omega⟩, Or.inr (Or.inr (nx (by omega) (by omega)))⟩)
theorem isJump_eq {N n : Nat} {σ : Sg} {k : Nat} (hk : k < 16) : f_X12_isJump N n σ (nI k) = some (if k = 4 ∨ k = 5 then 1 else 0, σ) := by
  unfold f_X12_isJump
  by_cases c4 : k = 4
  · rw [if_pos (show nI k = 4 by rw [c4]; rfl), if_pos (Or.inl c4)]
  · rw [if_neg (show ¬ nI k = 4 from fun q => c4 ((nI_eq (a := k) (b := 4) (by omega) (by decide)).mp q))]
    by_cases c5 : k = 5
    · rw [if_pos (show nI k = 5 by rw [c5]; rfl), if_pos (Or.inr c5)]
    · rw [if_neg (show ¬ nI k = 5 from fun q => c5 ((nI_eq (a := k) (b := 5) (by omega) (by decide)).mp q)), if_neg (by omega)]
theorem qp_nj {σ : Sg} {F : Nat} {Gp Gq : Nat → Prop} {p k : Nat} (h : Qp σ F Gp p) (hk : σ 68 p = nI k) (hk2 : k < 16) (hn : ¬ (k = 4 ∨ k = 5)) : Qp σ F Gq p := by
  obtain ⟨k', c, h1, h2, h3, h4⟩ := h
  have hk3 := qk_k h4
  have e : k' = k := (nI_eq (by omega) (by omega)).mp (h1.symm.trans hk)
  obtain ⟨a1, a2, a3, a4, a5, a6, a7⟩ := h4
  exact ⟨k', c, h1, h2, h3, a1, a2, a3, a4, a5, fun q => absurd (e ▸ q) hn, a7⟩
/-- all places of a FUNC -/
def QL (σ : Sg) (F T : Nat) : Prop := σ 59 12 = nI T ∧ 0 < T ∧ T ≤ 300 ∧ (∀ p, p < T → Qp σ F (fun y => y < T) p) ∧ (σ 68 (T - 1) = nI 4 ∨ σ 68 (T - 1) = nI 6)
