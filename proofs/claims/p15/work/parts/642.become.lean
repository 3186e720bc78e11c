/-- the WORD behind can be reached -/
def Nx (σ : Sg) (st le : Nat → Nat) (f w : Nat) : Prop := w + 1 < le f ∧ ¬ σ 8 (st f + (w + 1)) = (-1)
/-- where a jump may go while places are built: a WORD that can be reached -/
def Gw (σ : Sg) (st le : Nat → Nat) (f : Nat) : Nat → Prop := fun y => y < le f ∧ ¬ σ 8 (st f + y) = (-1)
theorem become_ok {N n : Nat} (hN : 1000 ≤ N) {σ : Sg} {F Wd : Nat} {ar lo st le : Nat → Nat} (hp : PI σ F Wd ar lo st le) {f w T : Nat} (hf : f < F) (hw : w < le f) (hW : WW σ F ar lo st le f w) (hT : σ 13 6 = nI T) (ht : T < 300) :
    Ok (f_X5_become N n σ (nI (st f + w)) (nI (lo f))) (fun y => (y.2 = σ ∧ Nx σ st le f w) ∨ ∃ k c w' m g, Ad σ y.2 T (nI k) w' m g c ∧ PK k c w' m g F (Gw σ st le f) ∧ (k = 4 ∨ k = 6 ∨ Nx σ st le f w)) := by
  obtain ⟨g1, g2, g3, g4, g5, g6, g7, g8, g9, g10, g11⟩ := hp
  have q9 := g9 f hf
  obtain ⟨k, y, d, hk, hd, ho, hdw, ht2, hb, c1, c2, c3, c4⟩ := hW
  have nx : k ≠ 12 → k ≠ 15 → Nx σ st le f w := fun a b => ⟨(c4 a b).1, fun q => n1_ne (show d - tkN ar k y + ptN k < 2147483648 by omega) ((c4 a b).2.symm.trans q)⟩
  have gl : (k = 12 ∨ k = 13) → Gw σ st le f y := fun a => ⟨(c2 a).1, fun q => n1_ne (show d - tkN ar k y + ptN k < 2147483648 by omega) ((c2 a).2.2.symm.trans q)⟩
  have kk : ∀ (m : Nat), m < 2147483648 → nI k = nI m → k = m := fun m hm q => (nI_eq (by omega) hm).mp q
  unfold f_X5_become
  rw [ix_nI (k := st f + w) (by omega), gb_nI (by omega) (by omega), gb_nI (by omega) (by omega), gb_nI (by omega) (by omega), ho, hdw, ad_nn]

  refine ok_if (fun c => ?_) (fun n0 => ?_)
  · obtain rfl : k = 0 := kk 0 (by decide) c
    have e1 : tkN ar 0 y = 0 := rfl
    have e2 : ptN 0 = 1 := rfl
    obtain ⟨σ1, f1, a1⟩ := add_ad (N := N) (n := n) hT ht 0 (nI (lo f + d)) (σ 7 (st f + w))
    rw [f1, bd_s]
    exact ok_ret (Or.inr ⟨0, 0, _, _, _, a1, ⟨Or.inl ⟨by decide, bl_n (by omega)⟩, by decide, fun q => by omega, fun q => by omega, fun q => by omega, fun q => by omega⟩, Or.inr (Or.inr (nx (by decide) (by decide)))⟩)
  refine ok_if (fun c => ?_) (fun n1 => ?_)
  · obtain rfl : k = 1 := kk 1 (by decide) c
    have e1 : tkN ar 1 y = 0 := rfl
    have e2 : ptN 1 = 1 := rfl
    obtain ⟨y1, y2⟩ := c1 (by decide)
    rw [y2]
    obtain ⟨σ1, f1, a1⟩ := addReading_ad (N := N) (n := n) hT ht 1 (nI (lo f + d)) (x := nI y) (bl_n (by omega))
    rw [f1, bd_s]
    exact ok_ret (Or.inr ⟨1, 1, _, _, _, a1, ⟨Or.inl ⟨by decide, bl_n (by omega)⟩, by decide, fun q => by omega, fun q => by omega, fun q => by omega, fun q => by omega⟩, Or.inr (Or.inr (nx (by decide) (by decide)))⟩)
  refine ok_if (fun c => ?_) (fun n2 => ?_)
  · obtain rfl : k = 2 := kk 2 (by decide) c
    have e1 : tkN ar 2 y = 1 := rfl
    have e2 : ptN 2 = 0 := rfl
    obtain ⟨y1, y2⟩ := c1 (by decide)
    have m1 : nI (lo f + d) - 1 = nI (lo f + d - 1) := sb_nl (k := 1) (show 1 ≤ lo f + d by omega)
    rw [y2, m1]
    obtain ⟨σ1, f1, a1⟩ := addReading_ad (N := N) (n := n) hT ht 1 (nI y) (x := nI (lo f + d - 1)) (bl_n (by omega))
    rw [f1, bd_s]
    exact ok_ret (Or.inr ⟨1, 1, _, _, _, a1, ⟨Or.inl ⟨by decide, bl_n (by omega)⟩, by decide, fun q => by omega, fun q => by omega, fun q => by omega, fun q => by omega⟩, Or.inr (Or.inr (nx (by decide) (by decide)))⟩)
  refine ok_if (fun c => ?_) (fun n9 => ?_)
  · obtain rfl : k = 9 := kk 9 (by decide) c
    have e1 : tkN ar 9 y = 1 := rfl
    have e2 : ptN 9 = 2 := rfl
    have m1 : nI (lo f + d) - 1 = nI (lo f + d - 1) := sb_nl (k := 1) (show 1 ≤ lo f + d by omega)
    rw [m1]
    obtain ⟨σ1, f1, a1⟩ := addReading_ad (N := N) (n := n) hT ht 1 (nI (lo f + d)) (x := nI (lo f + d - 1)) (bl_n (by omega))
    rw [f1, bd_s]
    exact ok_ret (Or.inr ⟨1, 1, _, _, _, a1, ⟨Or.inl ⟨by decide, bl_n (by omega)⟩, by decide, fun q => by omega, fun q => by omega, fun q => by omega, fun q => by omega⟩, Or.inr (Or.inr (nx (by decide) (by decide)))⟩)
  refine ok_if (fun c => ?_) (fun n10 => ?_)
  · obtain rfl : k = 10 := kk 10 (by decide) c
    have e1 : tkN ar 10 y = 2 := rfl
    have e2 : ptN 10 = 2 := rfl
    have m1 : nI (lo f + d) - 1 = nI (lo f + d - 1) := sb_nl (k := 1) (show 1 ≤ lo f + d by omega)
    have m2 : nI (lo f + d) - 2 = nI (lo f + d - 2) := sb_nl (k := 2) (show 2 ≤ lo f + d by omega)
    rw [m1, m2]
    obtain ⟨σ1, f1, a1⟩ := addReading_ad (N := N) (n := n) hT ht 3 (-1) (x := nI (lo f + d - 1)) (bl_n (by omega))
    obtain ⟨σ2, f2, a2⟩ := addRead_ad (N := N) (n := n) a1 ht (by decide) (v := nI (lo f + d - 2)) (bl_n (by omega))
    rw [f1, bd_s, f2, bd_s]
    exact ok_ret (Or.inr ⟨3, 2, _, _, _, a2, ⟨Or.inr ⟨by decide, rfl⟩, by decide, fun q => by omega, fun q => by omega, fun q => by omega, fun q => by omega⟩, Or.inr (Or.inr (nx (by decide) (by decide)))⟩)
  refine ok_if (fun c => ?_) (fun n11 => ?_)
  · obtain rfl : k = 11 := kk 11 (by decide) c
    have e1 : tkN ar 11 y = 1 := rfl
    have e2 : ptN 11 = 0 := rfl
    exact ok_ret (Or.inl ⟨rfl, nx (by decide) (by decide)⟩)
  refine ok_if (fun c => ?_) (fun n12 => ?_)
  · obtain rfl : k = 12 := kk 12 (by decide) c
    have e1 : tkN ar 12 y = 0 := rfl
    have e2 : ptN 12 = 0 := rfl
    obtain ⟨y1, y2, y3⟩ := c2 (by decide)
    rw [y2]
    obtain ⟨σ1, f1, a1⟩ := add_ad (N := N) (n := n) hT ht 4 (-1) 0
    obtain ⟨σ2, f2, a2⟩ := goal_ad a1 ht (nI y)
    rw [f1, bd_s, f2]
    exact ok_ret (Or.inr ⟨4, 0, _, _, _, a2, ⟨Or.inr ⟨by decide, rfl⟩, by decide, fun q => by omega, fun q => by omega, fun q => ⟨y, gl (by decide), rfl⟩, fun q => by omega⟩, Or.inl rfl⟩)
  refine ok_if (fun c => ?_) (fun n13 => ?_)
  · obtain rfl : k = 13 := kk 13 (by decide) c
    have e1 : tkN ar 13 y = 1 := rfl
    have e2 : ptN 13 = 0 := rfl
    obtain ⟨y1, y2, y3⟩ := c2 (by decide)
    have m1 : nI (lo f + d) - 1 = nI (lo f + d - 1) := sb_nl (k := 1) (show 1 ≤ lo f + d by omega)
    rw [y2, m1]
    obtain ⟨σ1, f1, a1⟩ := addReading_ad (N := N) (n := n) hT ht 5 (-1) (x := nI (lo f + d - 1)) (bl_n (by omega))
    obtain ⟨σ2, f2, a2⟩ := goal_ad a1 ht (nI y)
    rw [f1, bd_s, f2]
    exact ok_ret (Or.inr ⟨5, 1, _, _, _, a2, ⟨Or.inr ⟨by decide, rfl⟩, by decide, fun q => by omega, fun q => by omega, fun q => ⟨y, gl (by decide), rfl⟩, fun q => by omega⟩, Or.inr (Or.inr (nx (by decide) (by decide)))⟩)
  refine ok_if (fun c => ?_) (fun n14 => ?_)
  · obtain rfl : k = 14 := kk 14 (by decide) c
    obtain ⟨y1, y2⟩ := c3 rfl
    have e1 : tkN ar 14 y = ar y := rfl
    have e2 : ptN 14 = 1 := rfl
    have r9 := g9 y y1
    rw [y2, gb_nI (show y < 12 by omega) (by decide), ix_nI (k := y) (by omega), g5 y y1]
    obtain ⟨σ1, f1, a1⟩ := addCall_ad (N := N) (n := n) hN hT ht (tp := lo f + d) (na := ar y) (by omega) (by omega) (by omega) (nI y)
    rw [f1, bd_s]
    exact ok_ret (Or.inr ⟨13, ar y, _, _, _, a1, ⟨Or.inl ⟨by decide, bl_n (by omega)⟩, by omega, fun q => by omega, fun q => by omega, fun q => by omega, fun _ => bl_n y1⟩, Or.inr (Or.inr (nx (by decide) (by decide)))⟩)
  refine ok_if (fun c => ?_) (fun n15 => ?_)
  · obtain rfl : k = 15 := kk 15 (by decide) c
    have e1 : tkN ar 15 y = 1 := rfl
    have e2 : ptN 15 = 0 := rfl
    have m1 : nI (lo f + d) - 1 = nI (lo f + d - 1) := sb_nl (k := 1) (show 1 ≤ lo f + d by omega)
    rw [m1]
    obtain ⟨σ1, f1, a1⟩ := addReading_ad (N := N) (n := n) hT ht 6 (-1) (x := nI (lo f + d - 1)) (bl_n (by omega))
    rw [f1, bd_s]
    exact ok_ret (Or.inr ⟨6, 1, _, _, _, a1, ⟨Or.inr ⟨by decide, rfl⟩, by decide, fun q => by omega, fun q => by omega, fun q => by omega, fun q => by omega⟩, Or.inr (Or.inl rfl)⟩)
  refine ok_if (fun c => ?_) (fun n16 => ?_)
  · obtain rfl : k = 16 := kk 16 (by decide) c
    have e1 : tkN ar 16 y = 1 := rfl
    have e2 : ptN 16 = 1 := rfl
    have m1 : nI (lo f + d) - 1 = nI (lo f + d - 1) := sb_nl (k := 1) (show 1 ≤ lo f + d by omega)
    rw [m1]
    obtain ⟨σ1, f1, a1⟩ := addReading_ad (N := N) (n := n) hT ht 7 (nI (lo f + d - 1)) (x := nI (lo f + d - 1)) (bl_n (by omega))
    rw [f1, bd_s]
    exact ok_ret (Or.inr ⟨7, 1, _, _, _, a1, ⟨Or.inl ⟨by decide, bl_n (by omega)⟩, by decide, fun q => by omega, fun q => by omega, fun q => by omega, fun q => by omega⟩, Or.inr (Or.inr (nx (by decide) (by decide)))⟩)
  refine ok_if (fun c => ?_) (fun n17 => ?_)
  · obtain rfl : k = 17 := kk 17 (by decide) c
    have e1 : tkN ar 17 y = 2 := rfl
    have e2 : ptN 17 = 0 := rfl
    have m1 : nI (lo f + d) - 1 = nI (lo f + d - 1) := sb_nl (k := 1) (show 1 ≤ lo f + d by omega)
    have m2 : nI (lo f + d) - 2 = nI (lo f + d - 2) := sb_nl (k := 2) (show 2 ≤ lo f + d by omega)
    rw [m1, m2]
    obtain ⟨σ1, f1, a1⟩ := addReading_ad (N := N) (n := n) hT ht 8 (-1) (x := nI (lo f + d - 1)) (bl_n (by omega))
    obtain ⟨σ2, f2, a2⟩ := addRead_ad (N := N) (n := n) a1 ht (by decide) (v := nI (lo f + d - 2)) (bl_n (by omega))
    rw [f1, bd_s, f2, bd_s]
    exact ok_ret (Or.inr ⟨8, 2, _, _, _, a2, ⟨Or.inr ⟨by decide, rfl⟩, by decide, fun q => by omega, fun q => by omega, fun q => by omega, fun q => by omega⟩, Or.inr (Or.inr (nx (by decide) (by decide)))⟩)
  have hn : 3 ≤ k ∧ k ≤ 8 := by
    have z0 : k ≠ 0 := fun q => n0 (by rw [q]; rfl)
    have z1 : k ≠ 1 := fun q => n1 (by rw [q]; rfl)
    have z2 : k ≠ 2 := fun q => n2 (by rw [q]; rfl)
    have z9 : k ≠ 9 := fun q => n9 (by rw [q]; rfl)
    have z10 : k ≠ 10 := fun q => n10 (by rw [q]; rfl)
    have z11 : k ≠ 11 := fun q => n11 (by rw [q]; rfl)
    have z12 : k ≠ 12 := fun q => n12 (by rw [q]; rfl)
    have z13 : k ≠ 13 := fun q => n13 (by rw [q]; rfl)
    have z14 : k ≠ 14 := fun q => n14 (by rw [q]; rfl)
    have z15 : k ≠ 15 := fun q => n15 (by rw [q]; rfl)
    have z16 : k ≠ 16 := fun q => n16 (by rw [q]; rfl)
    have z17 : k ≠ 17 := fun q => n17 (by rw [q]; rfl)
    omega
  have e1 : tkN ar k y = 2 := by
    match k, hn with
    | 3, _ => rfl
    | 4, _ => rfl
    | 5, _ => rfl
    | 6, _ => rfl
    | 7, _ => rfl
    | 8, _ => rfl
    | 0, h => omega
    | 1, h => omega
    | 2, h => omega
    | k + 9, h => omega
  have m1 : nI (lo f + d) - 1 = nI (lo f + d - 1) := sb_nl (k := 1) (show 1 ≤ lo f + d by omega)
  have m2 : nI (lo f + d) - 2 = nI (lo f + d - 2) := sb_nl (k := 2) (show 2 ≤ lo f + d by omega)
  rw [gb_nI (by omega) (by omega), m1, m2]
  obtain ⟨σ1, f1, a1⟩ := add_ad (N := N) (n := n) hT ht 2 (nI (lo f + d - 2)) (nI k)
  obtain ⟨σ2, f2, a2⟩ := addRead_ad (N := N) (n := n) a1 ht (by decide) (v := nI (lo f + d - 2)) (bl_n (by omega))
  obtain ⟨σ3, f3, a3⟩ := addRead_ad (N := N) (n := n) a2 ht (by decide) (v := nI (lo f + d - 1)) (bl_n (by omega))
  rw [f1, bd_s, f2, bd_s, f3, bd_s]
  exact ok_ret (Or.inr ⟨2, 2, _, _, _, a3, ⟨Or.inl ⟨by decide, bl_n (by omega)⟩, by decide, fun q => by omega, fun q => by omega, fun q => by omega, fun q => by omega⟩, Or.inr (Or.inr (nx (by omega) (by omega)))⟩)
