theorem wt_fr {σ0 σ : Sg} {f F G S t R : Nat} (h : WT σ0 σ f F G S t R) : ∀ c j, c ≤ 38 → σ c j = σ0 c j := fun c j q => h.2.2.2.2.2.2.2.2 c j (by omega) (by omega) (by omega) (by omega)
/-- every value that the place p names has its home -/
def Hh (σ0 : Sg) (f R T : Nat) : Prop := ∀ p w, p < T → w < 22 → Nm σ0 p w → HM σ0 f R w
theorem hh_read {σ0 : Sg} {f R T F p kd cc : Nat} {Gp : Nat → Prop} (hH : Hh σ0 f R T) (hp : p < T) (a18 : σ0 18 p = nI cc) (a19 : ∀ i, i < cc → Bl (σ0 19 (p * 6 + i)) 22) (ak : PK kd cc (σ0 17 p) (σ0 15 p) (σ0 16 p) F Gp) {i : Nat} (hi : i < cc) : ∃ v, v < 22 ∧ σ0 19 (p * 6 + i) = nI v ∧ HM σ0 f R v := by
  obtain ⟨v, hv, ev⟩ := a19 i hi
  exact ⟨v, hv, ev, hH p v hp hv (Or.inr (Or.inl ⟨cc, i, a18, ak.2.1, hi, ev⟩))⟩
theorem hh_written {σ0 : Sg} {f R T F p kd cc : Nat} {Gp : Nat → Prop} (hH : Hh σ0 f R T) (hp : p < T) (ak : PK kd cc (σ0 17 p) (σ0 15 p) (σ0 16 p) F Gp) (hk : kd = 0 ∨ kd = 1 ∨ kd = 2 ∨ kd = 7 ∨ kd = 13) : ∃ v, v < 22 ∧ σ0 17 p = nI v ∧ HM σ0 f R v := by
  rcases ak.1 with ⟨-, v, hv, ev⟩ | ⟨a, -⟩
  · exact ⟨v, hv, ev, hH p v hp hv (Or.inr (Or.inr ev))⟩
  · omega
section WPL
variable {N n : Nat} {σ0 σ : Sg} {f F S t R T p kd cc : Nat}
theorem writeWork_wt (hf : f < 12) (hn2 : n ≤ 100000000) (hR : R ≤ 14) (hT : T ≤ 300) (h : WT σ0 σ f F T S t R) (hH : Hh σ0 f R T) (hp : p < T) (a18 : σ0 18 p = nI cc) (a19 : ∀ i, i < cc → Bl (σ0 19 (p * 6 + i)) 22) (ak : PK kd cc (σ0 17 p) (σ0 15 p) (σ0 16 p) F (fun y => y < T)) (hk : kd = 2) (hn : (t + 4) * 5 ≤ n) :
    Ok (f_X10_writeWork N n σ (nI p)) (Wq σ0 f F T S t R 4 (fun _ => True)) := by
  have gp : ∀ y : Option (Int32 × Sg), gb (nI p) 300 y = y := fun y => gb_nI (by omega) (by decide)
  have g0 : ∀ y : Option (Int32 × Sg), gb 0 6 y = y := fun y => gb_nI (k := 0) (by decide) (by decide)
  have g1 : ∀ y : Option (Int32 × Sg), gb 1 6 y = y := fun y => gb_nI (k := 1) (by decide) (by decide)
  have i0 : ix 0 = 0 := rfl
  have i1 : ix 1 = 1 := rfl
  have hc2 := ak.2.2.2.1 (by omega)
  obtain ⟨v0, hv0, ev0, hm0⟩ := hh_read hH hp a18 a19 ak (i := 0) (by omega)
  obtain ⟨v1, hv1, ev1, hm1⟩ := hh_read hH hp a18 a19 ak (i := 1) (by omega)
  obtain ⟨w, hw, ew, hmw⟩ := hh_written hH hp ak (by omega)
  unfold f_X10_writeWork
  simp only [gp, g0, g1]
  rw [ix_nI (k := p) (by omega), i0, i1, wt_fr h 19 _ (by decide), ev0]
  refine ok_bd (loaded_wt hf hn2 hR h hv0 hm0 (wt_a h hR) (by omega)) (fun r1 σ1 _ h1 => ?_)
  obtain ⟨q1, t1, b1, c1, w1⟩ := h1
  have w1 : WT σ0 σ1 f F T S t1 R := w1
  rw [wt_fr w1 19 _ (by decide), ev1]
  refine ok_bd (loaded_wt hf hn2 hR w1 hv1 hm1 (wt_b w1 hR) (by omega)) (fun r2 σ2 _ h2 => ?_)
  obtain ⟨q2, t2, b2, c2, w2⟩ := h2
  have w2 : WT σ0 σ2 f F T S t2 R := w2
  rw [wt_fr w2 17 _ (by decide), ew]
  refine ok_bd (target_wt hf hR w2 hw hmw) (fun r3 σ3 _ h3 => ?_)
  obtain ⟨hs, q3⟩ := h3
  have hs : σ3 = σ2 := hs
  subst hs
  rw [w2.1]
  refine ok_bd (addWork_wt hf hn2 w2 q3 q1 q2 _ (by omega)) (fun r4 σ4 _ w4 => ?_)
  have w4 : WT σ0 σ4 f F T S (t2 + 1) R := w4
  rw [wt_fr w4 17 _ (by decide), ew]
  refine ok_bd (saveTarget_wt hf hn2 hR w4 hw hmw (by omega)) (fun r5 σ5 _ h5 => ok_ret ?_)
  obtain ⟨-, t5, b5, c5, w5⟩ := h5
  exact ⟨trivial, t5, by omega, by omega, w5⟩
theorem call_loop (hf : f < 12) (hn2 : n ≤ 100000000) (hR : R ≤ 14) (hT : T ≤ 300) (hH : Hh σ0 f R T) (hp : p < T) (a18 : σ0 18 p = nI cc) (a19 : ∀ i, i < cc → Bl (σ0 19 (p * 6 + i)) 22) (ak : PK kd cc (σ0 17 p) (σ0 15 p) (σ0 16 p) F (fun y => y < T)) (hn : (t + 15) * 5 ≤ n) {K : Sg → Int32 → Option (Int32 × Sg)} {P : Int32 × Sg → Prop}
    (hK : ∀ (σ1 : Sg) (t1 : Nat) (x : Int32), t ≤ t1 → t1 ≤ t + 12 → WT σ0 σ1 f F T S t1 R → Ok (K σ1 x) P) :
    ∀ (k v : Nat) (σ : Sg) (t1 : Nat), v ≤ cc → cc < v + k → t ≤ t1 → t1 ≤ t + 2 * v → WT σ0 σ f F T S t1 R → Ok (lf_X10_writeCall_2 N n (nI p) K k σ (nI v)) P := by
  have hc6 := ak.2.1
  intro k
  induction k with
  | zero => intro v σ t1 h1 h2; omega
  | succ k ih =>
    intro v σ t1 h1 h2 h3 h4 h
    show Ok (lb_X10_writeCall_2 N n (nI p) K (lf_X10_writeCall_2 N n (nI p) K k) σ (nI v)) P
    unfold lb_X10_writeCall_2
    rw [gb_nI (show p < 300 by omega) (by decide), ix_nI (k := p) (by omega), wt_fr h 18 _ (by decide), a18]
    refine ok_if (fun c => ?_) (fun c => ?_)
    · rw [le_nn (by omega) (by omega)] at c
      exact hK σ t1 _ h3 (by omega) h
    · rw [le_nn (by omega) (by omega)] at c
      obtain ⟨x, hx, ex, hmx⟩ := hh_read hH hp a18 a19 ak (i := v) (by omega)
      rw [gb_nI (show v < 6 by omega) (by decide), gb_nI (show p < 300 by omega) (by decide), ix_nI (k := v) (by omega), wt_fr h 19 _ (by decide), ex, h.1, ad_nl v 1]
      refine ok_bd (loaded_wt hf hn2 hR h hx hmx (wt_a h hR) (by omega)) (fun r1 σ1 _ hh1 => ?_)
      obtain ⟨q1, t2, b2, c2, w2⟩ := hh1
      have w2 : WT σ0 σ1 f F T S t2 R := w2
      obtain ⟨σ3, f3, w3, -⟩ := add_wt (N := N) hf hn2 w2 (by omega) (k := 12) (kk := 12) (a := nI v) (b := r1) rfl (o3_pass (bl_n (by omega)) q1)
      rw [f3, bd_s]
      exact ih (v + 1) σ3 (t2 + 1) (by omega) (by omega) (by omega) (by omega) w3
theorem writeCall_wt (hN : 1000 ≤ N) (hf : f < 12) (hn2 : n ≤ 100000000) (hR : R ≤ 14) (hT : T ≤ 300) (h : WT σ0 σ f F T S t R) (hH : Hh σ0 f R T) (hp : p < T) (a18 : σ0 18 p = nI cc) (a19 : ∀ i, i < cc → Bl (σ0 19 (p * 6 + i)) 22) (ak : PK kd cc (σ0 17 p) (σ0 15 p) (σ0 16 p) F (fun y => y < T)) (hk : kd = 13) (hn : (t + 15) * 5 ≤ n) :
    Ok (f_X10_writeCall N n σ (nI p)) (Wq σ0 f F T S t R 15 (fun _ => True)) := by
  have gp : ∀ y : Option (Int32 × Sg), gb (nI p) 300 y = y := fun y => gb_nI (by omega) (by decide)
  have hc6 := ak.2.1
  have hcall := ak.2.2.2.2.2 hk
  obtain ⟨w, hw, ew, hmw⟩ := hh_written hH hp ak (by omega)
  unfold f_X10_writeCall
  simp only [gp]
  rw [ix_nI (k := p) (by omega)]
  refine call_loop hf hn2 hR hT hH hp a18 a19 ak hn (fun σ1 t1 x b1 c1 w1 => ?_) N 0 σ t (by omega) (by omega) (by omega) (by omega) h
  rw [w1.1, wt_fr w1 15 _ (by decide)]
  obtain ⟨σ2, f2, w2, -⟩ := add_wt (N := N) hf hn2 w1 (by omega) (k := 13) (kk := 13) (a := σ0 15 p) (b := 0) rfl (o3_call hcall)
  rw [f2, bd_s, wt_fr w2 17 _ (by decide), ew]
  refine ok_bd (target_wt hf hR w2 hw hmw) (fun r3 σ3 _ h3 => ?_)
  obtain ⟨hs, q3⟩ := h3
  have hs : σ3 = σ2 := hs
  subst hs
  rw [w2.1]
  obtain ⟨σ4, f4, w4, -⟩ := add_wt (N := N) hf hn2 w2 (by omega) (k := 14) (kk := 14) (a := r3) (b := 0) rfl (o3_get q3)
  rw [f4, bd_s, wt_fr w4 17 _ (by decide), ew]
  refine ok_bd (saveTarget_wt hf hn2 hR w4 hw hmw (by omega)) (fun r5 σ5 _ h5 => ok_ret ?_)
  obtain ⟨-, t5, b5, c5, w5⟩ := h5
  exact ⟨trivial, t5, by omega, by omega, w5⟩
/-- one place's ops; a place that doesn't go on ends with such an op -/
theorem writePlace_wt (hN : 1000 ≤ N) (hf : f < 12) (hn2 : n ≤ 100000000) (hR : R ≤ 14) (hL : PL σ0 F T) (h : WT σ0 σ f F T S t R) (hH : Hh σ0 f R T) (hp : p < T) (hn : (t + 15) * 5 ≤ n) :
    Ok (f_X10_writePlace N n σ (nI p)) (fun y => ∃ t', t ≤ t' ∧ t' ≤ t + 15 ∧ WT σ0 y.2 f F T S t' R ∧ ((σ0 14 p = nI 4 ∨ σ0 14 p = nI 6) → t < t' ∧ (y.2 42 ((t' - 1) * 5) = nI 4 ∨ y.2 42 ((t' - 1) * 5) = nI 6))) := by
  have hT := hL.2.2.1
  obtain ⟨kd, cc, a14, a18, a19, ak⟩ := hL.2.2.2.1 p hp
  have hkd := pk_k ak
  have gp : ∀ y : Option (Int32 × Sg), gb (nI p) 300 y = y := fun y => gb_nI (by omega) (by decide)
  have g0 : ∀ y : Option (Int32 × Sg), gb 0 6 y = y := fun y => gb_nI (k := 0) (by decide) (by decide)
  have g1 : ∀ y : Option (Int32 × Sg), gb 1 6 y = y := fun y => gb_nI (k := 1) (by decide) (by decide)
  have i0 : ix 0 = 0 := rfl
  have i1 : ix 1 = 1 := rfl
  have kk : ∀ (m : Nat), m < 2147483648 → nI kd = nI m → kd = m := fun m hm q => (nI_eq (by omega) hm).mp q
  have nl : ∀ {σ' : Sg} {t' : Nat}, kd ≠ 4 → kd ≠ 6 → ((nI kd = nI 4 ∨ nI kd = nI 6) → t < t' ∧ (σ' 42 ((t' - 1) * 5) = nI 4 ∨ σ' 42 ((t' - 1) * 5) = nI 6)) := by
    intro σ' t' n4 n6 q
    rcases q with q | q
    · exact absurd (kk 4 (by decide) q) n4
    · exact absurd (kk 6 (by decide) q) n6
  have up : ∀ {m : Nat} {Q : Int32 → Prop} {x : Option (Int32 × Sg)}, m ≤ 15 → kd ≠ 4 → kd ≠ 6 → Ok x (Wq σ0 f F T S t R m Q) → Ok (bd x (fun _ σ1 => some ((0 : Int32), σ1))) (fun y => ∃ t', t ≤ t' ∧ t' ≤ t + 15 ∧ WT σ0 y.2 f F T S t' R ∧ ((nI kd = nI 4 ∨ nI kd = nI 6) → t < t' ∧ (y.2 42 ((t' - 1) * 5) = nI 4 ∨ y.2 42 ((t' - 1) * 5) = nI 6))) := by
    intro m Q x hm n4 n6 hx
    refine ok_bd hx (fun r σ1 _ h1 => ok_ret ?_)
    obtain ⟨-, t1, b1, c1, w1⟩ := h1
    exact ⟨t1, b1, by omega, w1, nl n4 n6⟩
  unfold f_X10_writePlace
  simp only [gp, g0, g1]
  rw [ix_nI (k := p) (by omega), i0, i1, wt_fr h 14 _ (by decide), a14, h.1, wt_fr h 17 _ (by decide), wt_fr h 19 _ (by decide), wt_fr h 19 _ (by decide), wt_fr h 16 _ (by decide)]
  refine ok_if (fun c => ?_) (fun n0 => ?_)
  · have e := kk 0 (by decide) c
    obtain ⟨w, hw, ew, hmw⟩ := hh_written hH hp ak (by omega)
    rw [ew]
    refine ok_bd (target_wt hf hR h hw hmw) (fun r1 σ1 _ h1 => ?_)
    obtain ⟨hs, q1⟩ := h1
    have hs : σ1 = σ := hs
    subst hs
    obtain ⟨σ2, f2, w2, -⟩ := add_wt (N := N) hf hn2 h (by omega) (k := 0) (kk := 0) (a := r1) (b := σ1 15 p) rfl (o3_set q1)
    rw [f2, bd_s, wt_fr w2 17 _ (by decide), ew]
    refine ok_bd (saveTarget_wt hf hn2 hR w2 hw hmw (by omega)) (fun r5 σ5 _ h5 => ok_ret ?_)
    obtain ⟨-, t5, b5, c5, w5⟩ := h5
    exact ⟨t5, by omega, by omega, w5, nl (by omega) (by omega)⟩
  refine ok_if (fun c => ?_) (fun n1 => ?_)
  · have e := kk 1 (by decide) c
    have hc := ak.2.2.1 (by omega)
    obtain ⟨w, hw, ew, hmw⟩ := hh_written hH hp ak (by omega)
    obtain ⟨v0, hv0, ev0, hm0⟩ := hh_read hH hp a18 a19 ak (i := 0) (by omega)
    rw [ew, ev0]
    exact up (m := 2) (by decide) (by omega) (by omega) (writeMove_wt hf hn2 hR h hw hmw hv0 hm0 (by omega))
  refine ok_if (fun c => ?_) (fun n2 => ?_)
  · have e := kk 2 (by decide) c
    exact up (m := 4) (by decide) (by omega) (by omega) (writeWork_wt hf hn2 hR hT h hH hp a18 a19 ak e (by omega))
  refine ok_if (fun c => ?_) (fun n3 => ?_)
  · have e := kk 3 (by decide) c
    have hc := ak.2.2.2.1 (by omega)
    obtain ⟨v0, hv0, ev0, hm0⟩ := hh_read hH hp a18 a19 ak (i := 0) (by omega)
    obtain ⟨v1, hv1, ev1, hm1⟩ := hh_read hH hp a18 a19 ak (i := 1) (by omega)
    rw [ev0, ev1]
    exact up (m := 4) (by decide) (by omega) (by omega) (writeSwap_wt hf hn2 hR h hv0 hm0 hv1 hm1 (by omega))
  refine ok_if (fun c => ?_) (fun n4 => ?_)
  · have e := kk 4 (by decide) c
    obtain ⟨y, gy, ey⟩ := ak.2.2.2.2.1 (Or.inl e)
    obtain ⟨σ2, f2, w2, k2, -⟩ := add_wt (N := N) hf hn2 h (by omega) (k := 4) (kk := 4) (a := σ0 16 p) (b := 0) rfl (o3_go ⟨y, gy, ey⟩)
    rw [f2, bd_s]
    exact ok_ret ⟨t + 1, by omega, by omega, w2, fun _ => ⟨by omega, Or.inl k2⟩⟩
  refine ok_if (fun c => ?_) (fun n5 => ?_)
  · have e := kk 5 (by decide) c
    have hc := ak.2.2.1 (by omega)
    obtain ⟨y, gy, ey⟩ := ak.2.2.2.2.1 (Or.inr e)
    obtain ⟨v0, hv0, ev0, hm0⟩ := hh_read hH hp a18 a19 ak (i := 0) (by omega)
    rw [ev0]
    refine ok_bd (loaded_wt hf hn2 hR h hv0 hm0 (wt_a h hR) (by omega)) (fun r1 σ1 _ h1 => ?_)
    obtain ⟨q1, t1, b1, c1, w1⟩ := h1
    have w1 : WT σ0 σ1 f F T S t1 R := w1
    rw [wt_fr w1 16 _ (by decide)]
    obtain ⟨σ2, f2, w2, k2, -⟩ := add_wt (N := N) hf hn2 w1 (by omega) (k := 5) (kk := 5) (a := r1) (b := σ0 16 p) rfl (o3_ifn q1 ⟨y, gy, ey⟩)
    rw [f2, bd_s]
    exact ok_ret ⟨t1 + 1, by omega, by omega, w2, nl (by omega) (by omega)⟩
  refine ok_if (fun c => ?_) (fun n6 => ?_)
  · have e := kk 6 (by decide) c
    have hc := ak.2.2.1 (by omega)
    obtain ⟨v0, hv0, ev0, hm0⟩ := hh_read hH hp a18 a19 ak (i := 0) (by omega)
    rw [ev0]
    refine ok_bd (loaded_wt hf hn2 hR h hv0 hm0 (wt_a h hR) (by omega)) (fun r1 σ1 _ h1 => ?_)
    obtain ⟨q1, t1, b1, c1, w1⟩ := h1
    have w1 : WT σ0 σ1 f F T S t1 R := w1
    obtain ⟨σ2, f2, w2, k2, -⟩ := add_wt (N := N) hf hn2 w1 (by omega) (k := 6) (kk := 6) (a := r1) (b := 0) rfl (o3_tell q1)
    rw [f2, bd_s]
    exact ok_ret ⟨t1 + 1, by omega, by omega, w2, fun _ => ⟨by omega, Or.inr k2⟩⟩
  refine ok_if (fun c => ?_) (fun n7 => ?_)
  · have e := kk 7 (by decide) c
    have hc := ak.2.2.1 (by omega)
    obtain ⟨w, hw, ew, hmw⟩ := hh_written hH hp ak (by omega)
    obtain ⟨v0, hv0, ev0, hm0⟩ := hh_read hH hp a18 a19 ak (i := 0) (by omega)
    rw [ew, ev0]
    exact up (m := 3) (by decide) (by omega) (by omega) (writeRead_wt hf hn2 hR h hw hmw hv0 hm0 (by omega))
  refine ok_if (fun c => ?_) (fun n8 => ?_)
  · have e := kk 8 (by decide) c
    have hc := ak.2.2.2.1 (by omega)
    obtain ⟨v0, hv0, ev0, hm0⟩ := hh_read hH hp a18 a19 ak (i := 0) (by omega)
    obtain ⟨v1, hv1, ev1, hm1⟩ := hh_read hH hp a18 a19 ak (i := 1) (by omega)
    rw [ev0, ev1]
    exact up (m := 3) (by decide) (by omega) (by omega) (writeWrite_wt hf hn2 hR h hv0 hm0 hv1 hm1 (by omega))
  have e13 : kd = 13 := by
    have z0 : kd ≠ 0 := fun q => n0 (by rw [q]; rfl)
    have z1 : kd ≠ 1 := fun q => n1 (by rw [q]; rfl)
    have z2 : kd ≠ 2 := fun q => n2 (by rw [q]; rfl)
    have z3 : kd ≠ 3 := fun q => n3 (by rw [q]; rfl)
    have z4 : kd ≠ 4 := fun q => n4 (by rw [q]; rfl)
    have z5 : kd ≠ 5 := fun q => n5 (by rw [q]; rfl)
    have z6 : kd ≠ 6 := fun q => n6 (by rw [q]; rfl)
    have z7 : kd ≠ 7 := fun q => n7 (by rw [q]; rfl)
    have z8 : kd ≠ 8 := fun q => n8 (by rw [q]; rfl)
    rcases ak.1 with ⟨a, -⟩ | ⟨a, -⟩ <;> omega
  exact up (m := 15) (by decide) (by omega) (by omega) (writeCall_wt hN hf hn2 hR hT h hH hp a18 a19 ak e13 hn)
end WPL
