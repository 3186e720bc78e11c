/-- every value that a place names has its home -/
def Hhr (σ0 : Sg) (f R T : Nat) : Prop := ∀ p w, p < T → w < 22 → Nr σ0 p w → HMr σ0 f R w
theorem hhr_val {σ0 : Sg} {f R T p c : Nat} (hH : Hhr σ0 f R T) (hp : p < T) (a71 : σ0 71 p = nI c) (hc : c ≤ 7) (a70 : ∀ i, i < c → Bl (σ0 70 (8 * p + i)) 22) {i : Nat} (hi : i < c) : ∃ v, v < 22 ∧ σ0 70 (8 * p + i) = nI v ∧ HMr σ0 f R v := by
  obtain ⟨v, hv, ev⟩ := a70 i hi
  exact ⟨v, hv, ev, hH p v hp hv (Or.inr ⟨c, i, a71, hc, hi, ev⟩)⟩
/-- what a place's code gives -/
def Pz (σ0 σ : Sg) (f F G S t R : Nat) (L : Prop) (y : Int32 × Sg) : Prop := ∃ t', t ≤ t' ∧ WR σ0 y.2 f F G S t' R ∧ (Fi y.2 → Fi σ ∧ (L → t < t' ∧ (y.2 84 (5 * (t' - 1)) = nI 4 ∨ y.2 84 (5 * (t' - 1)) = nI 6)))
section RCD
variable {N n : Nat} {σ0 σ : Sg} {f F G S t R T p kd cc : Nat}
theorem pz_up {L : Prop} {x : Option (Int32 × Sg)} {Q : Int32 → Prop} (hL : ¬ L) (h : Ok x (Wz σ0 σ f F G S t R Q)) : Ok x (Pz σ0 σ f F G S t R L) :=
  ok_mono h (fun y ⟨_, t', a, w, z⟩ => ⟨t', a, w, fun q => ⟨z q, fun l => absurd l hL⟩⟩)
theorem pz_end {L : Prop} (h : WR σ0 σ f F G S t R) {k : Nat} {kk a b c d : Int32} (ek : kk = nI k) (hk : OK4 k a b c F G) (h46 : k = 4 ∨ k = 6) : Ok (bd (f_X12_emit N n σ kk a b c d) (fun _ σ1 => some ((0 : Int32), σ1))) (Pz σ0 σ f F G S t R L) := by
  refine ok_bd (emit_wr h ek hk) (fun r σ1 _ h1 => ok_ret ?_)
  obtain ⟨t', a1, a2, a3⟩ := h1
  refine ⟨t', a1, a2, fun q => ⟨(a3 q).1, fun _ => ?_⟩⟩
  obtain ⟨-, e, k0⟩ := a3 q
  have k0 : σ1 84 (5 * t) = nI k := k0
  refine ⟨by omega, ?_⟩
  show σ1 84 (5 * (t' - 1)) = nI 4 ∨ σ1 84 (5 * (t' - 1)) = nI 6
  rw [show t' - 1 = t by omega, k0]
  rcases h46 with z | z
  · exact Or.inl (by rw [z])
  · exact Or.inr (by rw [z])
theorem pz_bd {L : Prop} {x : Option (Int32 × Sg)} {k : Int32 → Sg → Option (Int32 × Sg)} {Q : Int32 → Prop} (h : Ok x (Wz σ0 σ f F G S t R Q)) (hk : ∀ (r : Int32) (σ1 : Sg) (t1 : Nat), Q r → t ≤ t1 → WR σ0 σ1 f F G S t1 R → Ok (k r σ1) (Pz σ0 σ1 f F G S t1 R L)) : Ok (bd x k) (Pz σ0 σ f F G S t R L) := by
  refine ok_bd h (fun r σ1 _ h1 => ?_)
  obtain ⟨q, t1, a1, w1, f1⟩ := h1
  refine ok_mono (hk r σ1 t1 q a1 w1) (fun y hy => ?_)
  obtain ⟨t2, a2, w2, f2⟩ := hy
  refine ⟨t2, by omega, w2, fun z => ⟨f1 (f2 z).1, fun l => ?_⟩⟩
  have := (f2 z).2 l
  exact ⟨by omega, this.2⟩
theorem pass_loop (hf : f < 12) (hR : R ≤ 14) (hp : p < T) (hT : T ≤ 300) (hH : Hhr σ0 f R T) (a71 : σ0 71 p = nI cc) (hc : cc ≤ 7) (a70 : ∀ i, i < cc → Bl (σ0 70 (8 * p + i)) 22) {u2 u4 : Int32} (h2 : Bl u2 16) {K : Sg → Int32 → Option (Int32 × Sg)} {Q : Int32 → Prop}
    (hK : ∀ (σ1 : Sg) (t1 : Nat) (x : Int32), WR σ0 σ1 f F G S t1 R → Ok (K σ1 x) (Wz σ0 σ1 f F G S t1 R Q)) :
    ∀ (k v : Nat) (σ : Sg) (t : Nat), 1 ≤ v → v ≤ 7 → 8 ≤ v + k → WR σ0 σ f F G S t R → Ok (lf_X12_codePlace_327 N n (nI p) u2 u4 K k σ (nI v)) (Wz σ0 σ f F G S t R Q) := by
  intro k
  induction k with
  | zero => intro v σ t q1 q2 q3; omega
  | succ k ih =>
    intro v σ t q1 q2 q3 h
    show Ok (lb_X12_codePlace_327 N n (nI p) u2 u4 K (lf_X12_codePlace_327 N n (nI p) u2 u4 K k) σ (nI v)) _
    unfold lb_X12_codePlace_327
    rw [gb_nI (show p < 300 by omega) (by decide), ix_nI (k := p) (by omega), wr_fr h 71 _ (by decide) (by decide), a71]
    refine ok_if (fun c => hK σ t _ h) (fun c => ?_)
    rw [le_nn (by omega) (by omega)] at c
    rw [ml_ln p 8, ad_nn]
    have e8 : OfNat.ofNat 8 * p + v = 8 * p + v := rfl
    obtain ⟨x, hx, ex, hmx⟩ := hhr_val hH hp a71 hc a70 (i := v) (by omega)
    rw [e8, gb_nI (show 8 * p + v < 2400 by omega) (by decide), ix_nI (k := 8 * p + v) (by omega), wr_fr h 70 _ (by decide) (by decide), ex, ad_nl v 1]
    have e1 : nI v - 1 = nI (v - 1) := sb_nl (k := 1) q1
    rw [e1]
    refine wz_bd (rread_wz hf hR h hx hmx h2) (fun r1 σ1 t1 b1 _ w1 => ?_)
    exact wz_bd (emit_wz w1 (k := 12) (kk := 12) rfl (o4_pass (bl_n (by omega)) b1)) (fun r2 σ2 t2 _ _ w2 => ih (v + 1) σ2 t2 (by omega) (by omega) (by omega) w2)
theorem codePlace_pz (hN : 1000 ≤ N) (hf : f < 12) (hR : R ≤ 14) (hL : QL σ0 F T) (h : WR σ0 σ f F T S t R) (hH : Hhr σ0 f R T) (hp : p < T) :
    Ok (f_X12_codePlace N n σ (nI p)) (Pz σ0 σ f F T S t R (σ0 68 p = nI 4 ∨ σ0 68 p = nI 6)) := by
  have hT := hL.2.2.1
  obtain ⟨kd, cc, a68, a71, a70, ak⟩ := hL.2.2.2.1 p hp
  have hkd := qk_k ak
  obtain ⟨k1, k2, k3, k4, k5, k6, k7⟩ := ak
  have gp : ∀ y : Option (Int32 × Sg), gb (nI p) 300 y = y := fun y => gb_nI (by omega) (by decide)
  have kk : ∀ (m : Nat), m < 2147483648 → nI kd = nI m → kd = m := fun m hm q => (nI_eq (by omega) hm).mp q
  have nl : kd ≠ 4 → kd ≠ 6 → ¬ (nI kd = nI 4 ∨ nI kd = nI 6) := by
    intro n4 n6 q
    rcases q with q | q
    · exact absurd (kk 4 (by decide) q) n4
    · exact absurd (kk 6 (by decide) q) n6
  have val := fun (i : Nat) (hi : i < cc) => hhr_val hH hp a71 k2 a70 (i := i) hi
  unfold f_X12_codePlace
  rw [ml_ln p 8]
  have e8 : OfNat.ofNat 8 * p = 8 * p := rfl
  rw [e8, ad_nl (8 * p) 1, ad_nl (8 * p) 2]
  have o1 : 8 * p + OfNat.ofNat 1 = 8 * p + 1 := rfl
  have o2 : 8 * p + OfNat.ofNat 2 = 8 * p + 2 := rfl
  rw [o1, o2, gb_nI (show 8 * p < 2400 by omega) (by decide), gb_nI (show 8 * p + 1 < 2400 by omega) (by decide), gb_nI (show 8 * p + 2 < 2400 by omega) (by decide)]
  simp only [gp]
  rw [ix_nI (k := p) (by omega), ix_nI (k := 8 * p) (by omega), ix_nI (k := 8 * p + 1) (by omega), ix_nI (k := 8 * p + 2) (by omega), wr_fr h 68 _ (by decide) (by decide), a68, wr_fr h 70 (8 * p) (by decide) (by decide), wr_fr h 70 (8 * p + 1) (by decide) (by decide), wr_fr h 70 (8 * p + 2) (by decide) (by decide)]
  have ha := wr_a h hR
  have hb := wr_b h hR
  -- write a target's op and save it
  have fin : ∀ {σ1 : Sg} {t1 w : Nat} (w1 : WR σ0 σ1 f F T S t1 R) (hw : w < 22) (hm : HMr σ0 f R w), Ok (bd (f_X12_saved N n σ1 (nI w)) (fun _ σ14 => some ((0 : Int32), σ14))) (Wz σ0 σ1 f F T S t1 R (fun _ => True)) := fun w1 hw hm => wz_bd (saved_wz hf hR w1 hw hm) (fun r2 σ2 t2 _ _ w2 => wz_ret w2 trivial)
  have one : ∀ {x : Option (Int32 × Sg)}, Ok x (Wz σ0 σ f F T S t R (fun _ => True)) → Ok (bd x (fun _ σ1 => some ((0 : Int32), σ1))) (Wz σ0 σ f F T S t R (fun _ => True)) := fun hx => wz_bd hx (fun r2 σ2 t2 _ _ w2 => wz_ret w2 trivial)
  refine ok_if (fun c => ?_) (fun n0 => ?_)
  · have e := kk 0 (by decide) c
    obtain ⟨w, hw, ew, hmw⟩ := val 0 (by have := k3 (by omega); omega)
    refine pz_up (nl (by omega) (by omega)) (Q := fun _ => True) ?_
    rw [show 8 * p + 0 = 8 * p by omega] at ew
    rw [ew]
    refine ok_bd (written_ok hf hR h hw hmw) (fun r1 σ1 _ h1 => ?_)
    obtain ⟨hs, q1⟩ := h1
    have hs : σ1 = σ := hs
    subst hs
    exact wz_bd (emit_wz h (k := 0) (kk := 0) rfl (o4_set q1)) (fun r2 σ2 t2 _ _ w2 => fin w2 hw hmw)
  refine ok_if (fun c => ?_) (fun n1 => ?_)
  · have e := kk 1 (by decide) c
    obtain ⟨w, hw, ew, hmw⟩ := val 0 (by have := k4 (by omega); omega)
    obtain ⟨v, hv, ev, hmv⟩ := val 1 (by have := k4 (by omega); omega)
    rw [show 8 * p + 0 = 8 * p by omega] at ew
    rw [ew, ev]
    exact pz_up (nl (by omega) (by omega)) (one (moves_wz hf hR h hw hmw hv hmv))
  refine ok_if (fun c => ?_) (fun n2 => ?_)
  · have e := kk 2 (by decide) c
    have := k5 e
    obtain ⟨w, hw, ew, hmw⟩ := val 0 (by omega)
    obtain ⟨v, hv, ev, hmv⟩ := val 1 (by omega)
    obtain ⟨u, hu, eu, hmu⟩ := val 2 (by omega)
    rw [show 8 * p + 0 = 8 * p by omega] at ew
    rw [ew, ev, eu]
    refine pz_up (nl (by omega) (by omega)) (Q := fun _ => True) (wz_bd (rread_wz hf hR h hv hmv ha) (fun r1 σ1 t1 b1 _ w1 => wz_bd (rread_wz hf hR w1 hu hmu hb) (fun r2 σ2 t2 b2 _ w2 => ?_)))
    refine ok_bd (written_ok hf hR w2 hw hmw) (fun r3 σ3 _ h3 => ?_)
    obtain ⟨hs, q1⟩ := h3
    have hs : σ3 = σ2 := hs
    subst hs
    exact wz_bd (emit_wz w2 (k := 2) (kk := 2) rfl (o4_work q1 b1 b2)) (fun r2 σ2 t2 _ _ w2 => fin w2 hw hmw)
  refine ok_if (fun c => ?_) (fun n3 => ?_)
  · have e := kk 3 (by decide) c
    have := k4 (by omega)
    obtain ⟨w, hw, ew, hmw⟩ := val 0 (by omega)
    obtain ⟨v, hv, ev, hmv⟩ := val 1 (by omega)
    rw [show 8 * p + 0 = 8 * p by omega] at ew
    rw [ew, ev]
    exact pz_up (nl (by omega) (by omega)) (one (swaps_wz hf hR h hw hmw hv hmv ha hb))
  refine ok_if (fun c => ?_) (fun n4 => ?_)
  · have e := kk 4 (by decide) c
    obtain ⟨y, gy, ey⟩ := k6 (Or.inl e)
    rw [wr_fr h 69 _ (by decide) (by decide)]
    exact pz_end h (k := 4) (kk := 4) rfl (o4_go ⟨y, gy, ey⟩) (Or.inl rfl)
  refine ok_if (fun c => ?_) (fun n5 => ?_)
  · have e := kk 5 (by decide) c
    obtain ⟨y, gy, ey⟩ := k6 (Or.inr e)
    obtain ⟨w, hw, ew, hmw⟩ := val 0 (by have := k3 (by omega); omega)
    rw [show 8 * p + 0 = 8 * p by omega] at ew
    rw [ew]
    refine pz_up (nl (by omega) (by omega)) (Q := fun _ => True) (wz_bd (rread_wz hf hR h hw hmw ha) (fun r1 σ1 t1 b1 _ w1 => ?_))
    rw [wr_fr w1 69 _ (by decide) (by decide)]
    exact wz_bd (emit_wz w1 (k := 5) (kk := 5) rfl (o4_ifn b1 ⟨y, gy, ey⟩)) (fun r2 σ2 t2 _ _ w2 => wz_ret w2 trivial)
  refine ok_if (fun c => ?_) (fun n6 => ?_)
  · have e := kk 6 (by decide) c
    obtain ⟨w, hw, ew, hmw⟩ := val 0 (by have := k3 (by omega); omega)
    rw [show 8 * p + 0 = 8 * p by omega] at ew
    rw [ew]
    exact pz_bd (rread_wz hf hR h hw hmw ha) (fun r1 σ1 t1 b1 _ w1 => pz_end w1 (k := 6) (kk := 6) rfl (o4_tell b1) (Or.inr rfl))
  refine ok_if (fun c => ?_) (fun n7 => ?_)
  · have e := kk 7 (by decide) c
    have := k4 (by omega)
    obtain ⟨w, hw, ew, hmw⟩ := val 0 (by omega)
    obtain ⟨v, hv, ev, hmv⟩ := val 1 (by omega)
    rw [show 8 * p + 0 = 8 * p by omega] at ew
    rw [ew, ev]
    refine pz_up (nl (by omega) (by omega)) (Q := fun _ => True) (wz_bd (rread_wz hf hR h hv hmv ha) (fun r1 σ1 t1 b1 _ w1 => ?_))
    refine ok_bd (written_ok hf hR w1 hw hmw) (fun r3 σ3 _ h3 => ?_)
    obtain ⟨hs, q1⟩ := h3
    have hs : σ3 = σ1 := hs
    subst hs
    exact wz_bd (emit_wz w1 (k := 7) (kk := 7) rfl (o4_read q1 b1)) (fun r2 σ2 t2 _ _ w2 => fin w2 hw hmw)
  refine ok_if (fun c => ?_) (fun n8 => ?_)
  · have e := kk 8 (by decide) c
    have := k4 (by omega)
    obtain ⟨w, hw, ew, hmw⟩ := val 0 (by omega)
    obtain ⟨v, hv, ev, hmv⟩ := val 1 (by omega)
    rw [show 8 * p + 0 = 8 * p by omega] at ew
    rw [ew, ev]
    refine pz_up (nl (by omega) (by omega)) (Q := fun _ => True) (wz_bd (rread_wz hf hR h hw hmw ha) (fun r1 σ1 t1 b1 _ w1 => wz_bd (rread_wz hf hR w1 hv hmv hb) (fun r2 σ2 t2 b2 _ w2 => ?_)))
    exact wz_bd (emit_wz w2 (k := 8) (kk := 8) rfl (o4_write b1 b2)) (fun r2 σ2 t2 _ _ w2 => wz_ret w2 trivial)
  have e13 : kd = 13 := by
    have z0 : kd ≠ 0 := fun q => n0 (by rw [q]; rfl)
    have z1 : kd ≠ 1 := fun q => n1 (by rw [q]; rfl)
    have z2 : kd ≠ 2 := fun q => n2 (by rw [q]; rfl)
    have z3 : kd ≠ 3 := fun q => n3 (by rw [q]; rfl)
    have z4 : kd ≠ 4 := fun q => n4 (by rw [q]; rfl)
    have z5 : kd ≠ 5 := fun q => n5 (by rw [q]; rfl)
    have z6 : kd ≠ 6 := fun q => n6 (by rw [q]; rfl)
    have z7 : kd ≠ 7 := fun q => n7 (by rw [q]; rfl)
    have z8 : kd ≠ 8 := fun q => n8 (by rw [q]; rfl)
    clear e8 o1 o2 val fin one nl kk k6 k7 k5 k4 k3
    omega
  obtain ⟨w, hw, ew, hmw⟩ := val 0 (by have := k3 (by omega); omega)
  rw [show 8 * p + 0 = 8 * p by omega] at ew
  rw [ew]
  refine pz_up (nl (by omega) (by omega)) (Q := fun _ => True) (pass_loop hf hR hp hT hH a71 k2 a70 ha (fun σ1 t1 x w1 => ?_) N 1 σ t (by omega) (by omega) (by omega) h)
  rw [wr_fr w1 69 _ (by decide) (by decide)]
  refine wz_bd (emit_wz w1 (k := 13) (kk := 13) rfl (o4_call (k7 e13))) (fun r2 σ2 t2 _ _ w2 => ?_)
  refine ok_bd (written_ok hf hR w2 hw hmw) (fun r3 σ3 _ h3 => ?_)
  obtain ⟨hs, q1⟩ := h3
  have hs : σ3 = σ2 := hs
  subst hs
  exact wz_bd (emit_wz w2 (k := 14) (kk := 14) rfl (o4_get q1)) (fun r2 σ2 t2 _ _ w2 => fin w2 hw hmw)
end RCD
