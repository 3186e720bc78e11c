section WPS
variable {N n : Nat} {σ0 σ : Sg} {f F S t R T : Nat}
theorem entry_loop {G A L : Nat} {x : Int32} (hf : f < 12) (hn2 : n ≤ 100000000) (hR : R ≤ 14) (h3 : σ0 3 f = nI L) (hL : L ≤ 10) (h2 : σ0 2 f = nI A) (hA : A ≤ 6) (hE : ∀ v, v < 22 → bt x v = true → HM σ0 f R v) (hn : (t + 20) * 5 ≤ n) :
    ∀ (k v : Nat) (σ : Sg) (t1 : Nat), v ≤ L → L < v + k → t ≤ t1 → t1 ≤ t + 2 * v → WT σ0 σ f F G S t1 R → Ok (lf_X10_writeEntry_2 N n x (fun σ24 _ => some (0, σ24)) k σ (nI v)) (Wq σ0 f F G S t R 20 (fun _ => True)) := by
  intro k
  induction k with
  | zero => intro v σ t1 q1 q2; omega
  | succ k ih =>
    intro v σ t1 q1 q2 q3 q4 h
    show Ok (lb_X10_writeEntry_2 N n x _ (lf_X10_writeEntry_2 N n x _ k) σ (nI v)) _
    unfold lb_X10_writeEntry_2
    rw [h.1, gb_nI hf (by decide), ix_nI (k := f) (by omega), wt_fr h 3 _ (by decide), h3]
    refine ok_if (fun c => ok_ret ⟨trivial, t1, q3, by omega, h⟩) (fun c => ?_)
    rw [le_nn (by omega) (by omega)] at c
    rw [ad_nl v 1]
    refine ok_if (fun _ => ih (v + 1) σ t1 (by omega) (by omega) q3 (by omega) h) (fun z => ?_)
    rw [b_tst (by omega)] at z
    have hm := hE v (by omega) (by
      cases hb : bt x v with
      | true => rfl
      | false => exact absurd hb z)
    rw [gb_nI hf (by decide), wt_fr h 2 _ (by decide), h2]
    have fin : ∀ (σ3 : Sg) (t3 : Nat), t1 ≤ t3 → t3 ≤ t1 + 1 → WT σ0 σ3 f F G S t3 R → Ok (bd (f_X10_saveTarget N n σ3 (nI v)) (fun _ σ13 => lf_X10_writeEntry_2 N n x (fun σ24 _ => some (0, σ24)) k σ13 (nI (v + 1)))) (Wq σ0 f F G S t R 20 (fun _ => True)) := by
      intro σ3 t3 a1 a2 w3
      refine ok_bd (saveTarget_wt hf hn2 hR w3 (by omega) hm (by omega)) (fun r5 σ5 _ h5 => ?_)
      obtain ⟨-, t5, b5, c5, w5⟩ := h5
      exact ih (v + 1) σ5 t5 (by omega) (by omega) (by omega) (by omega) w5
    refine ok_if (fun c2 => ?_) (fun c2 => ?_)
    · refine ok_bd (target_wt hf hR h (by omega) hm) (fun r1 σ1 _ hh1 => ?_)
      obtain ⟨hs, a1⟩ := hh1
      have hs : σ1 = σ := hs
      subst hs
      obtain ⟨σ3, f3, w3, -⟩ := add_wt (N := N) hf hn2 h (by omega) (k := 0) (kk := 0) (a := r1) (b := 0) rfl (o3_set a1)
      rw [f3, bd_s]
      exact fin σ3 (t1 + 1) (by omega) (by omega) w3
    · rw [le_nn (by omega) (by omega)] at c2
      refine ok_bd (target_wt hf hR h (by omega) hm) (fun r1 σ1 _ hh1 => ?_)
      obtain ⟨hs, a1⟩ := hh1
      have hs : σ1 = σ := hs
      subst hs
      obtain ⟨σ3, f3, w3, -⟩ := add_wt (N := N) hf hn2 h (by omega) (k := 11) (kk := 11) (a := r1) (b := nI v) rfl (o3_take a1 (bl_n (by omega)))
      rw [f3, bd_s]
      exact fin σ3 (t1 + 1) (by omega) (by omega) w3
theorem wt_44 {G : Nat} {j : Nat} {x : Int32} (h : WT σ0 σ f F G S t R) : WT σ0 (sg σ 44 j x) f F G S t R := by
  obtain ⟨h1, h2, h3, h4, h5, h6, h7, h8, h9⟩ := h
  refine ⟨(sg_c (by decide)).trans h1, (sg_c (by decide)).trans h2, (sg_c (by decide)).trans h3, (sg_c (by decide)).trans h4, (sg_c (by decide)).trans h5, h6, fun i q1 q2 => op_same (h7 i q1 q2) (fun _ _ _ => sg_c (by decide)), fun i q => (sg_c (by decide)).trans (h8 i q), fun c i q1 q2 q3 q4 => (sg_c q2).trans (h9 c i q1 q2 q3 q4)⟩
/-- the places ahead of v are written; where each begins is noted -/
def WI (σ0 σ : Sg) (f F S t R T v : Nat) : Prop :=
  WT σ0 σ f F T S t R ∧ (∀ p, p < v → ∃ q, σ 44 p = nI q ∧ q ≤ t - S ∧ (v = T → q < t - S)) ∧ (v = T → S < t ∧ (σ 42 ((t - 1) * 5) = nI 4 ∨ σ 42 ((t - 1) * 5) = nI 6))
theorem places_loop (hN : 1000 ≤ N) (hf : f < 12) (hn2 : n ≤ 100000000) (hR : R ≤ 14) (hL : PL σ0 F T) (hH : Hh σ0 f R T) (hn : (t + 15 * T) * 5 ≤ n) {K : Sg → Int32 → Option (Int32 × Sg)} {P : Int32 × Sg → Prop}
    (hK : ∀ (σ1 : Sg) (t1 : Nat) (x : Int32), t1 ≤ t + 15 * T → WI σ0 σ1 f F S t1 R T T → Ok (K σ1 x) P) :
    ∀ (k v : Nat) (σ : Sg) (t1 : Nat), v ≤ T → T < v + k → t1 ≤ t + 15 * v → WI σ0 σ f F S t1 R T v → Ok (lf_X10_writePlaces_2 N n K k σ (nI v)) P := by
  have hT := hL.2.2.1
  intro k
  induction k with
  | zero => intro v σ t1 q1 q2; omega
  | succ k ih =>
    intro v σ t1 q1 q2 q3 hI
    have hI0 := hI
    obtain ⟨h, hq, hl⟩ := hI
    show Ok (lb_X10_writePlaces_2 N n K (lf_X10_writePlaces_2 N n K k) σ (nI v)) P
    unfold lb_X10_writePlaces_2
    rw [wt_fr h 13 _ (by decide), hL.1]
    refine ok_if (fun c => ?_) (fun c => ?_)
    · rw [le_nn (by omega) (by omega)] at c
      obtain rfl : v = T := by omega
      exact hK σ t1 _ q3 hI0
    · rw [le_nn (by omega) (by omega)] at c
      rw [h.1, gb_nI hf (by decide), gb_nI (show v < 300 by omega) (by decide), ix_nI (k := v) (by omega), ix_nI (k := f) (by omega), h.2.2.2.2.1, ad_nl v 1]
      refine ok_bd (writePlace_wt hN hf hn2 hR hL (wt_44 h) hH (p := v) (by omega) (by omega)) (fun r σ1 e h1 => ?_)
      obtain ⟨t2, b2, c2, w2, l2⟩ := h1
      have e44 : ∀ j, σ1 44 j = if j = v then nI (t1 - S) else σ 44 j := fun j => (fr_X10_writePlace rfl e).trans (sg_if _ _ _ _ _)
      have hlast : v + 1 = T → t1 < t2 ∧ (σ1 42 ((t2 - 1) * 5) = nI 4 ∨ σ1 42 ((t2 - 1) * 5) = nI 6) := fun q => l2 (by rw [show v = T - 1 by omega]; exact hL.2.2.2.2)
      have hS := h.2.2.2.2.2.1
      refine ih (v + 1) σ1 t2 (by omega) (by omega) (by omega) ⟨w2, fun p hp => ?_, fun q => ⟨by have := (hlast q).1; omega, (hlast q).2⟩⟩
      rw [e44]
      by_cases z : p = v
      · rw [if_pos z]
        exact ⟨t1 - S, rfl, by omega, fun q => by have := (hlast q).1; omega⟩
      · rw [if_neg z]
        obtain ⟨q, x1, x2, -⟩ := hq p (by omega)
        exact ⟨q, x1, by omega, fun y => by have := (hlast y).1; omega⟩
theorem aim44_loop {σ1 : Sg} {z : Nat} (hf : f < 12) (hn2 : n ≤ 100000000) (hT : T ≤ 300) (h40 : σ1 40 f = nI S) (h41 : σ1 41 f = nI z) (hn : (S + z) * 5 ≤ n) (h44 : ∀ p, p < T → Bl (σ1 44 p) z) :
    ∀ (k v : Nat) (σ : Sg), v ≤ z → z < v + k → (∀ c j, c ≠ 42 → σ c j = σ1 c j) → (∀ i, i < S * 5 → σ 42 i = σ1 42 i) → (∀ j, j < v → Op σ F z (S + j)) → (∀ j, v ≤ j → j < z → Op σ F T (S + j)) → (∀ j, j < z → σ 42 ((S + j) * 5) = σ1 42 ((S + j) * 5)) →
      Ok (lf_X1_aim_44_2 N n (nI f) (fun σ14 _ => some (0, σ14)) k σ (nI v)) (fun y => (∀ c j, c ≠ 42 → y.2 c j = σ1 c j) ∧ (∀ i, i < S * 5 → y.2 42 i = σ1 42 i) ∧ (∀ j, j < z → Op y.2 F z (S + j)) ∧ ∀ j, j < z → y.2 42 ((S + j) * 5) = σ1 42 ((S + j) * 5)) := by
  intro k
  induction k with
  | zero => intro v σ q1 q2; omega
  | succ k ih =>
    intro v σ q1 q2 hs hlo hA hB hk
    show Ok (lb_X1_aim_44_2 N n (nI f) _ (lf_X1_aim_44_2 N n (nI f) _ k) σ (nI v)) _
    unfold lb_X1_aim_44_2
    rw [gb_nI hf (by decide), ix_nI (k := f) (by omega), (hs 41 f (by decide)).trans h41, (hs 40 f (by decide)).trans h40]
    refine ok_if (fun c => ?_) (fun c => ?_)
    · rw [le_nn (by omega) (by omega)] at c
      exact ok_ret ⟨hs, hlo, fun j hj => hA j (by omega), hk⟩
    · rw [le_nn (by omega) (by omega)] at c
      rw [gb_nI hf (by decide), ad_nn, ml_nl (S + v) 5]
      have e5 : (S + v) * OfNat.ofNat 5 = (S + v) * 5 := rfl
      rw [e5, ad_nl ((S + v) * 5) 1, ad_nl ((S + v) * 5) 2, ad_nl v 1]
      have o1 : (S + v) * 5 + OfNat.ofNat 1 = (S + v) * 5 + 1 := rfl
      have o2 : (S + v) * 5 + OfNat.ofNat 2 = (S + v) * 5 + 2 := rfl
      rw [o1, o2, gb_nI (show (S + v) * 5 < n by omega) (by omega), gb_nI (show (S + v) * 5 < n by omega) (by omega), ix_nI (k := (S + v) * 5) (by omega), ix_nI (k := (S + v) * 5 + 1) (by omega), ix_nI (k := (S + v) * 5 + 2) (by omega)]
      obtain ⟨kd, k1, k2⟩ := hB v (Nat.le_refl _) (by omega)
      have kk : ∀ (m : Nat), m < 2147483648 → σ 42 ((S + v) * 5) = nI m → kd = m := fun m hm q => (nI_eq (by have := k2.1; omega) hm).mp (k1.symm.trans q)
      -- the op at v with one part changed
      have chg : ∀ (i : Nat) (x : Int32), (i = (S + v) * 5 + 1 ∨ i = (S + v) * 5 + 2) → Op (sg σ 42 i x) F z (S + v) → Ok (lf_X1_aim_44_2 N n (nI f) (fun σ14 _ => some (0, σ14)) k (sg σ 42 i x) (nI (v + 1))) (fun y => (∀ c j, c ≠ 42 → y.2 c j = σ1 c j) ∧ (∀ i, i < S * 5 → y.2 42 i = σ1 42 i) ∧ (∀ j, j < z → Op y.2 F z (S + j)) ∧ ∀ j, j < z → y.2 42 ((S + j) * 5) = σ1 42 ((S + j) * 5)) := by
        intro i x hi ho
        refine ih (v + 1) _ (by omega) (by omega) (fun c j q => (sg_c q).trans (hs c j q)) (fun l hl => (sg_ne (by omega)).trans (hlo l hl)) (fun j hj => ?_) (fun j q1 q2 => op_same (hB j (by omega) q2) (fun l _ _ => sg_ne (by omega))) (fun j hj => (sg_ne (by omega)).trans (hk j hj))
        by_cases e : j = v
        · rw [e]; exact ho
        · exact op_same (hA j (by omega)) (fun l _ _ => sg_ne (by omega))
      refine ok_if (fun c4 => ?_) (fun c4 => ?_)
      · obtain rfl := kk 4 (by decide) c4
        obtain ⟨y, y1, y2⟩ := k2.2.2.1 rfl
        rw [y2, gb_nI (show (S + v) * 5 + 1 < n by omega) (by omega), gb_nI (show y < 300 by omega) (by decide), gb_nI (show (S + v) * 5 + 1 < n by omega) (by omega), ix_nI (k := y) (by omega), hs 44 _ (by decide)]
        refine chg _ _ (Or.inl rfl) ⟨4, (sg_ne (by omega)).trans k1, ?_⟩
        rw [sg_at]
        exact o3_go (h44 y y1)
      · refine ok_if (fun c5 => ?_) (fun c5 => ?_)
        · obtain rfl := kk 5 (by decide) c5
          obtain ⟨y, y1, y2⟩ := k2.2.2.2.2.2.2.2.1 rfl
          rw [y2, gb_nI (show (S + v) * 5 + 2 < n by omega) (by omega), gb_nI (show y < 300 by omega) (by decide), gb_nI (show (S + v) * 5 + 2 < n by omega) (by omega), ix_nI (k := y) (by omega), hs 44 _ (by decide)]
          refine chg _ _ (Or.inr rfl) ⟨5, (sg_ne (by omega)).trans k1, ?_⟩
          rw [sg_at, sg_ne (by omega)]
          exact o3_ifn (k2.2.1 (by decide)) (h44 y y1)
        · refine ih (v + 1) σ (by omega) (by omega) hs hlo (fun j hj => ?_) (fun j q1 q2 => hB j (by omega) q2) hk
          by_cases e : j = v
          · rw [e]
            obtain ⟨m1, m2, m3, m4, m5, m6, m7, m8, m9, m10, m11⟩ := k2
            exact ⟨kd, k1, m1, m2, fun q => absurd (by rw [k1, q]; rfl) c4, m4, m5, m6, m7, fun q => absurd (by rw [k1, q]; rfl) c5, m9, m10, m11⟩
          · exact hA j (by omega)
end WPS
/-- FUNC f's ops, from S on, z of them: all in order, and the last one doesn't go on -/
def FC (σ : Sg) (n F f S z : Nat) : Prop := σ 40 f = nI S ∧ σ 41 f = nI z ∧ 0 < z ∧ (S + z) * 5 ≤ n ∧ (∀ i, i < z → Op σ F z (S + i)) ∧ (σ 42 ((S + z - 1) * 5) = nI 4 ∨ σ 42 ((S + z - 1) * 5) = nI 6)
theorem fc_same {σ σ' : Sg} {n n' F f S z : Nat} (h : FC σ n F f S z) (e40 : σ' 40 f = σ 40 f) (e41 : σ' 41 f = σ 41 f) (hn : n ≤ n') (e : ∀ i, i < (S + z) * 5 → σ' 42 i = σ 42 i) : FC σ' n' F f S z := by
  obtain ⟨h1, h2, h3, h4, h5, h6⟩ := h
  refine ⟨e40.trans h1, e41.trans h2, h3, by omega, fun i hi => op_same (h5 i hi) (fun l q _ => e l (by omega)), ?_⟩
  rw [e _ (by omega)]
  exact h6
theorem writePlaces_ok {N n : Nat} (hN : 100000 ≤ N) {σ0 σ : Sg} {f F S t R T : Nat} (hf : f < 12) (hn2 : n ≤ 100000000) (hR : R ≤ 14) (hL : PL σ0 F T) (hH : Hh σ0 f R T) (ht : t ≤ 10000) (hn : (t + 15 * T) * 5 ≤ n) (h40 : σ0 40 f = nI S) (h : WT σ0 σ f F T S t R) :
    Ok (f_X10_writePlaces N n σ) (fun y => ∃ t', t' ≤ t + 15 * T ∧ S ≤ t' ∧ y.2 39 2 = nI t' ∧ FC y.2 n F f S (t' - S) ∧ (∀ i, i < S * 5 → y.2 42 i = σ0 42 i) ∧ ∀ g, g ≠ f → y.2 41 g = σ0 41 g) := by
  have hT := hL.2.2.1
  have hT0 := hL.2.1
  unfold f_X10_writePlaces
  refine places_loop (by omega) hf hn2 hR hL hH hn (fun σ1 t1 x b1 hI => ?_) N 0 σ t (by omega) (by omega) (by omega) ⟨h, fun p hp => by omega, fun q => by omega⟩
  obtain ⟨w1, hq, hl⟩ := hI
  obtain ⟨l1, l2⟩ := hl rfl
  rw [w1.1]
  unfold f_X1_aim_44
  have e40 : σ1 40 f = nI S := (w1.2.2.2.2.2.2.2.2 40 f (by decide) (by decide) (by omega) (by omega)).trans h40
  refine ok_bd (aim44_loop (F := F) (T := T) hf hn2 hT e40 w1.2.2.2.2.1 (by omega) (fun p hp => ?_) N 0 σ1 (by omega) (by omega) (fun _ _ _ => rfl) (fun _ _ => rfl) (fun j hj => by omega) (fun j _ hj => w1.2.2.2.2.2.2.1 (S + j) (by omega) (by omega)) (fun _ _ => rfl)) (fun r σ2 _ h2 => ok_ret ?_)
  · obtain ⟨q, x1, x2, x3⟩ := hq p hp
    exact ⟨q, x3 rfl, x1⟩
  · obtain ⟨s1, s2, s3, s4⟩ := h2
    have s1 : ∀ c j, c ≠ 42 → σ2 c j = σ1 c j := s1
    have s2 : ∀ i, i < S * 5 → σ2 42 i = σ1 42 i := s2
    have s4 : ∀ j, j < t1 - S → σ2 42 ((S + j) * 5) = σ1 42 ((S + j) * 5) := s4
    refine ⟨t1, b1, by omega, (s1 39 2 (by decide)).trans w1.2.2.2.1, ⟨(s1 40 f (by decide)).trans e40, (s1 41 f (by decide)).trans w1.2.2.2.2.1, by omega, by omega, s3, ?_⟩, fun i hi => (s2 i hi).trans (w1.2.2.2.2.2.2.2.1 i hi), fun g hg => (s1 41 g (by decide)).trans (w1.2.2.2.2.2.2.2.2 41 g (by decide) (by decide) (by omega) (by omega))⟩
    show σ2 42 ((S + (t1 - S) - 1) * 5) = nI 4 ∨ σ2 42 ((S + (t1 - S) - 1) * 5) = nI 6
    have e := s4 (t1 - S - 1) (by omega)
    rw [show S + (t1 - S - 1) = t1 - 1 by omega] at e
    rw [show S + (t1 - S) - 1 = t1 - 1 by omega, e]
    exact l2
