section RC2
variable {N n : Nat} {σ0 σ : Sg} {f F S t R T : Nat}
theorem rentry_loop {G A L : Nat} (hf : f < 12) (hR : R ≤ 14) (h61 : σ0 61 f = nI L) (hL : L ≤ 10) (h60 : σ0 60 f = nI A) (hA : A ≤ 6) (hE : ∀ v, v < 22 → bt (σ0 76 0) v = true → HMr σ0 f R v) {K : Sg → Int32 → Option (Int32 × Sg)} {P : Int32 × Sg → Prop}
    (hK : ∀ (σ1 : Sg) (t1 : Nat) (x : Int32), t ≤ t1 → WR σ0 σ1 f F G S t1 R → (Fi σ1 → Fi σ0) → Ok (K σ1 x) P) :
    ∀ (k v : Nat) (σ : Sg) (t1 : Nat), v ≤ L → L < v + k → t ≤ t1 → WR σ0 σ f F G S t1 R → (Fi σ → Fi σ0) → Ok (lf_X12_codes_17 N n (nI f) K k σ (nI v)) P := by
  intro k
  induction k with
  | zero => intro v σ t1 q1 q2; omega
  | succ k ih =>
    intro v σ t1 q1 q2 q3 h hF
    show Ok (lb_X12_codes_17 N n (nI f) K (lf_X12_codes_17 N n (nI f) K k) σ (nI v)) P
    unfold lb_X12_codes_17
    rw [gb_nI hf (by decide), ix_nI (k := f) (by omega), wr_fr h 61 _ (by decide) (by decide), h61]
    refine ok_if (fun c => hK σ t1 _ q3 h hF) (fun c => ?_)
    rw [le_nn (by omega) (by omega)] at c
    rw [ad_nl v 1]
    refine ok_if (fun _ => ih (v + 1) σ t1 (by omega) (by omega) q3 h hF) (fun _ => ?_)
    have g0 : ∀ y : Option (Int32 × Sg), gb 0 301 y = y := fun y => gb_nI (k := 0) (by decide) (by decide)
    have i0 : ix 0 = 0 := rfl
    rw [g0, i0, wr_fr h 76 _ (by decide) (by decide)]
    refine ok_if (fun z => ?_) (fun _ => ih (v + 1) σ t1 (by omega) (by omega) q3 h hF)
    rw [b_tst1 (by omega)] at z
    have hm := hE v (by omega) z
    rw [gb_nI hf (by decide), wr_fr h 60 _ (by decide) (by decide), h60]
    have fin : ∀ (σ3 : Sg) (t3 : Nat), t1 ≤ t3 → WR σ0 σ3 f F G S t3 R → (Fi σ3 → Fi σ0) → Ok (bd (f_X12_saved N n σ3 (nI v)) (fun _ σ13 => lf_X12_codes_17 N n (nI f) K k σ13 (nI (v + 1)))) P := by
      intro σ3 t3 a1 w3 F3
      refine ok_bd (saved_wz hf hR w3 (by omega) hm) (fun r5 σ5 _ h5 => ?_)
      obtain ⟨-, t5, b5, w5, F5⟩ := h5
      exact ih (v + 1) σ5 t5 (by omega) (by omega) (by omega) w5 (fun q => F3 (F5 q))
    refine ok_if (fun c2 => ?_) (fun c2 => ?_)
    · refine ok_bd (written_ok hf hR h (by omega) hm) (fun r1 σ1 _ hh1 => ?_)
      obtain ⟨hs, a1⟩ := hh1
      have hs : σ1 = σ := hs
      subst hs
      refine ok_bd (emit_wz h (k := 0) (kk := 0) rfl (o4_set a1)) (fun r2 σ2 _ h2 => ?_)
      obtain ⟨-, t2, b2, w2, F2⟩ := h2
      exact fin σ2 t2 b2 w2 (fun q => hF (F2 q))
    · rw [le_nn (by omega) (by omega)] at c2
      refine ok_bd (written_ok hf hR h (by omega) hm) (fun r1 σ1 _ hh1 => ?_)
      obtain ⟨hs, a1⟩ := hh1
      have hs : σ1 = σ := hs
      subst hs
      refine ok_bd (emit_wz h (k := 11) (kk := 11) rfl (o4_take a1 (bl_n (by omega)))) (fun r2 σ2 _ h2 => ?_)
      obtain ⟨-, t2, b2, w2, F2⟩ := h2
      exact fin σ2 t2 b2 w2 (fun q => hF (F2 q))
theorem wr_87 {G : Nat} {j : Nat} {x : Int32} (h : WR σ0 σ f F G S t R) : WR σ0 (sg σ 87 j x) f F G S t R := by
  obtain ⟨h1, h2, h3, h4, h5, h6, h7, h8⟩ := h
  exact ⟨(sg_c (by decide)).trans h1, (sg_c (by decide)).trans h2, (sg_c (by decide)).trans h3, h4, h5, fun i q1 q2 => opr_same (h6 i q1 q2) (fun _ _ _ => sg_c (by decide)), fun i q => (sg_c (by decide)).trans (h7 i q), fun c i q1 q2 q3 q4 => (sg_c q2).trans (h8 c i q1 q2 q3 q4)⟩
theorem fi_87 {j : Nat} {x : Int32} : Fi (sg σ 87 j x) ↔ Fi σ := by
  unfold Fi
  rw [sg_c (by decide)]
/-- the places ahead of v are written; where each begins is noted -/
def RI1 (σ0 σ : Sg) (f F S t R T v : Nat) : Prop :=
  WR σ0 σ f F T S t R ∧ (Fi σ → Fi σ0 ∧ (∀ p, p < v → ∃ q, σ 87 p = nI q ∧ q ≤ t - S ∧ (v = T → q < t - S)) ∧ (v = T → S < t ∧ (σ 84 (5 * (t - 1)) = nI 4 ∨ σ 84 (5 * (t - 1)) = nI 6)))
theorem rplaces_loop (hN : 1000 ≤ N) (hf : f < 12) (hR : R ≤ 14) (hL : QL σ0 F T) (h85 : σ0 85 f = nI S) (hH : Hhr σ0 f R T) {K : Sg → Int32 → Option (Int32 × Sg)} {P : Int32 × Sg → Prop}
    (hK : ∀ (σ1 : Sg) (t1 : Nat) (x : Int32), t ≤ t1 → RI1 σ0 σ1 f F S t1 R T T → Ok (K σ1 x) P) :
    ∀ (k v : Nat) (σ : Sg) (t1 : Nat), v ≤ T → T < v + k → t ≤ t1 → RI1 σ0 σ f F S t1 R T v → Ok (lf_X12_codes_101 N n (nI f) K k σ (nI v)) P := by
  have hT := hL.2.2.1
  intro k
  induction k with
  | zero => intro v σ t1 q1 q2; omega
  | succ k ih =>
    intro v σ t1 q1 q2 q3 hI
    have hI0 := hI
    obtain ⟨h, hq⟩ := hI
    show Ok (lb_X12_codes_101 N n (nI f) K (lf_X12_codes_101 N n (nI f) K k) σ (nI v)) P
    unfold lb_X12_codes_101
    rw [h.2.2.2.2.2.2.2 59 12 (by decide) (by decide) (by decide) (by decide), hL.1]
    refine ok_if (fun c => ?_) (fun c => ?_)
    · rw [le_nn (by omega) (by omega)] at c
      obtain rfl : v = T := by omega
      exact hK σ t1 _ q3 hI0
    · rw [le_nn (by omega) (by omega)] at c
      have hS := h.2.2.2.1
      have e85 : σ 85 f = nI S := (h.2.2.2.2.2.2.2 85 f (by decide) (by decide) (by omega) (by omega)).trans h85
      rw [gb_nI hf (by decide), gb_nI (show v < 301 by omega) (by decide), ix_nI (k := v) (by omega), ix_nI (k := f) (by omega), h.2.2.1, e85, sb_nn hS, ad_nl v 1]
      refine ok_bd (codePlace_pz hN hf hR hL (wr_87 h) hH (p := v) (by omega)) (fun r σ1 e h1 => ?_)
      obtain ⟨t2, b2, w2, l2⟩ := h1
      have w2 : WR σ0 σ1 f F T S t2 R := w2
      have l2 : Fi σ1 → Fi (sg σ 87 v (nI (t1 - S))) ∧ ((σ0 68 v = nI 4 ∨ σ0 68 v = nI 6) → t1 < t2 ∧ (σ1 84 (5 * (t2 - 1)) = nI 4 ∨ σ1 84 (5 * (t2 - 1)) = nI 6)) := l2
      have e87 : ∀ j, σ1 87 j = if j = v then nI (t1 - S) else σ 87 j := fun j => (fr_X12_codePlace rfl e).trans (sg_if _ _ _ _ _)
      refine ih (v + 1) σ1 t2 (by omega) (by omega) (by omega) ⟨w2, fun hF => ?_⟩
      obtain ⟨g1, g2⟩ := l2 hF
      have hlast : v + 1 = T → t1 < t2 ∧ (σ1 84 (5 * (t2 - 1)) = nI 4 ∨ σ1 84 (5 * (t2 - 1)) = nI 6) := fun q => g2 (by rw [show v = T - 1 by omega]; exact hL.2.2.2.2)
      obtain ⟨m0, m1, m2⟩ := hq (fi_87.mp g1)
      refine ⟨m0, fun p hp => ?_, fun q => ⟨by have := (hlast q).1; omega, (hlast q).2⟩⟩
      rw [e87]
      by_cases z : p = v
      · rw [if_pos z]
        exact ⟨t1 - S, rfl, by omega, fun q => by have := (hlast q).1; omega⟩
      · rw [if_neg z]
        obtain ⟨q, x1, x2, -⟩ := m1 p (by omega)
        exact ⟨q, x1, by omega, fun y => by have := (hlast y).1; omega⟩
theorem raim_loop {σ1 : Sg} {z : Nat} {B : Prop} (hT : T ≤ 300) (ht : t ≤ 2000) (h30 : σ1 59 30 = nI t) (h87 : B → ∀ p, p < T → Bl (σ1 87 p) z) :
    ∀ (k v : Nat) (σ : Sg), S ≤ v → v ≤ t → t < v + k → (∀ c j, c ≠ 84 → σ c j = σ1 c j) → (∀ i, i < 5 * S → σ 84 i = σ1 84 i) → (B → ∀ j, S ≤ j → j < v → Opr σ F z j) → (∀ j, v ≤ j → j < t → Opr σ F T j) → (∀ j, S ≤ j → j < t → σ 84 (5 * j) = σ1 84 (5 * j)) →
      Ok (lf_X12_codes_181 N n (fun σ14 _ => some (0, σ14)) k σ (nI v)) (fun y => (∀ c j, c ≠ 84 → y.2 c j = σ1 c j) ∧ (∀ i, i < 5 * S → y.2 84 i = σ1 84 i) ∧ (B → ∀ j, S ≤ j → j < t → Opr y.2 F z j) ∧ ∀ j, S ≤ j → j < t → y.2 84 (5 * j) = σ1 84 (5 * j)) := by
  intro k
  induction k with
  | zero => intro v σ q1 q2; omega
  | succ k ih =>
    intro v σ q0 q1 q2 hs hlo hA hB hk
    show Ok (lb_X12_codes_181 N n _ (lf_X12_codes_181 N n _ k) σ (nI v)) _
    unfold lb_X12_codes_181
    rw [(hs 59 30 (by decide)).trans h30]
    refine ok_if (fun c => ?_) (fun c => ?_)
    · rw [le_nn (by omega) (by omega)] at c
      exact ok_ret ⟨hs, hlo, fun b j j1 hj => hA b j j1 (by omega), hk⟩
    · rw [le_nn (by omega) (by omega)] at c
      rw [ml_ln v 5]
      have e5 : OfNat.ofNat 5 * v = 5 * v := rfl
      rw [e5, ad_nl (5 * v) 1, ad_nl (5 * v) 2, ad_nl v 1]
      have o1 : 5 * v + OfNat.ofNat 1 = 5 * v + 1 := rfl
      have o2 : 5 * v + OfNat.ofNat 2 = 5 * v + 2 := rfl
      rw [o1, o2, gb_nI (show 5 * v < 10000 by omega) (by decide), gb_nI (show 5 * v < 10000 by omega) (by decide), ix_nI (k := 5 * v) (by omega), ix_nI (k := 5 * v + 1) (by omega), ix_nI (k := 5 * v + 2) (by omega)]
      obtain ⟨kd, k1, k2⟩ := hB v (Nat.le_refl _) (by omega)
      have kk : ∀ (m : Nat), m < 2147483648 → σ 84 (5 * v) = nI m → kd = m := fun m hm q => (nI_eq (by have := k2.1; omega) hm).mp (k1.symm.trans q)
      -- the op at v with one part changed
      have chg : ∀ (i : Nat) (x : Int32), (i = 5 * v + 1 ∨ i = 5 * v + 2) → (B → Opr (sg σ 84 i x) F z v) → Ok (lf_X12_codes_181 N n (fun σ14 _ => some (0, σ14)) k (sg σ 84 i x) (nI (v + 1))) (fun y => (∀ c j, c ≠ 84 → y.2 c j = σ1 c j) ∧ (∀ i, i < 5 * S → y.2 84 i = σ1 84 i) ∧ (B → ∀ j, S ≤ j → j < t → Opr y.2 F z j) ∧ ∀ j, S ≤ j → j < t → y.2 84 (5 * j) = σ1 84 (5 * j)) := by
        intro i x hi ho
        refine ih (v + 1) _ (by omega) (by omega) (by omega) (fun c j q => (sg_c q).trans (hs c j q)) (fun l hl => (sg_ne (by omega)).trans (hlo l hl)) (fun b j j1 hj => ?_) (fun j q1 q2 => opr_same (hB j (by omega) q2) (fun l _ _ => sg_ne (by omega))) (fun j j1 hj => (sg_ne (by omega)).trans (hk j j1 hj))
        by_cases e : j = v
        · rw [e]; exact ho b
        · exact opr_same (hA b j j1 (by omega)) (fun l _ _ => sg_ne (by omega))
      refine ok_if (fun c4 => ?_) (fun c4 => ?_)
      · obtain rfl := kk 4 (by decide) c4
        obtain ⟨y, y1, y2⟩ := k2.2.2.1 rfl
        rw [y2, gb_nI (show 5 * v + 1 < 10000 by omega) (by decide), gb_nI (show y < 301 by omega) (by decide), gb_nI (show 5 * v + 1 < 10000 by omega) (by decide), ix_nI (k := y) (by omega), hs 87 _ (by decide)]
        refine chg _ _ (Or.inl rfl) (fun b => ⟨4, (sg_ne (by omega)).trans k1, ?_⟩)
        rw [sg_at]
        exact o4_go (h87 b y y1)
      · refine ok_if (fun c5 => ?_) (fun c5 => ?_)
        · obtain rfl := kk 5 (by decide) c5
          obtain ⟨y, y1, y2⟩ := k2.2.2.2.2.2.2.2.1 rfl
          rw [y2, gb_nI (show 5 * v + 2 < 10000 by omega) (by decide), gb_nI (show y < 301 by omega) (by decide), gb_nI (show 5 * v + 2 < 10000 by omega) (by decide), ix_nI (k := y) (by omega), hs 87 _ (by decide)]
          refine chg _ _ (Or.inr rfl) (fun b => ⟨5, (sg_ne (by omega)).trans k1, ?_⟩)
          rw [sg_at, sg_ne (by omega)]
          exact o4_ifn (k2.2.1 (by decide)) (h87 b y y1)
        · refine ih (v + 1) σ (by omega) (by omega) (by omega) hs hlo (fun b j j1 hj => ?_) (fun j q1 q2 => hB j (by omega) q2) hk
          by_cases e : j = v
          · rw [e]
            obtain ⟨m1, m2, m3, m4, m5, m6, m7, m8, m9, m10, m11⟩ := k2
            exact ⟨kd, k1, m1, m2, fun q => absurd (by rw [k1, q]; rfl) c4, m4, m5, m6, m7, fun q => absurd (by rw [k1, q]; rfl) c5, m9, m10, m11⟩
          · exact hA b j j1 (by omega)
end RC2
/-- FUNC f's ops, from S on, z of them: all in order, and the last one doesn't go on -/
def FCr (σ : Sg) (F f S z : Nat) : Prop := σ 85 f = nI S ∧ σ 86 f = nI z ∧ 0 < z ∧ S + z ≤ 2000 ∧ (∀ i, i < z → Opr σ F z (S + i)) ∧ (σ 84 (5 * (S + z - 1)) = nI 4 ∨ σ 84 (5 * (S + z - 1)) = nI 6)
theorem fcr_same {σ σ' : Sg} {F f S z : Nat} (h : FCr σ F f S z) (e85 : σ' 85 f = σ 85 f) (e86 : σ' 86 f = σ 86 f) (e : ∀ i, i < 5 * (S + z) → σ' 84 i = σ 84 i) : FCr σ' F f S z := by
  obtain ⟨h1, h2, h3, h4, h5, h6⟩ := h
  refine ⟨e85.trans h1, e86.trans h2, h3, h4, fun i hi => opr_same (h5 i hi) (fun l q _ => e l (by omega)), ?_⟩
  rw [e _ (by omega)]
  exact h6
theorem codes_ok {N n : Nat} (hN : 10000 ≤ N) {σ : Sg} {f F t R T A L : Nat} (hf : f < 12) (hR : R ≤ 14) (hL : QL σ F T) (hH : Hhr σ f R T) (h22 : σ 59 22 = nI (R + 2)) (h30 : σ 59 30 = nI t) (ht : t ≤ 2000) (h61 : σ 61 f = nI L) (hL10 : L ≤ 10) (h60 : σ 60 f = nI A) (hA : A ≤ 6) :
    Ok (f_X12_codes N n σ (nI f)) (fun y => ∃ t', t ≤ t' ∧ t' ≤ 2000 ∧ y.2 59 30 = nI t' ∧ (∀ i, i < 5 * t → y.2 84 i = σ 84 i) ∧ (∀ g, g ≠ f → y.2 85 g = σ 85 g ∧ y.2 86 g = σ 86 g) ∧ (Fi y.2 → Fi σ ∧ FCr y.2 F f t (t' - t))) := by
  have hT := hL.2.2.1
  have hT0 := hL.2.1
  unfold f_X12_codes
  rw [gb_nI hf (by decide), ix_nI (k := f) (by omega), h30]
  obtain ⟨σ0, e0⟩ : ∃ z, z = sg (sg σ 59 35 (nI f)) 85 f (nI t) := ⟨_, rfl⟩
  rw [← e0]
  have o0 : ∀ c j, ¬ (c = 59 ∧ j = 35) → c ≠ 85 → σ0 c j = σ c j := fun c j q1 q2 => by rw [e0, sg_c q2, sg_o (by omega)]
  have hL0 : QL σ0 F T := ql_mid hL (o0 59 12 (by decide) (by decide)) (fun c j q1 q2 => o0 c j (by omega) (by omega))
  have hH0 : Hhr σ0 f R T := fun p w hp hw hn => by
    have e : HMr σ f R w := hH p w hp hw (by
      rcases hn with a | ⟨c, i, a1, a2, a3, a4⟩
      · rw [o0 76 _ (by omega) (by decide)] at a; exact Or.inl a
      · rw [o0 71 _ (by omega) (by decide)] at a1
        rw [o0 70 _ (by omega) (by decide)] at a4
        exact Or.inr ⟨c, i, a1, a2, a3, a4⟩)
    unfold HMr
    rw [o0 80 _ (by omega) (by decide), o0 79 _ (by omega) (by decide)]
    exact e
  have w0 : WR σ0 σ0 f F T t t R := ⟨by rw [e0, sg_c (by decide), sg_at], (o0 59 22 (by decide) (by decide)).trans h22, (o0 59 30 (by decide) (by decide)).trans h30, Nat.le_refl _, ht, fun j a b => by omega, fun _ _ => rfl, fun _ _ _ _ _ _ => rfl⟩
  refine rentry_loop (F := F) (G := T) (S := t) (t := t) hf hR ((o0 61 f (by omega) (by decide)).trans h61) hL10 ((o0 60 f (by omega) (by decide)).trans h60) hA (fun v hv hb => hH0 0 v hT0 hv (Or.inl hb)) (fun σ1 t1 x b1 w1 F1 => ?_) N 0 σ0 t (by omega) (by omega) (Nat.le_refl _) w0 (fun q => q)
  refine rplaces_loop (t := t1) (by omega) hf hR hL0 (by rw [e0, sg_at]) hH0 (fun σ2 t2 x2 b2 hI => ?_) N 0 σ1 t1 (by omega) (by omega) (Nat.le_refl _) ⟨w1, fun q => ⟨F1 q, fun p hp => by omega, fun q => by omega⟩⟩
  obtain ⟨w2, hq⟩ := hI
  have fr2 := w2.2.2.2.2.2.2.2
  have h5 := w2.2.2.2.2.1
  have e85 : σ2 85 f = nI t := (fr2 85 f (by decide) (by decide) (by omega) (by omega)).trans (by rw [e0, sg_at])
  have e12 : σ2 59 12 = nI T := (fr2 59 12 (by decide) (by decide) (by decide) (by decide)).trans hL0.1
  have gf : ∀ y : Option (Int32 × Sg), gb (nI f) 12 y = y := fun y => gb_nI hf (by decide)
  simp only [gf]
  rw [e12, gb_nI (show T < 301 by omega) (by decide), ix_nI (k := T) (by omega), w2.2.2.1, e85, sb_nn w2.2.2.2.1]
  obtain ⟨σ3, e3⟩ : ∃ z, z = sg (sg σ2 87 T (nI (t2 - t))) 86 f (nI (t2 - t)) := ⟨_, rfl⟩
  rw [← e3]
  have o3 : ∀ c j, c ≠ 87 → c ≠ 86 → σ3 c j = σ2 c j := fun c j q1 q2 => by rw [e3, sg_c q2, sg_c q1]
  refine ok_mono (raim_loop (F := F) (T := T) (S := t) (t := t2) (z := t2 - t) (B := Fi σ2) hT h5 ((o3 59 30 (by decide) (by decide)).trans w2.2.2.1) (fun b p hp => ?_) N t σ3 (Nat.le_refl _) (by have := w2.2.2.2.1; omega) (by omega) (fun _ _ _ => rfl) (fun _ _ => rfl) (fun _ j a b => by omega) (fun j a b => opr_same (w2.2.2.2.2.2.1 j a b) (fun i _ _ => o3 84 i (by decide) (by decide))) (fun _ _ _ => rfl)) (fun y hy => ?_)
  · obtain ⟨q, x1, -, x3⟩ := (hq b).2.1 p hp
    refine ⟨q, x3 rfl, ?_⟩
    rw [e3, sg_c (by decide), sg_ne (by omega)]
    exact x1
  · obtain ⟨s1, s2, s3, s4⟩ := hy
    have hle := w2.2.2.2.1
    refine ⟨t2, by omega, h5, (s1 59 30 (by decide)).trans ((o3 59 30 (by decide) (by decide)).trans w2.2.2.1), fun i hi => (s2 i hi).trans ((o3 84 i (by decide) (by decide)).trans ((w2.2.2.2.2.2.2.1 i hi).trans (o0 84 i (by omega) (by decide)))), fun g hg => ⟨?_, ?_⟩, fun hF => ?_⟩
    · rw [s1 85 g (by decide), o3 85 g (by decide) (by decide), fr2 85 g (by decide) (by decide) (by omega) (by omega), e0, sg_ne hg, sg_c (by decide)]
    · rw [s1 86 g (by decide), e3, sg_ne hg, sg_c (by decide), fr2 86 g (by decide) (by decide) (by omega) (by omega), o0 86 g (by omega) (by decide)]
    · have f2 : Fi σ2 := by
        unfold Fi at hF ⊢
        rw [s1 59 34 (by decide), o3 59 34 (by decide) (by decide)] at hF
        exact hF
      obtain ⟨g0, -, g2⟩ := hq f2
      obtain ⟨l1, l2⟩ := g2 rfl
      refine ⟨?_, (s1 85 f (by decide)).trans ((o3 85 f (by decide) (by decide)).trans e85), (s1 86 f (by decide)).trans (by rw [e3, sg_at]), by omega, by omega, fun i hi => s3 f2 (t + i) (by omega) (by omega), ?_⟩
      · unfold Fi at g0 ⊢
        rw [o0 59 34 (by decide) (by decide)] at g0
        exact g0
      · rw [show t + (t2 - t) - 1 = t2 - 1 by omega, s4 (t2 - 1) (by omega) (by omega), o3 84 _ (by decide) (by decide)]
        exact l2
