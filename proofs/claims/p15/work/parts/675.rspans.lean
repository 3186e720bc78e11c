theorem b_tst1 {x : Int32} {v : Nat} (hv : v < 32) : ((x >>> (nI v &&& 31)) &&& 1) = 1 ↔ bt x v = true := by
  constructor
  · intro h
    cases hb : bt x v with
    | true => rfl
    | false =>
      have := (b_tst hv).mpr hb
      rw [h] at this
      exact absurd this (by decide)
  · intro h
    refine b_ext fun i hi => ?_
    rw [b_and, b_1 i hi]
    by_cases e : i = 0
    · subst e
      rw [b_sshr v hv x (by omega), if_pos (by omega), Nat.add_zero, h]
      rfl
    · rw [decide_eq_false e, Bool.and_false]
def HMr (σ : Sg) (f R v : Nat) : Prop := (σ 80 (24 * f + v) = (-1) ∧ Bl (σ 79 (24 * f + v)) R) ∨ Bl (σ 80 (24 * f + v)) 24
/-- the place p names w -/
def Nr (σ : Sg) (p w : Nat) : Prop := bt (σ 76 p) w = true ∨ ∃ c i, σ 71 p = nI c ∧ c ≤ 7 ∧ i < c ∧ σ 70 (8 * p + i) = nI w
theorem sp2_loop {N n : Nat} {f : Nat} (hf : f < 12) {K : Sg → Int32 → Option (Int32 × Sg)} {P : Int32 × Sg → Prop} {σ0 : Sg} (hK : ∀ (σ : Sg) (x : Int32), (∀ w, w < 24 → σ 77 (24 * f + w) = (-1) ∧ σ 79 (24 * f + w) = (-1) ∧ σ 80 (24 * f + w) = (-1) ∧ σ 83 w = 0) → (∀ c j, c ≠ 77 → c ≠ 78 → c ≠ 79 → c ≠ 80 → c ≠ 83 → σ c j = σ0 c j) → Ok (K σ x) P) :
    ∀ (k v : Nat) (σ : Sg), v ≤ 24 → 24 < v + k → (∀ w, w < v → σ 77 (24 * f + w) = (-1) ∧ σ 79 (24 * f + w) = (-1) ∧ σ 80 (24 * f + w) = (-1) ∧ σ 83 w = 0) → (∀ c j, c ≠ 77 → c ≠ 78 → c ≠ 79 → c ≠ 80 → c ≠ 83 → σ c j = σ0 c j) → Ok (lf_X12_spans_2 N n (nI f) K k σ (nI v)) P := by
  intro k
  induction k with
  | zero => intro v σ h1 h2; omega
  | succ k ih =>
    intro v σ h1 h2 hv hs
    show Ok (lb_X12_spans_2 N n (nI f) K (lf_X12_spans_2 N n (nI f) K k) σ (nI v)) P
    unfold lb_X12_spans_2
    have e0 : ((24 : Int32) ≤ nI v) = (24 ≤ v) := le_ln (k := 24) (by omega) (by decide)
    refine ok_if (fun c => ?_) (fun c => ?_)
    · rw [e0] at c
      exact hK σ _ (fun w hw => hv w (by omega)) hs
    · rw [e0] at c
      rw [ml_ln f 24, ad_nn, ad_nl v 1]
      have e1 : OfNat.ofNat 24 * f + v = 24 * f + v := rfl
      have gi : ∀ y : Option (Int32 × Sg), gb (nI (24 * f + v)) 288 y = y := fun y => gb_nI (show 24 * f + v < 288 by omega) (by decide)
      rw [e1]
      simp only [gi]
      rw [gb_nI (show v < 24 by omega) (by decide), ix_nI (k := 24 * f + v) (by omega), ix_nI (k := v) (by omega)]
      refine ih (v + 1) _ (by omega) (by omega) (fun w hw => ?_) (fun c j a1 a2 a3 a4 a5 => ?_)
      · simp (disch := decide) only [sg_c, sg_if]
        by_cases e : w = v
        · simp only [if_pos (show 24 * f + w = 24 * f + v by omega), if_pos e]
          exact ⟨trivial, trivial, trivial, trivial⟩
        · simp only [if_neg (show ¬ 24 * f + w = 24 * f + v by omega), if_neg e]
          exact hv w (by omega)
      · rw [sg_c a5, sg_c a4, sg_c a3, sg_c a2, sg_c a1]; exact hs c j a1 a2 a3 a4 a5
theorem sp89_loop {N n : Nat} {σ : Sg} {u1 : Int32} {p cc : Nat} (hp : p < 300) (h71 : σ 71 p = nI cc) (hc : cc ≤ 7) (h70 : ∀ i, i < cc → Bl (σ 70 (8 * p + i)) 22) {K : Sg → Int32 → Int32 → Option (Int32 × Sg)} {P : Int32 × Sg → Prop} {a0 : Int32}
    (hK : ∀ (a x : Int32), (∀ w, w < 24 → bt a0 w = true → bt a w = true) → (∀ i w, i < cc → w < 22 → σ 70 (8 * p + i) = nI w → bt a w = true) → Ok (K σ a x) P) :
    ∀ (k v : Nat) (a : Int32), v ≤ 8 → 8 < v + k → (∀ w, w < 24 → bt a0 w = true → bt a w = true) → (∀ i w, i < v → i < cc → w < 22 → σ 70 (8 * p + i) = nI w → bt a w = true) → Ok (lf_X12_spans_89 N n u1 (nI p) K k σ a (nI v)) P := by
  intro k
  induction k with
  | zero => intro v a h1 h2; omega
  | succ k ih =>
    intro v a h1 h2 ha hv
    show Ok (lb_X12_spans_89 N n u1 (nI p) K (lf_X12_spans_89 N n u1 (nI p) K k) σ a (nI v)) P
    unfold lb_X12_spans_89
    rw [gb_nI hp (by decide), ix_nI (k := p) (by omega), h71]
    refine ok_if (fun q => ?_) (fun q => ?_)
    · rw [le_nn (by omega) (by omega)] at q
      exact hK a _ ha (fun i w hi => hv i w (by omega) hi)
    · rw [le_nn (by omega) (by omega)] at q
      obtain ⟨x, hx, ex⟩ := h70 v (by omega)
      rw [ml_ln p 8, ad_nn, ad_nl v 1]
      have e8 : OfNat.ofNat 8 * p + v = 8 * p + v := rfl
      rw [e8, gb_nI (show 8 * p + v < 2400 by omega) (by decide), ix_nI (k := 8 * p + v) (by omega), ex]
      refine ih (v + 1) _ (by omega) (by omega) (fun w hw z => ?_) (fun i w hi hic hw e => ?_)
      · rw [b_or, ha w hw z, Bool.true_or]
      · rw [b_or]
        by_cases z : i = v
        · rw [z, ex] at e
          have : x = w := (nI_eq (by omega) (by omega)).mp e
          rw [b_sh1 (by omega) (by omega), decide_eq_true this.symm, Bool.or_true]
        · rw [hv i w (by omega) hic hw e, Bool.true_or]
theorem sp126_loop {N n : Nat} {σ0 : Sg} {f p : Nat} {x : Int32} (hf : f < 12) (hp : p < 300) {K : Sg → Int32 → Option (Int32 × Sg)} {P : Int32 × Sg → Prop}
    (hK : ∀ (σ : Sg) (y : Int32), (∀ w, w < 24 → (σ 77 (24 * f + w) = σ0 77 (24 * f + w) ∨ (σ0 77 (24 * f + w) < 0 ∧ σ 77 (24 * f + w) = nI p)) ∧ (bt x w = true → ¬ σ 77 (24 * f + w) < 0)) → (∀ c j, c ≠ 77 → c ≠ 78 → σ c j = σ0 c j) → Ok (K σ y) P) :
    ∀ (k v : Nat) (σ : Sg), v ≤ 24 → 24 < v + k → (∀ w, w < 24 → (σ 77 (24 * f + w) = σ0 77 (24 * f + w) ∨ (σ0 77 (24 * f + w) < 0 ∧ σ 77 (24 * f + w) = nI p)) ∧ (w < v → bt x w = true → ¬ σ 77 (24 * f + w) < 0)) → (∀ c j, c ≠ 77 → c ≠ 78 → σ c j = σ0 c j) → Ok (lf_X12_spans_126 N n (nI f) (nI p) x K k σ (nI v)) P := by
  intro k
  induction k with
  | zero => intro v σ h1 h2; omega
  | succ k ih =>
    intro v σ h1 h2 hv hs
    show Ok (lb_X12_spans_126 N n (nI f) (nI p) x K (lf_X12_spans_126 N n (nI f) (nI p) x K k) σ (nI v)) P
    unfold lb_X12_spans_126
    have e0 : ((24 : Int32) ≤ nI v) = (24 ≤ v) := le_ln (k := 24) (by omega) (by decide)
    refine ok_if (fun c => ?_) (fun c => ?_)
    · rw [e0] at c
      exact hK σ _ (fun w hw => ⟨(hv w hw).1, (hv w hw).2 (by omega)⟩) hs
    · rw [e0] at c
      rw [ml_ln f 24, ad_nn, ad_nl v 1]
      have e1 : OfNat.ofNat 24 * f + v = 24 * f + v := rfl
      have gi : ∀ y : Option (Int32 × Sg), gb (nI (24 * f + v)) 288 y = y := fun y => gb_nI (show 24 * f + v < 288 by omega) (by decide)
      rw [e1]
      simp only [gi]
      rw [ix_nI (k := 24 * f + v) (by omega)]
      refine ok_if (fun z => ?_) (fun z => ?_)
      · have o77 : ∀ (y : Int32) w, (sg (sg σ 77 (24 * f + v) y) 78 (24 * f + v) (nI p)) 77 (24 * f + w) = if w = v then y else σ 77 (24 * f + w) := fun y w => by
          rw [sg_c (by decide), sg_if]
          by_cases e : w = v
          · rw [if_pos (by omega), if_pos e]
          · rw [if_neg (by omega), if_neg e]
        refine ok_if (fun z2 => ?_) (fun z2 => ?_)
        · have hz : ¬ σ 77 (24 * f + v) < 0 := Int32.not_lt.mpr z2
          refine ih (v + 1) _ (by omega) (by omega) (fun w hw => ?_) (fun c j a b => (sg_c b).trans ((sg_c a).trans (hs c j a b)))
          rw [o77]
          by_cases e : w = v
          · rw [if_pos e, ← e]
            refine ⟨(hv w hw).1, fun _ _ => ?_⟩
            rw [e]; exact hz
          · rw [if_neg e]
            exact ⟨(hv w hw).1, fun a b => (hv w hw).2 (by omega) b⟩
        · have hz : σ 77 (24 * f + v) < 0 := Int32.not_le.mp z2
          refine ih (v + 1) _ (by omega) (by omega) (fun w hw => ?_) (fun c j a b => (sg_c b).trans ((sg_c a).trans (hs c j a b)))
          rw [o77]
          by_cases e : w = v
          · rw [if_pos e]
            refine ⟨Or.inr ⟨?_, rfl⟩, fun _ _ => nI_pos (by omega)⟩
            rcases (hv w hw).1 with q | q
            · rw [← q, e]; exact hz
            · exact q.1
          · rw [if_neg e]
            exact ⟨(hv w hw).1, fun a b => (hv w hw).2 (by omega) b⟩
      · rw [b_tst1 (by omega)] at z
        refine ih (v + 1) σ (by omega) (by omega) (fun w hw => ⟨(hv w hw).1, fun a b => ?_⟩) hs
        by_cases e : w = v
        · rw [e] at b; exact absurd b z
        · exact (hv w hw).2 (by omega) b
theorem ql_mid {σ σ' : Sg} {F T : Nat} (h : QL σ F T) (e59 : σ' 59 12 = σ 59 12) (e : ∀ c j, 68 ≤ c → c ≤ 71 → σ' c j = σ c j) : QL σ' F T := by
  obtain ⟨h1, h2, h3, h4, h5⟩ := h
  refine ⟨e59.trans h1, h2, h3, fun p hp => qp_same (h4 p hp) (e _ _ (by decide) (by decide)) (e _ _ (by decide) (by decide)) (e _ _ (by decide) (by decide)) (fun i _ => e _ _ (by decide) (by decide)), ?_⟩
  rw [e _ _ (by decide) (by decide)]; exact h5
theorem sp71_loop {N n : Nat} (hN : 1000 ≤ N) {σ0 : Sg} {F T f : Nat} (hL : QL σ0 F T) (hf : f < 12) {K : Sg → Int32 → Option (Int32 × Sg)} {P : Int32 × Sg → Prop}
    (hK : ∀ (σ : Sg) (x : Int32), (∀ c j, c ≠ 77 → c ≠ 78 → σ c j = σ0 c j) → (∀ w, w < 24 → (σ 77 (24 * f + w) = (-1) ∨ Bl (σ 77 (24 * f + w)) T) ∧ ∀ p, p < T → w < 22 → Nr σ0 p w → ¬ σ 77 (24 * f + w) = (-1)) → Ok (K σ x) P) :
    ∀ (k v : Nat) (σ : Sg), v ≤ T → T < v + k → (∀ c j, c ≠ 77 → c ≠ 78 → σ c j = σ0 c j) → (∀ w, w < 24 → (σ 77 (24 * f + w) = (-1) ∨ Bl (σ 77 (24 * f + w)) v) ∧ ∀ p, p < v → w < 22 → Nr σ0 p w → ¬ σ 77 (24 * f + w) = (-1)) → Ok (lf_X12_spans_71 N n (nI f) K k σ (nI v)) P := by
  have hT := hL.2.2.1
  intro k
  induction k with
  | zero => intro v σ h1 h2; omega
  | succ k ih =>
    intro v σ h1 h2 hs hv
    have hL1 : QL σ F T := ql_mid hL (hs 59 12 (by decide) (by decide)) (fun c j _ _ => hs c j (by omega) (by omega))
    show Ok (lb_X12_spans_71 N n (nI f) K (lf_X12_spans_71 N n (nI f) K k) σ (nI v)) P
    unfold lb_X12_spans_71
    rw [hL1.1]
    refine ok_if (fun c => ?_) (fun c => ?_)
    · rw [le_nn (by omega) (by omega)] at c
      obtain rfl : v = T := by omega
      exact hK σ _ hs hv
    · rw [le_nn (by omega) (by omega)] at c
      rw [gb_nI (show v < 301 by omega) (by decide), ix_nI (k := v) (by omega), ad_nl v 1]
      obtain ⟨kd, cc, a68, a71, a70, ak⟩ := hL1.2.2.2.1 v (by omega)
      refine sp89_loop (a0 := σ 76 v) (by omega) a71 ak.2.1 a70 (fun a x b1 b2 => ?_) N 0 (σ 76 v) (by omega) (by omega) (fun _ _ z => z) (fun i w hi => by omega)
      refine sp126_loop (σ0 := σ) hf (show v < 300 by omega) (fun σ2 y d1 d2 => ?_) N 0 σ (by omega) (by omega) (fun w hw => ⟨Or.inl rfl, fun q => by omega⟩) (fun _ _ _ _ => rfl)
      refine ih (v + 1) σ2 (by omega) (by omega) (fun c j p q => (d2 c j p q).trans (hs c j p q)) (fun w hw => ?_)
      obtain ⟨w1, w2⟩ := d1 w hw
      obtain ⟨o1, o2⟩ := hv w hw
      have nneg : ∀ {z : Int32}, (z = (-1) ∨ Bl z v) → z < 0 → z = (-1) := fun h q => by
        rcases h with h | ⟨k, h1, h2⟩
        · exact h
        · rw [h2] at q; exact absurd q (nI_pos (by omega))
      refine ⟨?_, fun p hp hw2 hn => ?_⟩
      · rcases w1 with q | ⟨-, q⟩
        · rw [q]
          rcases o1 with z | ⟨z, z1, z2⟩
          · exact Or.inl z
          · exact Or.inr ⟨z, by omega, z2⟩
        · exact Or.inr ⟨v, by omega, q⟩
      · by_cases e : p = v
        · have : ¬ σ2 77 (24 * f + w) < 0 := by
            refine w2 ?_
            rw [e] at hn
            rcases hn with q | ⟨c', i, q1, q2, q3, q4⟩
            · exact b1 w hw (by rw [hs 76 v (by decide) (by decide)]; exact q)
            · have ec : c' = cc := (nI_eq (by omega) (by have := ak.2.1; omega)).mp ((q1.symm.trans (hs 71 v (by decide) (by decide)).symm).trans a71)
              exact b2 i w (by omega) hw2 ((hs 70 _ (by decide) (by decide)).trans q4)
          intro z
          exact this (by rw [z]; decide)
        · have h0 := o2 p (by omega) hw2 hn
          rcases w1 with q | ⟨q, -⟩
          · rw [q]; exact h0
          · exact absurd (nneg o1 q) h0
