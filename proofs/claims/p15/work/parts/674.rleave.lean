theorem leftOut_ok {N n : Nat} {σ : Sg} {F T p : Nat} (hL : QL σ F T) (hp : p < T) : Ok (f_X12_isLeftOut N n σ (nI p)) (fun y => y.2 = σ ∧ ((σ 68 p = nI 4 ∨ σ 68 p = nI 6) → y.1 = 0)) := by
  have hT := hL.2.2.1
  obtain ⟨kd, cc, a68, a71, a70, ak⟩ := hL.2.2.2.1 p hp
  have hkd := qk_k ak
  obtain ⟨g, hg⟩ := goal_of ak
  have kn : ∀ m, m < 2147483648 → (nI kd = nI m ↔ kd = m) := fun m hm => nI_eq (by omega) hm
  have gp : ∀ y : Option (Int32 × Sg), gb (nI p) 300 y = y := fun y => gb_nI (show p < 300 by omega) (by decide)
  have e8 : (8 : Int32) * nI p = nI (8 * p) := ml_ln p 8
  have e81 : nI (8 * p) + 1 = nI (8 * p + 1) := ad_nl (8 * p) 1
  have g8 : ∀ y : Option (Int32 × Sg), gb (nI (8 * p)) 2400 y = y := fun y => gb_nI (show 8 * p < 2400 by omega) (by decide)
  have g81 : ∀ y : Option (Int32 × Sg), gb (nI (8 * p + 1)) 2400 y = y := fun y => gb_nI (show 8 * p + 1 < 2400 by omega) (by decide)
  have ip : ix (nI p) = p := ix_nI (by omega)
  have no : (kd = 0 ∨ kd = 1) → ¬ (σ 68 p = nI 4 ∨ σ 68 p = nI 6) := fun q z => by
    rw [a68] at z
    rcases z with z | z
    · have := (kn 4 (by decide)).mp z; omega
    · have := (kn 6 (by decide)).mp z; omega
  unfold f_X12_isLeftOut
  simp only [gp, e8, e81, g8, g81, ip]
  refine ok_if (fun c => ?_) (fun c => ok_if (fun c2 => ?_) (fun _ => ok_ret ⟨rfl, fun _ => rfl⟩))
  · have hn := no (Or.inl ((kn 0 (by decide)).mp (a68.symm.trans c)))
    refine ok_bd (liveBehind_ok hT hp hkd a68 hg) (fun r σ1 _ h1 => ?_)
    obtain ⟨hs, -⟩ := h1
    have hs : σ1 = σ := hs
    subst hs
    exact ok_if (fun _ => ok_ret ⟨rfl, fun q => absurd q hn⟩) (fun _ => ok_if (fun _ => ok_if (fun _ => ok_ret ⟨rfl, fun q => absurd q hn⟩) (fun _ => ok_ret ⟨rfl, fun _ => rfl⟩)) (fun _ => ok_ret ⟨rfl, fun _ => rfl⟩))
  · have hn := no (Or.inr ((kn 1 (by decide)).mp (a68.symm.trans c2)))
    refine ok_bd (liveBehind_ok hT hp hkd a68 hg) (fun r σ1 _ h1 => ?_)
    obtain ⟨hs, -⟩ := h1
    have hs : σ1 = σ := hs
    subst hs
    exact ok_if (fun _ => ok_ret ⟨rfl, fun q => absurd q hn⟩) (fun _ => ok_if (fun _ => ok_ret ⟨rfl, fun q => absurd q hn⟩) (fun _ => ok_ret ⟨rfl, fun _ => rfl⟩))
theorem ql_73 {σ : Sg} {F T i : Nat} {x : Int32} (h : QL σ F T) : QL (sg σ 73 i x) F T := by
  obtain ⟨h1, h2, h3, h4, h5⟩ := h
  refine ⟨(sg_c (by decide)).trans h1, h2, h3, fun p hp => qp_same (h4 p hp) (sg_c (by decide)) (sg_c (by decide)) (sg_c (by decide)) (fun i _ => sg_c (by decide)), ?_⟩
  rw [sg_c (by decide)]; exact h5
/-- the new numbers of the places up to v: t; v itself would be t v -/
def AH (σ : Sg) (T v : Nat) (t : Nat → Nat) : Prop := (∀ u, u < v → σ 73 u = nI (t u)) ∧ (∀ u, u ≤ v → t u ≤ u) ∧ (∀ u, u < v → t u ≤ t (u + 1) ∧ t (u + 1) ≤ t u + 1) ∧ (v = T → 0 < T → t T = t (T - 1) + 1)
theorem lo14_loop {N n : Nat} {F T : Nat} {K : Sg → Int32 → Int32 → Option (Int32 × Sg)} {P : Int32 × Sg → Prop} (hK : ∀ (σ : Sg) (t : Nat → Nat) (x : Int32), QL σ F T → AH σ T T t → Ok (K σ (nI (t T)) x) P) :
    ∀ (k v : Nat) (σ : Sg) (t : Nat → Nat), v ≤ T → T < v + k → QL σ F T → AH σ T v t → Ok (lf_X12_leavesOut_14 N n K k σ (nI (t v)) (nI v)) P := by
  intro k
  induction k with
  | zero => intro v σ t h1 h2; omega
  | succ k ih =>
    intro v σ t h1 h2 hL hA
    have hT := hL.2.2.1
    have hA0 := hA
    obtain ⟨a1, a2, a3, a4⟩ := hA
    show Ok (lb_X12_leavesOut_14 N n K (lf_X12_leavesOut_14 N n K k) σ (nI (t v)) (nI v)) P
    unfold lb_X12_leavesOut_14
    rw [hL.1]
    refine ok_if (fun c => ?_) (fun c => ?_)
    · rw [le_nn (by omega) (by omega)] at c
      obtain rfl : v = T := by omega
      exact hK σ t _ hL hA0
    · rw [le_nn (by omega) (by omega)] at c
      have htv := a2 v (Nat.le_refl _)
      rw [gb_nI (show v < 301 by omega) (by decide), ix_nI (k := v) (by omega), ad_nl v 1, ad_nl (t v) 1, ad_nl (t v) 0]
      refine ok_bd (leftOut_ok (ql_73 hL) (p := v) (by omega)) (fun r σ1 _ h1 => ?_)
      obtain ⟨hs, h1⟩ := h1
      have hs : σ1 = sg σ 73 v (nI (t v)) := hs
      have o73 : ∀ u, σ1 73 u = if u = v then nI (t v) else σ 73 u := fun u => by rw [hs]; exact sg_if _ _ _ _ _
      have nxt : ∀ d, d ≤ 1 → (v + 1 = T → d = 1) → Ok (lf_X12_leavesOut_14 N n K k σ1 (nI (t v + d)) (nI (v + 1))) P := fun d hd hl => by
        obtain ⟨t', e0, e1⟩ : ∃ t' : Nat → Nat, t' (v + 1) = t v + d ∧ ∀ u, u ≤ v → t' u = t u := ⟨fun u => if u = v + 1 then t v + d else t u, if_pos rfl, fun u hu => if_neg (by omega)⟩
        rw [← e0]
        refine ih (v + 1) σ1 t' (by omega) (by omega) (by rw [hs]; exact ql_73 hL) ⟨fun u hu => ?_, fun u hu => ?_, fun u hu => ?_, fun q _ => ?_⟩
        · rw [e1 u (by omega), o73]
          by_cases e : u = v
          · rw [if_pos e, e]
          · rw [if_neg e]; exact a1 u (by omega)
        · by_cases e : u = v + 1
          · rw [e, e0]; omega
          · rw [e1 u (by omega)]; exact a2 u (by omega)
        · by_cases e : u = v
          · rw [e, e0, e1 v (by omega)]; omega
          · rw [e1 u (by omega), e1 (u + 1) (by omega)]; exact a3 u (by omega)
        · rw [← q, e0, show v + 1 - 1 = v by omega, e1 v (by omega), hl q]
      refine ok_if (fun z => nxt 1 (by omega) (fun _ => rfl)) (fun z => nxt 0 (by omega) (fun q => ?_))
      exfalso
      refine z (h1 ?_)
      rw [sg_c (by decide), show v = T - 1 by omega]
      exact hL.2.2.2.2
theorem mono_t {t : Nat → Nat} {T : Nat} (h : ∀ u, u < T → t u ≤ t (u + 1)) : ∀ d u, u + d ≤ T → t u ≤ t (u + d) := by
  intro d
  induction d with
  | zero => intro u _; exact Nat.le_refl _
  | succ d ih => intro u hu; exact Nat.le_trans (ih u (by omega)) (h (u + d) (by omega))
theorem cu99_loop {N n : Nat} {σa : Sg} {u1 : Int32} {v q c : Nat} (hv : v < 300) (hq : q < 300) (hc : c ≤ 7) (h71 : σa 71 v = nI c) {K : Sg → Int32 → Option (Int32 × Sg)} {P : Int32 × Sg → Prop}
    (hK : ∀ (σ : Sg) (x : Int32), (∀ d j, d ≠ 70 → σ d j = σa d j) → (∀ p i, p ≠ q → i < 8 → σ 70 (8 * p + i) = σa 70 (8 * p + i)) → (∀ i, i < c → Bl (σ 70 (8 * q + i)) 22) → Ok (K σ x) P) :
    ∀ (k t : Nat) (σ : Sg), t ≤ 8 → 8 < t + k → (∀ d j, d ≠ 70 → σ d j = σa d j) → (∀ p i, p ≠ q → i < 8 → σ 70 (8 * p + i) = σa 70 (8 * p + i)) → (∀ i, i < t → i < c → Bl (σ 70 (8 * q + i)) 22) → (∀ i, i < c → Bl (σ 70 (8 * v + i)) 22) →
      Ok (lf_X12_closesUp_99 N n u1 (nI v) (nI q) K k σ (nI t)) P := by
  intro k
  induction k with
  | zero => intro t σ h1 h2; omega
  | succ k ih =>
    intro t σ h1 h2 hs ho ht hb
    show Ok (lb_X12_closesUp_99 N n u1 (nI v) (nI q) K (lf_X12_closesUp_99 N n u1 (nI v) (nI q) K k) σ (nI t)) P
    unfold lb_X12_closesUp_99
    rw [gb_nI hv (by decide), ix_nI (k := v) (by omega), (hs 71 v (by decide)).trans h71]
    refine ok_if (fun z => ?_) (fun z => ?_)
    · rw [le_nn (by omega) (by omega)] at z
      exact hK σ _ hs ho (fun i hi => ht i (by omega) hi)
    · rw [le_nn (by omega) (by omega)] at z
      rw [ml_ln v 8, ml_ln q 8, ad_nn, ad_nn, ad_nl t 1]
      have e1 : OfNat.ofNat 8 * v + t = 8 * v + t := rfl
      have e2 : OfNat.ofNat 8 * q + t = 8 * q + t := rfl
      rw [e1, e2, gb_nI (show 8 * v + t < 2400 by omega) (by decide), gb_nI (show 8 * q + t < 2400 by omega) (by decide), ix_nI (k := 8 * v + t) (by omega), ix_nI (k := 8 * q + t) (by omega)]
      have hx := hb t (by omega)
      refine ih (t + 1) _ (by omega) (by omega) (fun d j a => (sg_c a).trans (hs d j a)) (fun p i a b => ?_) (fun i hi hic => ?_) (fun i hi => ?_)
      · rw [sg_ne (by omega)]; exact ho p i a b
      · rw [sg_if]
        by_cases e : 8 * q + i = 8 * q + t
        · rw [if_pos e]; exact hx
        · rw [if_neg e]; exact ht i (by omega) hic
      · rw [sg_if]
        by_cases e : 8 * v + i = 8 * q + t
        · rw [if_pos e]; exact hx
        · rw [if_neg e]; exact hb i hi
/-- while places are closed up: those ahead of v are -/
def CU (σ : Sg) (F T v : Nat) (t : Nat → Nat) : Prop :=
  σ 59 12 = nI T ∧ (∀ u, u ≤ T → σ 73 u = nI (t u)) ∧ (∀ p, p < t v → Qp σ F (fun y => y < t T) p) ∧ (∀ p, v ≤ p → p < T → Qp σ F (fun y => y < T) p) ∧ (v < T → σ 68 (T - 1) = nI 4 ∨ σ 68 (T - 1) = nI 6) ∧ (v = T → σ 68 (t T - 1) = nI 4 ∨ σ 68 (t T - 1) = nI 6)
theorem cu_loop {N n : Nat} (hN : 1000 ≤ N) {F T : Nat} {t : Nat → Nat} {u1 : Int32} (hT0 : 0 < T) (hT : T ≤ 300) (a2 : ∀ u, u ≤ T → t u ≤ u) (a3 : ∀ u, u < T → t u ≤ t (u + 1) ∧ t (u + 1) ≤ t u + 1) (a4 : t T = t (T - 1) + 1) {K : Sg → Int32 → Option (Int32 × Sg)} {P : Int32 × Sg → Prop} (hK : ∀ (σ : Sg) (x : Int32), CU σ F T T t → Ok (K σ x) P) :
    ∀ (k v : Nat) (σ : Sg), v ≤ T → T < v + k → CU σ F T v t → Ok (lf_X12_closesUp_2 N n u1 K k σ (nI v)) P := by
  intro k
  induction k with
  | zero => intro v σ h1 h2; omega
  | succ k ih =>
    intro v σ h1 h2 hC
    have hC0 := hC
    obtain ⟨c1, c2, c3, c4, c5, c6⟩ := hC
    show Ok (lb_X12_closesUp_2 N n u1 K (lf_X12_closesUp_2 N n u1 K k) σ (nI v)) P
    unfold lb_X12_closesUp_2
    rw [c1]
    refine ok_if (fun c => ?_) (fun c => ?_)
    · rw [le_nn (by omega) (by omega)] at c
      obtain rfl : v = T := by omega
      exact hK σ _ hC0
    · rw [le_nn (by omega) (by omega)] at c
      have htv := a2 v (by omega)
      have htv1 := a2 (v + 1) (by omega)
      obtain ⟨b1, b2⟩ := a3 v (by omega)
      have e1 : nI v + 1 = nI (v + 1) := ad_nl v 1
      have gv : ∀ y : Option (Int32 × Sg), gb (nI v) 300 y = y := fun y => gb_nI (show v < 300 by omega) (by decide)
      have gq : ∀ y : Option (Int32 × Sg), gb (nI (t v)) 300 y = y := fun y => gb_nI (show t v < 300 by omega) (by decide)
      have g301 : ∀ y : Option (Int32 × Sg), gb (nI v) 301 y = y := fun y => gb_nI (show v < 301 by omega) (by decide)
      have g302 : ∀ y : Option (Int32 × Sg), gb (nI (v + 1)) 301 y = y := fun y => gb_nI (show v + 1 < 301 by omega) (by decide)
      have iv : ix (nI v) = v := ix_nI (by omega)
      have iq : ix (nI (t v)) = t v := ix_nI (by omega)
      have iv1 : ix (nI (v + 1)) = v + 1 := ix_nI (by omega)
      have s73 := c2 v (by omega)
      have s731 := c2 (v + 1) (by omega)
      simp only [e1, iv, iv1, s73, s731, gv, gq, g301, g302, iq]
      refine ok_if (fun z => ?_) (fun z => ?_)
      · rw [le_nn (by omega) (by omega)] at z
        have et : t (v + 1) = t v := by omega
        have hvT : v + 1 ≠ T := fun q => by
          rw [← q, show v + 1 - 1 = v by omega] at a4
          omega
        refine ih (v + 1) σ (by omega) (by omega) ⟨c1, c2, by rw [et]; exact c3, fun p a b => c4 p (by omega) b, fun _ => c5 (by omega), fun q => absurd q hvT⟩
      · rw [le_nn (by omega) (by omega)] at z
        have et : t (v + 1) = t v + 1 := by omega
        have hpv := c4 v (Nat.le_refl _) (by omega)
        obtain ⟨kd, cc, a68, a71, a70, ak⟩ := hpv
        have hkd := qk_k ak
        have eu : upd (σ 68) (t v) (σ 68 v) v = nI kd := by
          show (if v = t v then σ 68 v else σ 68 v) = nI kd
          rw [a68]; split <;> rfl
        rw [eu, isJump_eq (by omega), bd_s]
        -- the place v, put at t v, with its new goal
        have put : ∀ (x : Int32) (σb : Sg), σb = sg (sg (sg σ 68 (t v) (σ 68 v)) 69 (t v) x) 71 (t v) (nI cc) → QK kd cc x F (fun y => y < t T) → Ok (lf_X12_closesUp_99 N n u1 (nI v) (nI (t v)) (fun σ21 _ => lf_X12_closesUp_2 N n u1 K k σ21 (nI (v + 1))) N σb 0) P := by
          intro x σb eb hk2
          have ob : ∀ c j, c ≠ 68 → c ≠ 69 → c ≠ 71 → σb c j = σ c j := fun c j a b d => by rw [eb, sg_c d, sg_c b, sg_c a]
          have o68 : ∀ j, σb 68 j = if j = t v then nI kd else σ 68 j := fun j => by rw [eb, sg_c (by decide), sg_c (by decide), sg_if, a68]
          have o69 : ∀ j, σb 69 j = if j = t v then x else σ 69 j := fun j => by rw [eb, sg_c (by decide), sg_if, sg_c (by decide)]
          have o71 : ∀ j, σb 71 j = if j = t v then nI cc else σ 71 j := fun j => by rw [eb, sg_if, sg_c (by decide), sg_c (by decide)]
          have h71v : σb 71 v = nI cc := by
            rw [o71]; split
            · rfl
            · exact a71
          refine cu99_loop (σa := σb) (v := v) (q := t v) (c := cc) (by omega) (by omega) ak.2.1 h71v (fun σ2 y d1 d2 d3 => ?_) N 0 σb (by omega) (by omega) (fun _ _ _ => rfl) (fun _ _ _ _ => rfl) (fun i hi => by omega) (fun i hi => by rw [ob 70 _ (by decide) (by decide) (by decide)]; exact a70 i hi)
          have old : ∀ (G : Nat → Prop) p, p ≠ t v → Qp σ F G p → Qp σ2 F G p := fun G p hn hq => by
            refine qp_same hq ?_ ?_ ?_ (fun i hi => ?_)
            · rw [d1 68 p (by decide), o68, if_neg hn]
            · rw [d1 69 p (by decide), o69, if_neg hn]
            · rw [d1 71 p (by decide), o71, if_neg hn]
            · rw [d2 p i hn hi, ob 70 _ (by decide) (by decide) (by decide)]
          have k68 : ∀ j, σ2 68 j = if j = t v then nI kd else σ 68 j := fun j => (d1 68 j (by decide)).trans (o68 j)
          refine ih (v + 1) σ2 (by omega) (by omega) ⟨(d1 59 12 (by decide)).trans ((ob 59 12 (by decide) (by decide) (by decide)).trans c1), fun u hu => (d1 73 u (by decide)).trans ((ob 73 u (by decide) (by decide) (by decide)).trans (c2 u hu)), fun p hp => ?_, fun p a b => old _ p (by omega) (c4 p (by omega) b), fun q => ?_, fun q => ?_⟩
          · by_cases e : p = t v
            · rw [e]
              refine ⟨kd, cc, by rw [k68, if_pos rfl], by rw [d1 71 _ (by decide), o71, if_pos rfl], d3, ?_⟩
              rw [d1 69 _ (by decide), o69, if_pos rfl]; exact hk2
            · exact old _ p e (c3 p (by omega))
          · rw [k68, if_neg (by omega)]; exact c5 (by omega)
          · have ev : v = T - 1 := by omega
            have e2 : t T - 1 = t v := by rw [a4, ← ev]; omega
            rw [k68, e2, if_pos rfl]
            have := c5 (by omega)
            rw [← ev, a68] at this
            exact this
        refine ok_if (fun z2 => ?_) (fun z2 => ?_)
        · have hn : ¬ (kd = 4 ∨ kd = 5) := fun q => by rw [if_pos q] at z2; exact absurd z2 (by decide)
          have s71 : sg σ 68 (t v) (σ 68 v) 71 v = nI cc := by rw [sg_c (by decide)]; exact a71
          rw [s71]
          refine put _ _ rfl ?_
          rw [sg_c (by decide)]
          obtain ⟨q1, q2, q3, q4, q5, q6, q7⟩ := ak
          exact ⟨q1, q2, q3, q4, q5, fun q => absurd q hn, q7⟩
        · have hj : kd = 4 ∨ kd = 5 := Classical.byContradiction fun q => z2 (if_neg q)
          obtain ⟨q1, q2, q3, q4, q5, q6, q7⟩ := ak
          obtain ⟨y, gy, ey⟩ := q6 hj
          have gy : y < T := gy
          have s69 : sg σ 68 (t v) (σ 68 v) 69 v = nI y := by rw [sg_c (by decide)]; exact ey
          have s71 : sg σ 68 (t v) (σ 68 v) 71 v = nI cc := by rw [sg_c (by decide)]; exact a71
          have s73y : sg σ 68 (t v) (σ 68 v) 73 y = nI (t y) := by rw [sg_c (by decide)]; exact c2 y (by omega)
          rw [s69, gb_nI (show y < 301 by omega) (by decide), ix_nI (k := y) (by omega), s73y, s71]
          refine put _ _ rfl ⟨q1, q2, q3, q4, q5, fun _ => ⟨t y, ?_, rfl⟩, fun q => by omega⟩
          have := mono_t (T := T) (fun u hu => (a3 u hu).1) (T - 1 - y) y (by omega)
          rw [show y + (T - 1 - y) = T - 1 by omega] at this
          show t y < t T
          omega
theorem closesUp_ok {N n : Nat} (hN : 1000 ≤ N) {σ : Sg} {F T : Nat} {t : Nat → Nat} (hL : QL σ F T) (a1 : ∀ u, u ≤ T → σ 73 u = nI (t u)) (a2 : ∀ u, u ≤ T → t u ≤ u) (a3 : ∀ u, u < T → t u ≤ t (u + 1) ∧ t (u + 1) ≤ t u + 1) (a4 : t T = t (T - 1) + 1) : Ok (f_X12_closesUp N n σ (nI (t T))) (fun y => QL y.2 F (t T)) := by
  obtain ⟨l1, l2, l3, l4, l5⟩ := hL
  have htT := a2 T (Nat.le_refl _)
  unfold f_X12_closesUp
  refine cu_loop hN l2 l3 a2 a3 a4 (fun σ1 x hC => ok_ret ?_) N 0 σ (by omega) (by omega) ⟨l1, a1, fun p hp => ?_, fun p _ hp => l4 p hp, fun _ => l5, fun q => by omega⟩
  · obtain ⟨c1, c2, c3, c4, c5, c6⟩ := hC
    show QL (sg σ1 59 12 (nI (t T))) F (t T)
    refine ⟨sg_at _ _ _ _, by omega, by omega, fun p hp => qp_same (c3 p hp) (sg_c (by decide)) (sg_c (by decide)) (sg_c (by decide)) (fun i _ => sg_c (by decide)), ?_⟩
    show sg σ1 59 12 (nI (t T)) 68 (t T - 1) = nI 4 ∨ sg σ1 59 12 (nI (t T)) 68 (t T - 1) = nI 6
    rw [sg_c (by decide)]; exact c6 rfl
  · have := a2 0 (by omega)
    omega
theorem lo2_loop {N n : Nat} (hN : 10000 ≤ N) {F T0 : Nat} : ∀ (k : Nat) (σ : Sg) (T : Nat) (g : Int32), T ≤ T0 → QL σ F T → ((g = 0 ∧ 1 ≤ k) ∨ (g = 1 ∧ T + 1 < k)) → Ok (lf_X12_leavesOut_2 N n (fun σ19 _ => some (0, σ19)) k σ g) (fun y => ∃ T', T' ≤ T0 ∧ QL y.2 F T') := by
  intro k
  induction k with
  | zero => intro σ T g hT hL hk; omega
  | succ k ih =>
    intro σ T g hT hL hk
    show Ok (lb_X12_leavesOut_2 N n _ (lf_X12_leavesOut_2 N n _ k) σ g) _
    unfold lb_X12_leavesOut_2
    refine ok_if (fun _ => ok_ret ⟨T, hT, hL⟩) (fun c => ?_)
    have hk := hk.resolve_left (fun q => c q.1)
    refine ok_bd (lives_ok hN hL) (fun r σ1 _ h1 => ?_)
    have hT3 := hL.2.2.1
    have hT0 := hL.2.1
    refine lo14_loop (K := fun σ11 w12 _ => gb (σ11 59 12) 301 (if (σ11 59 12) ≤ w12 then (lf_X12_leavesOut_2 N n (fun σ19 _ => some (0, σ19)) k (sg σ11 73 (ix (σ11 59 12)) w12) 0) else (bd (f_X12_closesUp N n (sg σ11 73 (ix (σ11 59 12)) w12) w12) (fun _ σ17 => lf_X12_leavesOut_2 N n (fun σ19 _ => some (0, σ19)) k σ17 1)))) (fun σ2 t x a b => ?_) N 0 σ1 (fun _ => 0) (by omega) (by omega) h1 ⟨fun u hu => by omega, fun u hu => Nat.zero_le _, fun u hu => by omega, fun q _ => by omega⟩
    obtain ⟨b1, b2, b3, b4⟩ := b
    have a4 := b4 rfl hT0
    have htT := b2 T (Nat.le_refl _)
    show Ok (gb (σ2 59 12) 301 _) _
    rw [a.1, gb_nI (show T < 301 by omega) (by decide), ix_nI (k := T) (by omega)]
    refine ok_if (fun _ => ih _ T 0 hT (ql_73 a) (Or.inl ⟨rfl, by omega⟩)) (fun z => ?_)
    rw [le_nn (by omega) (by omega)] at z
    refine ok_bd (closesUp_ok (by omega) (ql_73 a) (fun u hu => ?_) b2 b3 a4) (fun r3 σ3 _ h3 => ih σ3 (t T) 1 (by omega) h3 (Or.inr ⟨rfl, by omega⟩))
    rw [sg_if]
    by_cases e : u = T
    · rw [if_pos e, e]
    · rw [if_neg e]; exact b1 u (by omega)
theorem leavesOut_ok {N n : Nat} (hN : 10000 ≤ N) {σ : Sg} {F T : Nat} (hL : QL σ F T) : Ok (f_X12_leavesOut N n σ) (fun y => ∃ T', T' ≤ T ∧ QL y.2 F T') := by
  have hT := hL.2.2.1
  unfold f_X12_leavesOut
  exact lo2_loop hN N σ T 1 (Nat.le_refl _) hL (Or.inr ⟨rfl, by omega⟩)
