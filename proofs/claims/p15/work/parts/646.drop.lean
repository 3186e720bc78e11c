theorem pl_eq {σ σ' : Sg} {F T : Nat} (h : PL σ F T) (hs : ∀ c j, 13 ≤ c → c ≤ 19 → σ' c j = σ c j) : PL σ' F T := by
  obtain ⟨h1, h2, h3, h4, h5⟩ := h
  refine ⟨(hs 13 6 (by decide) (by decide)).trans h1, h2, h3, fun p hp => pp_same (h4 p hp) (hs _ _ (by decide) (by decide)) (hs _ _ (by decide) (by decide)) (hs _ _ (by decide) (by decide)) (hs _ _ (by decide) (by decide)) (hs _ _ (by decide) (by decide)) (fun i _ => hs _ _ (by decide) (by decide)), ?_⟩
  rw [hs 14 _ (by decide) (by decide)]
  exact h5
theorem goesToNext_ok {N n : Nat} {σ : Sg} {F T v : Nat} (hL : PL σ F T) (hv : v < T) : Ok (f_X5_goesToNext N n σ (nI v)) (fun y => y.2 = σ ∧ (y.1 = 0 ∨ v + 1 < T)) := by
  have hT := hL.2.2.1
  unfold f_X5_goesToNext
  rw [gb_nI (show v < 300 by omega) (by decide), gb_nI (show v < 300 by omega) (by decide), hL.1, ad_nl v 1]
  refine ok_if (fun _ => ok_ret ⟨rfl, Or.inl rfl⟩) (fun _ => ok_if (fun _ => ok_ret ⟨rfl, Or.inl rfl⟩) (fun _ => ok_if (fun _ => ok_ret ⟨rfl, Or.inl rfl⟩) (fun c => ok_ret ⟨rfl, Or.inr ?_⟩)))
  rw [le_nn (by omega) (by show v + 1 < _; omega)] at c
  have c : ¬ T ≤ v + 1 := c
  omega
theorem grow_tail {N n : Nat} (hN : 1000 ≤ N) {σ : Sg} {F T v : Nat} (hL : PL σ F T) (hv : v < T) {R : Sg → Int32 → Option (Int32 × Sg)} {P : Int32 × Sg → Prop} (hR : ∀ (σ1 : Sg) (g : Int32), (g = 0 ∨ g = 1) → PL σ1 F T → Ok (R σ1 g) P) (x : Int32) (E : Int32 → Int32 → Int32) (g : Int32) :
    Ok (gb (nI v) 300 (bd (f_X5_readSet N n (sg σ 31 v x) (nI v)) (fun r11 σ12 => bd (f_X5_writtenSet N n σ12 (nI v)) (fun r14 σ15 => if g = 0 then (gb (nI v) 300 (if (E r11 r14) = (σ15 30 v) then (gb (nI v) 300 (R (sg σ15 30 v (E r11 r14)) 0)) else (gb (nI v) 300 (R (sg σ15 30 v (E r11 r14)) 1)))) else (gb (nI v) 300 (R (sg σ15 30 v (E r11 r14)) 1)))))) P := by
  have hT := hL.2.2.1
  have gp : ∀ y : Option (Int32 × Sg), gb (nI v) 300 y = y := fun y => gb_nI (show v < 300 by omega) (by decide)
  rw [gp]
  have hL1 : PL (sg σ 31 v x) F T := pl_eq hL (fun c j _ q => sg_c (by omega))
  have hpp := hL1.2.2.2.1 v hv
  have hpp0 := hpp
  obtain ⟨kd, cc, a14, a18, a19, ak⟩ := hpp
  refine ok_bd (readSet_ok hN (by omega) a18 ak.2.1 a19) (fun r1 σ1 _ h1 => ?_)
  obtain ⟨rfl, -⟩ := h1
  refine ok_bd (writtenSet_ok hN (by omega) hpp0) (fun r2 σ2 _ h2 => ?_)
  obtain ⟨rfl, -⟩ := h2
  simp only [gp]
  have nx : ∀ y : Int32, PL (sg (sg σ 31 v x) 30 v y) F T := fun y => pl_eq hL1 (fun c j _ q => sg_c (by omega))
  exact ok_if (fun _ => ok_if (fun _ => hR _ 0 (Or.inl rfl) (nx _)) (fun _ => hR _ 1 (Or.inr rfl) (nx _))) (fun _ => hR _ 1 (Or.inr rfl) (nx _))
theorem dn_eq (m : Nat) : nI m + (-1) = nI m - 1 := (Int32.sub_eq_add_neg (nI m) 1).symm
theorem dn_lt {m : Nat} (h : m < 2147483648) : (nI m - 1 < 0) = (m = 0) := by
  by_cases e : m = 0
  · subst e
    exact propext ⟨fun _ => rfl, fun _ => by decide⟩
  · have e1 : nI m - 1 = nI (m - 1) := sb_nl (k := 1) (show 1 ≤ m by omega)
    rw [e1]
    exact propext ⟨fun q => absurd q (nI_pos (by omega)), fun q => absurd q e⟩
theorem grow_loop {N n : Nat} (hN : 1000 ≤ N) {F T : Nat} {K : Sg → Int32 → Int32 → Option (Int32 × Sg)} {P : Int32 × Sg → Prop} (hK : ∀ (σ : Sg) (g x : Int32), (g = 0 ∨ g = 1) → PL σ F T → Ok (K σ g x) P) :
    ∀ (k m : Nat) (σ : Sg) (g : Int32), m ≤ T → m < k → (g = 0 ∨ g = 1) → PL σ F T → Ok (lf_X3_growBackwards_9 N n K k σ g (nI m - 1)) P := by
  intro k
  induction k with
  | zero => intro m σ g h1 h2; omega
  | succ k ih =>
    intro m σ g h1 h2 hg hL
    have hT := hL.2.2.1
    show Ok (lb_X3_growBackwards_9 N n K (lf_X3_growBackwards_9 N n K k) σ g (nI m - 1)) P
    unfold lb_X3_growBackwards_9
    refine ok_if (fun _ => hK σ g _ hg hL) (fun c => ?_)
    rw [dn_lt (by omega)] at c
    obtain ⟨v, rfl⟩ : ∃ v, m = v + 1 := ⟨m - 1, by omega⟩
    have e1 : nI (v + 1) - 1 = nI v := (sb_nl (k := 1) (show 1 ≤ v + 1 by omega)).trans (congrArg nI (show v + 1 - 1 = v by omega))
    rw [e1, ix_nI (k := v) (by omega)]
    have hR : ∀ (σ1 : Sg) (g : Int32), (g = 0 ∨ g = 1) → PL σ1 F T → Ok (lf_X3_growBackwards_9 N n K k σ1 g (nI v + (-1))) P := fun σ1 g a b => by
      rw [dn_eq]
      exact ih v σ1 g (by omega) (by omega) a b
    have hpp := hL.2.2.2.1 v (by omega)
    obtain ⟨kd, cc, a14, a18, a19, ak⟩ := hpp
    have hkd := pk_k ak
    refine ok_bd (goesToNext_ok hL (by omega)) (fun r σ1 _ hr => ?_)
    obtain ⟨rfl, hr⟩ := hr
    have hgo : ¬ (if kd = 4 ∨ kd = 5 then (1 : Int32) else 0) = 0 → Bl (σ1 16 v) 300 := fun z => by
      obtain ⟨y, gy, ey⟩ := ak.2.2.2.2.1 (Classical.byContradiction fun q => z (if_neg q))
      exact ⟨y, by have : y < T := gy; omega, ey⟩
    refine ok_if (fun _ => ?_) (fun z => ?_)
    · rw [jumps_eq (by omega) a14 (by omega), bd_s]
      refine ok_if (fun _ => ?_) (fun z2 => ?_)
      · exact grow_tail hN hL (by omega) (R := fun σ1 g => lf_X3_growBackwards_9 N n K k σ1 g (nI v + (-1))) hR _ (fun a b => a ||| (0 &&& (b ^^^ (-1)))) g
      · rw [gb_nI (show v < 300 by omega) (by decide), bl_gb (hgo z2) (by decide)]
        exact grow_tail hN hL (by omega) (R := fun σ1 g => lf_X3_growBackwards_9 N n K k σ1 g (nI v + (-1))) hR _ (fun a b => a ||| ((0 ||| (σ1 30 (ix (σ1 16 v)))) &&& (b ^^^ (-1)))) g
    · have hr : v + 1 < T := hr.resolve_left z
      rw [ad_nl v 1, gb_nI (show v + 1 < 300 by omega) (by decide), jumps_eq (by omega) a14 (by omega), bd_s]
      refine ok_if (fun _ => ?_) (fun z2 => ?_)
      · exact grow_tail hN hL (by omega) (R := fun σ1 g => lf_X3_growBackwards_9 N n K k σ1 g (nI v + (-1))) hR _ (fun a b => a ||| ((σ1 30 (ix (nI (v + OfNat.ofNat 1)))) &&& (b ^^^ (-1)))) g
      · rw [gb_nI (show v < 300 by omega) (by decide), bl_gb (hgo z2) (by decide)]
        exact grow_tail hN hL (by omega) (R := fun σ1 g => lf_X3_growBackwards_9 N n K k σ1 g (nI v + (-1))) hR _ (fun a b => a ||| (((σ1 30 (ix (nI (v + OfNat.ofNat 1)))) ||| (σ1 30 (ix (σ1 16 v)))) &&& (b ^^^ (-1)))) g
theorem grow_ok {N n : Nat} (hN : 1000 ≤ N) {σ : Sg} {F T : Nat} (hL : PL σ F T) : Ok (f_X3_growBackwards N n σ) (fun y => PL y.2 F T) := by
  have hT := hL.2.2.1
  unfold f_X3_growBackwards
  rw [hL.1]
  exact grow_loop hN (fun σ1 g x hg h => ok_g01 hg (ok_ret h)) N T σ 0 (Nat.le_refl _) (by omega) (Or.inl rfl) hL
theorem find_loop {N n : Nat} (hN : 1000 ≤ N) {F T m : Nat} (hm : m < 100000) :
    ∀ (k v : Nat) (σ : Sg), v ≤ m → m < v + k → PL σ F T → Ok (lf_X3_find_20 N n (nI m) (fun σ9 _ => some (0, σ9)) k σ (nI v)) (fun y => PL y.2 F T) := by
  intro k
  induction k with
  | zero => intro v σ h1 h2; omega
  | succ k ih =>
    intro v σ h1 h2 hL
    show Ok (lb_X3_find_20 N n (nI m) _ (lf_X3_find_20 N n (nI m) _ k) σ (nI v)) _
    unfold lb_X3_find_20
    refine ok_if (fun _ => ok_ret hL) (fun c => ?_)
    rw [le_nn (by omega) (by omega)] at c
    refine ok_bd (grow_ok hN hL) (fun r σ1 _ h1 => ok_if (fun _ => ok_ret h1) (fun _ => ?_))
    rw [ad_nl v 1]
    exact ih (v + 1) σ1 (by omega) (by omega) h1
theorem find_ok {N n : Nat} (hN : 100000 ≤ N) {σ : Sg} {F T : Nat} (hL : PL σ F T) : Ok (f_X3_find N n σ) (fun y => PL y.2 F T) := by
  have hT := hL.2.2.1
  unfold f_X3_find
  refine ok_bd (fill30_ok (by omega) 0) (fun r σ1 _ h1 => ?_)
  have hL1 : PL σ1 F T := pl_eq hL (fun c j _ q => h1.1 c j (by omega))
  rw [hL1.1, ml_nl T 22, ad_nl (T * OfNat.ofNat 22) 1]
  exact find_loop (by omega) (m := T * 22 + 1) (by omega) N 0 σ1 (by omega) (by omega) hL1
theorem useless_ok {N n : Nat} {σ : Sg} {F p : Nat} {Gp : Nat → Prop} (hp : p < 300) (h : Pp σ F Gp p) : Ok (f_X5_isUseless N n σ (nI p)) (fun y => y.2 = σ ∧ ((σ 14 p = nI 4 ∨ σ 14 p = nI 6) → y.1 = 0)) := by
  have gp : ∀ y : Option (Int32 × Sg), gb (nI p) 300 y = y := fun y => gb_nI hp (by decide)
  have g0 : ∀ y : Option (Int32 × Sg), gb 0 6 y = y := fun y => gb_nI (k := 0) (by decide) (by decide)
  unfold f_X5_isUseless
  simp only [gp, g0]
  rw [ix_nI (k := p) (by omega)]
  have no : σ 14 p = 0 ∨ σ 14 p = 1 → ¬ (σ 14 p = nI 4 ∨ σ 14 p = nI 6) := by
    rintro (a | a) (b | b) <;> exact absurd (a.symm.trans b) (by decide)
  refine ok_if (fun c => ?_) (fun c => ok_if (fun c2 => ?_) (fun _ => ok_ret ⟨rfl, fun _ => rfl⟩))
  · have hn := no (Or.inl c)
    exact ok_if (fun _ => ok_if (fun _ => ok_ret ⟨rfl, fun q => absurd q hn⟩) (fun _ => ok_if (fun _ => ok_ret ⟨rfl, fun q => absurd q hn⟩) (fun _ => ok_ret ⟨rfl, fun _ => rfl⟩))) (fun _ => ok_if (fun _ => ok_ret ⟨rfl, fun q => absurd q hn⟩) (fun _ => ok_ret ⟨rfl, fun _ => rfl⟩))
  · have hn := no (Or.inr c2)
    exact ok_if (fun _ => ok_ret ⟨rfl, fun q => absurd q hn⟩) (fun _ => ok_if (fun _ => ok_ret ⟨rfl, fun q => absurd q hn⟩) (fun _ => ok_ret ⟨rfl, fun _ => rfl⟩))
theorem copy_loop {N n : Nat} {σa : Sg} {v w c : Nat} (hv : v < 300) (hw : w < 300) (hc : c ≤ 6) (h18 : σa 18 v = nI c) :
    ∀ (k t : Nat) (σ : Sg), t ≤ c → c < t + k → (∀ d j, d ≠ 19 → σ d j = σa d j) → (∀ p i, p ≠ w → i < 6 → σ 19 (p * 6 + i) = σa 19 (p * 6 + i)) → (∀ i, i < t → Bl (σ 19 (w * 6 + i)) 22) → (∀ i, i < c → Bl (σ 19 (v * 6 + i)) 22) →
      Ok (lf_X5_copyPlace_62 N n (nI v) (nI w) (fun σ17 _ => some (0, σ17)) k σ (nI t)) (fun y => (∀ d j, d ≠ 19 → y.2 d j = σa d j) ∧ (∀ p i, p ≠ w → i < 6 → y.2 19 (p * 6 + i) = σa 19 (p * 6 + i)) ∧ ∀ i, i < c → Bl (y.2 19 (w * 6 + i)) 22) := by
  intro k
  induction k with
  | zero => intro t σ h1 h2; omega
  | succ k ih =>
    intro t σ h1 h2 hs ho ht hb
    show Ok (lb_X5_copyPlace_62 N n (nI v) (nI w) _ (lf_X5_copyPlace_62 N n (nI v) (nI w) _ k) σ (nI t)) _
    unfold lb_X5_copyPlace_62
    rw [gb_nI hv (by decide), ix_nI (k := v) (by omega), (hs 18 v (by decide)).trans h18]
    refine ok_if (fun q => ?_) (fun q => ?_)
    · rw [le_nn (by omega) (by omega)] at q
      exact ok_ret ⟨hs, ho, fun i hi => ht i (by omega)⟩
    · rw [le_nn (by omega) (by omega)] at q
      rw [gb_nI (show t < 6 by omega) (by decide), gb_nI (show t < 6 by omega) (by decide), gb_nI hv (by decide), gb_nI hw (by decide), ix_nI (k := t) (by omega), ix_nI (k := w) (by omega), ad_nl t 1]
      have hx := hb t (by omega)
      refine ih (t + 1) _ (by omega) (by omega) (fun d j q => (sg_c q).trans (hs d j q)) (fun p i q1 q2 => ?_) (fun i hi => ?_) (fun i hi => ?_)
      · rw [sg_ne (by omega)]; exact ho p i q1 q2
      · rw [sg_if]
        by_cases e : w * 6 + i = w * 6 + t
        · rw [if_pos e]; exact hx
        · rw [if_neg e]; exact ht i (by omega)
      · rw [sg_if]
        by_cases e : v * 6 + i = w * 6 + t
        · rw [if_pos e]; exact hx
        · rw [if_neg e]; exact hb i hi
theorem copyPlace_ok {N n : Nat} (hN : 1000 ≤ N) {σ : Sg} {F v w : Nat} {Gp : Nat → Prop} (hv : v < 300) (hw : w < 300) (h : Pp σ F Gp v) :
    Ok (f_X5_copyPlace N n σ (nI v) (nI w)) (fun y => Pp y.2 F Gp w ∧ y.2 14 w = σ 14 v ∧ (∀ p, p ≠ w → Pp σ F Gp p → Pp y.2 F Gp p) ∧ (∀ p, p ≠ w → y.2 14 p = σ 14 p) ∧ (∀ d j, (d < 14 ∨ 19 < d) → y.2 d j = σ d j)) := by
  have gp : ∀ y : Option (Int32 × Sg), gb (nI v) 300 y = y := fun y => gb_nI hv (by decide)
  have gq : ∀ y : Option (Int32 × Sg), gb (nI w) 300 y = y := fun y => gb_nI hw (by decide)
  obtain ⟨kd, cc, a14, a18, a19, ak⟩ := h
  unfold f_X5_copyPlace
  simp only [gp, gq]
  rw [ix_nI (k := v) (by omega), ix_nI (k := w) (by omega)]
  have := ak.2.1
  refine ok_mono (copy_loop (σa := sg (sg (sg (sg (sg σ 14 w (σ 14 v)) 15 w (σ 15 v)) 16 w (σ 16 v)) 17 w (σ 17 v)) 18 w (σ 18 v)) hv hw ak.2.1 ?_ N 0 _ (by omega) (by omega) (fun _ _ _ => rfl) (fun _ _ _ _ => rfl) (fun i hi => by omega) (fun i hi => ?_)) (fun y hy => ?_)
  · rw [sg_if]
    by_cases e : v = w
    · rw [if_pos e]; exact a18
    · rw [if_neg e]
      simp (disch := decide) only [sg_c]; exact a18
  · simp (disch := decide) only [sg_c]; exact a19 i hi
  · obtain ⟨hs, ho, hb⟩ := hy
    have e14 : y.2 14 w = σ 14 v := by
      rw [hs 14 w (by decide)]; simp (disch := decide) only [sg_c, sg_at]
    refine ⟨⟨kd, cc, e14.trans a14, ?_, hb, ?_⟩, e14, fun p hp hpp => ?_, fun p hp => ?_, fun d j q => ?_⟩
    · rw [hs 18 w (by decide)]; simp (disch := decide) only [sg_c, sg_at]; exact a18
    · rw [hs 17 w (by decide), hs 16 w (by decide), hs 15 w (by decide)]
      simp (disch := decide) only [sg_c, sg_at]; exact ak
    · refine pp_same hpp ?_ ?_ ?_ ?_ ?_ (fun i hi => ?_)
      · rw [hs 14 p (by decide), sg_o (Or.inr hp), sg_o (Or.inr hp), sg_o (Or.inr hp), sg_o (Or.inr hp), sg_o (Or.inr hp)]
      · rw [hs 15 p (by decide), sg_o (Or.inr hp), sg_o (Or.inr hp), sg_o (Or.inr hp), sg_o (Or.inr hp), sg_o (Or.inr hp)]
      · rw [hs 16 p (by decide), sg_o (Or.inr hp), sg_o (Or.inr hp), sg_o (Or.inr hp), sg_o (Or.inr hp), sg_o (Or.inr hp)]
      · rw [hs 17 p (by decide), sg_o (Or.inr hp), sg_o (Or.inr hp), sg_o (Or.inr hp), sg_o (Or.inr hp), sg_o (Or.inr hp)]
      · rw [hs 18 p (by decide), sg_o (Or.inr hp), sg_o (Or.inr hp), sg_o (Or.inr hp), sg_o (Or.inr hp), sg_o (Or.inr hp)]
      · rw [ho p i hp hi]; simp (disch := decide) only [sg_c]
    · rw [hs 14 p (by decide), sg_o (Or.inr hp), sg_o (Or.inr hp), sg_o (Or.inr hp), sg_o (Or.inr hp), sg_o (Or.inr hp)]
    · rw [hs d j (by omega), sg_c (by omega), sg_c (by omega), sg_c (by omega), sg_c (by omega), sg_c (by omega)]
/-- while useless places are dropped: v gone through, w kept -/
def DU (σ : Sg) (F T v w : Nat) : Prop :=
  σ 13 6 = nI T ∧ 0 < T ∧ T ≤ 300 ∧ w ≤ v ∧ v ≤ T ∧ (∀ p, p < w → Pp σ F (fun y => y < T) p) ∧ (∀ p, v ≤ p → p < T → Pp σ F (fun y => y < T) p) ∧ (∀ u, u < v → ∃ t, σ 26 u = nI t ∧ t ≤ w ∧ (v = T → t < w)) ∧
  (v < T → σ 14 (T - 1) = nI 4 ∨ σ 14 (T - 1) = nI 6) ∧ (v = T → 0 < w ∧ (σ 14 (w - 1) = nI 4 ∨ σ 14 (w - 1) = nI 6))
theorem du_loop {N n : Nat} (hN : 1000 ≤ N) {F T : Nat} {K : Sg → Int32 → Int32 → Option (Int32 × Sg)} {P : Int32 × Sg → Prop} (hK : ∀ (σ : Sg) (w : Nat) (x : Int32), DU σ F T T w → Ok (K σ (nI w) x) P) :
    ∀ (k v w : Nat) (σ : Sg), T < v + k → DU σ F T v w → Ok (lf_X5_dropUseless_4 N n K k σ (nI w) (nI v)) P := by
  intro k
  induction k with
  | zero => intro v w σ h2 hD; have := hD.2.2.2.2.1; omega
  | succ k ih =>
    intro v w σ h2 hD
    have hD0 := hD
    obtain ⟨d1, d2, d3, d4, d5, d6, d7, d8, d9, d10⟩ := hD
    show Ok (lb_X5_dropUseless_4 N n K (lf_X5_dropUseless_4 N n K k) σ (nI w) (nI v)) P
    unfold lb_X5_dropUseless_4
    rw [d1]
    refine ok_if (fun c => ?_) (fun c => ?_)
    · rw [le_nn (by omega) (by omega)] at c
      obtain rfl : v = T := by omega
      exact hK σ w _ hD0
    · rw [le_nn (by omega) (by omega)] at c
      rw [gb_nI (show v < 300 by omega) (by decide), ix_nI (k := v) (by omega), ad_nl v 1, ad_nl w 1]
      obtain ⟨σ1, e1⟩ : ∃ z, z = sg σ 26 v (nI w) := ⟨_, rfl⟩
      rw [← e1]
      have o : ∀ d j, d ≠ 26 → σ1 d j = σ d j := fun d j q => by rw [e1]; exact sg_c q
      have o26 : ∀ u, σ1 26 u = if u = v then nI w else σ 26 u := fun u => by rw [e1]; exact sg_if _ _ _ _ _
      have pps : ∀ p, Pp σ F (fun y => y < T) p → Pp σ1 F (fun y => y < T) p := fun p q => pp_same q (o _ _ (by decide)) (o _ _ (by decide)) (o _ _ (by decide)) (o _ _ (by decide)) (o _ _ (by decide)) (fun i _ => o _ _ (by decide))
      refine ok_bd (useless_ok (by omega) (pps v (d7 v (Nat.le_refl _) (by omega)))) (fun r σ2 _ h2 => ?_)
      obtain ⟨hs2, h2⟩ := h2
      have hs2 : σ2 = σ1 := hs2
      subst hs2
      refine ok_if (fun z => ?_) (fun z => ?_)
      · refine ok_bd (copyPlace_ok hN (by omega) (by omega) (pps v (d7 v (Nat.le_refl _) (by omega)))) (fun r3 σ3 _ h3 => ?_)
        obtain ⟨c1, c2, c3, c4, c5⟩ := h3
        have c2 : σ3 14 w = σ2 14 v := c2
        have c4 : ∀ p, p ≠ w → σ3 14 p = σ2 14 p := c4
        have c5 : ∀ d j, (d < 14 ∨ 19 < d) → σ3 d j = σ2 d j := c5
        refine ih (v + 1) (w + 1) σ3 (by omega) ⟨(c5 13 6 (by omega)).trans ((o _ _ (by decide)).trans d1), d2, d3, by omega, by omega, fun p hp => ?_, fun p q1 q2 => c3 p (by omega) (pps p (d7 p (by omega) q2)), fun u hu => ?_, fun q => ?_, fun q => ?_⟩
        · by_cases e : p = w
          · rw [e]; exact c1
          · exact c3 p e (pps p (d6 p (by omega)))
        · rw [c5 26 u (by omega), o26]
          by_cases e : u = v
          · rw [if_pos e]; exact ⟨w, rfl, by omega, fun _ => by omega⟩
          · rw [if_neg e]
            obtain ⟨t, t1, t2, t3⟩ := d8 u (by omega)
            exact ⟨t, t1, by omega, fun _ => by omega⟩
        · rw [c4 _ (by omega), o _ _ (by decide)]; exact d9 (by omega)
        · refine ⟨by omega, ?_⟩
          rw [show w + 1 - 1 = w by omega, c2, o _ _ (by decide), show v = T - 1 by omega]
          exact d9 (by omega)
      · have hne : v ≠ T - 1 := fun q => z (h2 (by rw [o _ _ (by decide), q]; exact d9 (by omega)))
        refine ih (v + 1) w σ2 (by omega) ⟨(o _ _ (by decide)).trans d1, d2, d3, by omega, by omega, fun p hp => pps p (d6 p hp), fun p q1 q2 => pps p (d7 p (by omega) q2), fun u hu => ?_, fun q => ?_, fun q => by omega⟩
        · rw [o26]
          by_cases e : u = v
          · rw [if_pos e]; exact ⟨w, rfl, by omega, fun _ => by omega⟩
          · rw [if_neg e]
            obtain ⟨t, t1, t2, t3⟩ := d8 u (by omega)
            exact ⟨t, t1, by omega, fun _ => by omega⟩
        · rw [o _ _ (by decide)]; exact d9 (by omega)
theorem drop_ok {N n : Nat} (hN : 1000 ≤ N) {σ : Sg} {F T : Nat} (hL : PL σ F T) : Ok (f_X5_dropUseless N n σ) (fun y => ∃ T', T' ≤ T ∧ PL y.2 F T') := by
  obtain ⟨l1, l2, l3, l4, l5⟩ := hL
  unfold f_X5_dropUseless
  have fin : ∀ (σ1 : Sg) (w : Nat), DU σ1 F T T w → Ok (f_X5_aimAnew N n (sg σ1 13 6 (nI w))) (fun y => PL y.2 F w ∧ w ≤ T) := by
    intro σ1 w hD
    obtain ⟨d1, d2, d3, d4, d5, d6, d7, d8, d9, d10⟩ := hD
    unfold f_X5_aimAnew
    refine ok_mono (aim_ok (σ0 := sg σ1 13 6 (nI w)) (F := F) (T := w) (Gq := fun y => y < T) (by omega) (fun y hy => ?_) (sg_at _ _ _ _) N 0 _ (by omega) (by omega) (fun _ _ _ => rfl) (fun p hp => by omega) (fun p _ hp => ?_)) (fun y hy => ⟨⟨(hy.1 13 6 (by decide)).trans (sg_at _ _ _ _), (d10 rfl).1, by omega, hy.2, ?_⟩, by omega⟩)
    · obtain ⟨t, t1, t2, t3⟩ := d8 y hy
      exact ⟨by have : y < T := hy; omega, t, t3 rfl, (sg_c (by decide)).trans t1⟩
    · exact pp_same (d6 p hp) (sg_c (by decide)) (sg_c (by decide)) (sg_c (by decide)) (sg_c (by decide)) (sg_c (by decide)) (fun i _ => sg_c (by decide))
    · rw [hy.1 14 _ (by decide), sg_c (by decide)]; exact (d10 rfl).2
  refine du_loop hN (fun σ1 w x hD => ?_) N 0 0 σ (by omega) ⟨l1, l2, l3, by omega, by omega, fun p hp => by omega, fun p _ hp => l4 p hp, fun u hu => by omega, fun _ => l5, fun q => by omega⟩
  exact ok_if (fun _ => ok_bd (fin σ1 w hD) (fun r σ2 _ h2 => ok_ret ⟨w, h2.2, h2.1⟩)) (fun _ => ok_bd (fin σ1 w hD) (fun r σ2 _ h2 => ok_ret ⟨w, h2.2, h2.1⟩))
theorem leaveOut_loop {N n : Nat} (hN : 100000 ≤ N) {F T0 m : Nat} (hm : m ≤ 301) :
    ∀ (k v : Nat) (σ : Sg) (T : Nat), v ≤ m → m < v + k → T ≤ T0 → PL σ F T → Ok (lf_X9_leaveOut_12 N n (nI m) (fun σ9 _ => some (0, σ9)) k σ (nI v)) (fun y => ∃ T', T' ≤ T0 ∧ PL y.2 F T') := by
  intro k
  induction k with
  | zero => intro v σ T h1 h2; omega
  | succ k ih =>
    intro v σ T h1 h2 hT hL
    show Ok (lb_X9_leaveOut_12 N n (nI m) _ (lf_X9_leaveOut_12 N n (nI m) _ k) σ (nI v)) _
    unfold lb_X9_leaveOut_12
    refine ok_if (fun _ => ok_ret ⟨T, hT, hL⟩) (fun c => ?_)
    rw [le_nn (by omega) (by omega)] at c
    refine ok_bd (find_ok hN hL) (fun r σ1 _ h1 => ok_bd (drop_ok (by omega) h1) (fun r2 σ2 _ h2 => ?_))
    obtain ⟨T2, t1, t2⟩ := h2
    rw [ad_nl v 1]
    exact ok_if (fun _ => ok_ret ⟨T2, by omega, t2⟩) (fun _ => ih (v + 1) σ2 T2 (by omega) (by omega) (by omega) t2)
theorem leaveOut_ok {N n : Nat} (hN : 100000 ≤ N) {σ : Sg} {F T : Nat} (hL : PL σ F T) : Ok (f_X9_leaveOut N n σ) (fun y => ∃ T', T' ≤ T ∧ PL y.2 F T') := by
  have hT := hL.2.2.1
  unfold f_X9_leaveOut
  rw [hL.1, ad_nl T 1]
  exact leaveOut_loop hN (m := T + 1) (by omega) N 0 σ T (by omega) (by omega) (Nat.le_refl _) hL
