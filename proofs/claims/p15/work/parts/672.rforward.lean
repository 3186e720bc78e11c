def COr (σ : Sg) : Prop := ∀ v, v < 24 → σ 75 v = (-1) ∨ Bl (σ 75 v) 22
theorem ql_fw {σ σ' : Sg} {F T : Nat} (h : QL σ F T) (hs : ∀ c j, c ≠ 70 → c ≠ 74 → c ≠ 75 → σ' c j = σ c j) (h70 : ∀ j, Bl (σ 70 j) 22 → Bl (σ' 70 j) 22) : QL σ' F T := by
  obtain ⟨h1, h2, h3, h4, h5⟩ := h
  refine ⟨(hs 59 12 (by decide) (by decide) (by decide)).trans h1, h2, h3, fun p hp => ?_, ?_⟩
  · obtain ⟨k, c, a68, a71, a70, ak⟩ := h4 p hp
    refine ⟨k, c, (hs _ _ (by decide) (by decide) (by decide)).trans a68, (hs _ _ (by decide) (by decide) (by decide)).trans a71, fun i hi => h70 _ (a70 i hi), ?_⟩
    rw [hs 69 p (by decide) (by decide) (by decide)]
    exact ak
  · rw [hs 68 _ (by decide) (by decide) (by decide)]; exact h5
theorem ql_75 {σ : Sg} {F T i : Nat} {x : Int32} (h : QL σ F T) : QL (sg σ 75 i x) F T := ql_fw h (fun c j _ _ q => sg_c q) (fun j q => by rw [sg_c (by decide)]; exact q)
theorem ql_74 {σ : Sg} {F T i : Nat} {x : Int32} (h : QL σ F T) : QL (sg σ 74 i x) F T := ql_fw h (fun c j _ q _ => sg_c q) (fun j q => by rw [sg_c (by decide)]; exact q)
theorem co_74 {σ : Sg} {i : Nat} {x : Int32} (h : COr σ) : COr (sg σ 74 i x) := fun v hv => by rw [sg_c (by decide)]; exact h v hv
theorem co_75 {σ : Sg} {i : Nat} {x : Int32} (h : COr σ) (hx : x = (-1) ∨ Bl x 22) : COr (sg σ 75 i x) := fun v hv => by
  rw [sg_if]
  by_cases e : v = i
  · rw [if_pos e]; exact hx
  · rw [if_neg e]; exact h v hv
theorem fw2_loop {N n : Nat} {F T : Nat} {K : Sg → Int32 → Option (Int32 × Sg)} {P : Int32 × Sg → Prop} (hK : ∀ (σ : Sg) (x : Int32), QL σ F T → COr σ → Ok (K σ x) P) :
    ∀ (k v : Nat) (σ : Sg), v ≤ T + 1 → T + 1 < v + k → QL σ F T → COr σ → Ok (lf_X12_forwards_2 N n K k σ (nI v)) P := by
  intro k
  induction k with
  | zero => intro v σ h1 h2; omega
  | succ k ih =>
    intro v σ h1 h2 hL hC
    have hT := hL.2.2.1
    show Ok (lb_X12_forwards_2 N n K (lf_X12_forwards_2 N n K k) σ (nI v)) P
    unfold lb_X12_forwards_2
    rw [hL.1]
    refine ok_if (fun _ => hK σ _ hL hC) (fun c => ?_)
    rw [lt_nn (by omega) (by omega)] at c
    rw [ad_nl v 1, gb_nI (show v < 301 by omega) (by decide), gb_nI (show v < 301 by omega) (by decide)]
    exact ok_if (fun _ => ih (v + 1) _ (by omega) (by omega) (ql_74 hL) (co_74 hC)) (fun _ => ih (v + 1) _ (by omega) (by omega) (ql_74 hL) (co_74 hC))
theorem fw33_loop {N n : Nat} {F T : Nat} {K : Sg → Int32 → Option (Int32 × Sg)} {P : Int32 × Sg → Prop} (hK : ∀ (σ : Sg) (x : Int32), QL σ F T → COr σ → Ok (K σ x) P) :
    ∀ (k v : Nat) (σ : Sg), v ≤ T → T < v + k → QL σ F T → COr σ → Ok (lf_X12_forwards_33 N n K k σ (nI v)) P := by
  intro k
  induction k with
  | zero => intro v σ h1 h2; omega
  | succ k ih =>
    intro v σ h1 h2 hL hC
    have hT := hL.2.2.1
    show Ok (lb_X12_forwards_33 N n K (lf_X12_forwards_33 N n K k) σ (nI v)) P
    unfold lb_X12_forwards_33
    rw [hL.1]
    refine ok_if (fun _ => hK σ _ hL hC) (fun c => ?_)
    rw [le_nn (by omega) (by omega)] at c
    obtain ⟨kd, cc, a68, a71, a70, ak⟩ := hL.2.2.2.1 v (by omega)
    have hkd := qk_k ak
    have gv : ∀ y : Option (Int32 × Sg), gb (nI v) 300 y = y := fun y => gb_nI (show v < 300 by omega) (by decide)
    have gv1 : ∀ y : Option (Int32 × Sg), gb (nI (v + 1)) 301 y = y := fun y => gb_nI (show v + 1 < 301 by omega) (by decide)
    have ev : nI v + 1 = nI (v + 1) := ad_nl v 1
    rw [ev]
    simp only [gv, gv1]
    rw [ix_nI (k := v) (by omega), a68, isJump_eq (by omega), bd_s]
    have n1 : ∀ σ1, QL σ1 F T → COr σ1 → Ok (lf_X12_forwards_33 N n K k (sg σ1 74 (ix (nI (v + 1))) 1) (nI (v + 1))) P := fun σ1 a b => ih (v + 1) _ (by omega) (by omega) (ql_74 a) (co_74 b)
    refine ok_if (fun _ => ?_) (fun z => ?_)
    · rw [a68, isJump_eq (by omega), bd_s, a68]
      exact ok_if (fun _ => ok_if (fun _ => n1 σ hL hC) (fun _ => ih (v + 1) σ (by omega) (by omega) hL hC)) (fun _ => n1 σ hL hC)
    · have hj : kd = 4 ∨ kd = 5 := Classical.byContradiction fun q => z (if_neg q)
      obtain ⟨y, gy, ey⟩ := ak.2.2.2.2.2.1 hj
      have gy : y < T := gy
      rw [ey, gb_nI (show y < 301 by omega) (by decide), ix_nI (k := y) (by omega), a68, isJump_eq (by omega), bd_s]
      exact ok_if (fun _ => ok_if (fun _ => n1 _ (ql_74 hL) (co_74 hC)) (fun _ => ih (v + 1) _ (by omega) (by omega) (ql_74 hL) (co_74 hC))) (fun _ => n1 _ (ql_74 hL) (co_74 hC))
theorem fw124_loop {N n : Nat} {F T : Nat} {u : Int32} {K : Sg → Int32 → Option (Int32 × Sg)} {P : Int32 × Sg → Prop} (hK : ∀ (σ : Sg) (x : Int32), QL σ F T → COr σ → Ok (K σ x) P) :
    ∀ (k v : Nat) (σ : Sg), v ≤ 24 → 24 < v + k → QL σ F T → COr σ → Ok (lf_X12_forwards_124 N n u K k σ (nI v)) P := by
  intro k
  induction k with
  | zero => intro v σ h1 h2; omega
  | succ k ih =>
    intro v σ h1 h2 hL hC
    show Ok (lb_X12_forwards_124 N n u K (lf_X12_forwards_124 N n u K k) σ (nI v)) P
    unfold lb_X12_forwards_124
    have e0 : ((24 : Int32) ≤ nI v) = (24 ≤ v) := le_ln (k := 24) (by omega) (by decide)
    refine ok_if (fun _ => hK σ _ hL hC) (fun c => ?_)
    rw [e0] at c
    rw [ad_nl v 1, gb_nI (show v < 24 by omega) (by decide)]
    exact ih (v + 1) _ (by omega) (by omega) (ql_75 hL) (co_75 hC (Or.inl rfl))
theorem forgets_loop {N n : Nat} {F T : Nat} {u : Int32} :
    ∀ (k v : Nat) (σ : Sg), v ≤ 24 → 24 < v + k → QL σ F T → COr σ → Ok (lf_X12_forgets_9 N n u (fun σ8 _ => some (0, σ8)) k σ (nI v)) (fun y => QL y.2 F T ∧ COr y.2) := by
  intro k
  induction k with
  | zero => intro v σ h1 h2; omega
  | succ k ih =>
    intro v σ h1 h2 hL hC
    show Ok (lb_X12_forgets_9 N n u _ (lf_X12_forgets_9 N n u _ k) σ (nI v)) _
    unfold lb_X12_forgets_9
    have e0 : ((24 : Int32) ≤ nI v) = (24 ≤ v) := le_ln (k := 24) (by omega) (by decide)
    refine ok_if (fun _ => ok_ret ⟨hL, hC⟩) (fun c => ?_)
    rw [e0] at c
    have gv : ∀ y : Option (Int32 × Sg), gb (nI v) 24 y = y := fun y => gb_nI (show v < 24 by omega) (by decide)
    simp only [gv]
    rw [ad_nl v 1, ix_nI (k := v) (by omega)]
    exact ok_if (fun _ => ih (v + 1) _ (by omega) (by omega) (ql_75 hL) (co_75 hC (Or.inl rfl))) (fun _ => ih (v + 1) _ (by omega) (by omega) (ql_75 hL) (co_75 hC (hC v (by omega))))
theorem forgets_ok {N n : Nat} (hN : 1000 ≤ N) {σ : Sg} {F T : Nat} (hL : QL σ F T) (hC : COr σ) {x : Int32} (hx : Bl x 22) : Ok (f_X12_forgets N n σ x) (fun y => QL y.2 F T ∧ COr y.2) := by
  unfold f_X12_forgets
  rw [bl_gb (bl_le hx (show 22 ≤ 24 by omega)) (by decide)]
  exact forgets_loop N 0 _ (by omega) (by omega) (ql_75 hL) (co_75 hC (Or.inl rfl))
theorem fw20_loop {N n : Nat} {F T p : Nat} {u : Int32} {σ0 : Sg} (hpT : p < T) {K : Sg → Int32 → Option (Int32 × Sg)} {P : Int32 × Sg → Prop} (hK : ∀ (σ : Sg) (x : Int32), QL σ F T → COr σ → (∀ c j, c ≠ 70 → σ c j = σ0 c j) → Ok (K σ x) P) :
    ∀ (k v : Nat) (σ : Sg), v ≤ 8 → 8 < v + k → QL σ F T → COr σ → (∀ c j, c ≠ 70 → σ c j = σ0 c j) → Ok (lf_X12_forward_20 N n (nI p) u K k σ (nI v)) P := by
  intro k
  induction k with
  | zero => intro v σ h1 h2; omega
  | succ k ih =>
    intro v σ h1 h2 hL hC hs
    have hT := hL.2.2.1
    obtain ⟨kd, cc, a68, a71, a70, ak⟩ := hL.2.2.2.1 p hpT
    have hcc := ak.2.1
    show Ok (lb_X12_forward_20 N n (nI p) u K (lf_X12_forward_20 N n (nI p) u K k) σ (nI v)) P
    unfold lb_X12_forward_20
    rw [gb_nI (show p < 300 by omega) (by decide), ix_nI (k := p) (by omega), a71]
    refine ok_if (fun _ => hK σ _ hL hC hs) (fun q => ok_if (fun _ => hK σ _ hL hC hs) (fun _ => ?_))
    rw [le_nn (by omega) (by omega)] at q
    obtain ⟨x, hx, ex⟩ := a70 v (by omega)
    rw [ml_ln p 8, ad_nn, ad_nl v 1]
    have e8 : OfNat.ofNat 8 * p + v = 8 * p + v := rfl
    rw [e8, ix_nI (k := 8 * p + v) (by omega), ex, gb_nI (show 8 * p + v < 2400 by omega) (by decide), gb_nI (show x < 24 by omega) (by decide), ix_nI (k := x) (by omega)]
    have upd : ∀ z : Int32, Bl z 22 → Ok (lf_X12_forward_20 N n (nI p) u K k (sg σ 70 (8 * p + v) z) (nI (v + 1))) P := fun z hz => by
      refine ih (v + 1) _ (by omega) (by omega) (ql_fw hL (fun c j a _ _ => sg_c a) (fun j a => ?_)) (fun w hw => by rw [sg_c (by decide)]; exact hC w hw) (fun c j a => (sg_c a).trans (hs c j a))
      rw [sg_if]
      by_cases e : j = 8 * p + v
      · rw [if_pos e]; exact hz
      · rw [if_neg e]; exact a
    refine ok_if (fun _ => ?_) (fun z => ?_)
    · rw [gb_nI (show 8 * p + v < 2400 by omega) (by decide)]
      exact upd _ (bl_n hx)
    · rw [gb_nI (show x < 24 by omega) (by decide), gb_nI (show 8 * p + v < 2400 by omega) (by decide)]
      refine upd _ ((hC x (by omega)).resolve_left (fun e => z (by rw [e]; decide)))
theorem rforward_ok {N n : Nat} (hN : 1000 ≤ N) {σ : Sg} {F T p : Nat} (hpT : p < T) (hL : QL σ F T) (hC : COr σ) : Ok (f_X12_forward N n σ (nI p)) (fun y => QL y.2 F T ∧ COr y.2) := by
  have hT := hL.2.2.1
  obtain ⟨kd, cc, a68, a71, a70, ak⟩ := hL.2.2.2.1 p hpT
  have hkd := qk_k ak
  have e8 : (8 : Int32) * nI p = nI (8 * p) := ml_ln p 8
  have e81 : nI (8 * p) + 1 = nI (8 * p + 1) := ad_nl (8 * p) 1
  have gp : ∀ y : Option (Int32 × Sg), gb (nI p) 300 y = y := fun y => gb_nI (show p < 300 by omega) (by decide)
  have g8 : ∀ y : Option (Int32 × Sg), gb (nI (8 * p)) 2400 y = y := fun y => gb_nI (show 8 * p < 2400 by omega) (by decide)
  have g81 : ∀ y : Option (Int32 × Sg), gb (nI (8 * p + 1)) 2400 y = y := fun y => gb_nI (show 8 * p + 1 < 2400 by omega) (by decide)
  have i8 : ix (nI (8 * p)) = 8 * p := ix_nI (by omega)
  have i81 : ix (nI (8 * p + 1)) = 8 * p + 1 := ix_nI (by omega)
  have ip : ix (nI p) = p := ix_nI (by omega)
  have kn : ∀ m, m < 2147483648 → (nI kd = nI m ↔ kd = m) := fun m hm => nI_eq (by omega) hm
  unfold f_X12_forward
  simp only [gp, e8, e81, g8, g81, i8, i81, ip, a68]
  by_cases hw : kd = 0 ∨ kd = 1 ∨ kd = 2 ∨ kd = 7 ∨ kd = 13
  · have we : ∀ σ : Sg, f_X12_writes N n σ (nI kd) = some (1, σ) := fun σ => by
      unfold f_X12_writes
      rcases hw with rfl | rfl | rfl | rfl | rfl <;> rfl
    have n3 : (nI kd = 3) = False := eq_false (fun q => by have := (kn 3 (by decide)).mp q; omega)
    have z10 : ((1 : Int32) = 0) = False := eq_false (by decide)
    simp only [we, bd_s, z10, n3, if_false]
    refine fw20_loop (σ0 := σ) hpT (fun σ1 x h1 c1 hs => ?_) N 1 σ (by omega) (by omega) hL hC (fun _ _ _ => rfl)
    obtain ⟨k2, c2, b68, b71, b70, bk⟩ := h1.2.2.2.1 p hpT
    have ek : k2 = kd := (nI_eq (by have := qk_k bk; omega) (by omega)).mp (b68.symm.trans ((hs 68 p (by decide)).trans a68))
    subst ek
    have hk0 : 1 ≤ c2 := by
      have d1 := bk.2.2.1
      have d2 := bk.2.2.2.1
      have d3 := bk.2.2.2.2.1
      omega
    have hb0 : Bl (σ1 70 (8 * p)) 22 := b70 0 hk0
    refine ok_bd (forgets_ok hN h1 c1 hb0) (fun r σ2 e h2 => ?_)
    obtain ⟨h2, c2'⟩ := h2
    have h2 : QL σ2 F T := h2
    have c2' : COr σ2 := c2'
    have f70 : ∀ j, σ2 70 j = σ1 70 j := fun j => fr_X12_forgets rfl e
    refine ok_if (fun q => ok_if (fun _ => ok_ret ⟨h2, c2'⟩) (fun _ => ?_)) (fun _ => ok_ret ⟨h2, c2'⟩)
    have hk1 : 2 ≤ c2 := by
      have d2 := bk.2.2.2.1
      have := (kn 1 (by decide)).mp q
      omega
    rw [f70, f70, bl_gb (bl_le hb0 (show 22 ≤ 24 by omega)) (by decide)]
    exact ok_ret ⟨ql_75 h2, co_75 c2' (Or.inr (b70 1 hk1))⟩
  · have we : ∀ σ : Sg, f_X12_writes N n σ (nI kd) = some (0, σ) := fun σ => by
      unfold f_X12_writes
      rw [if_neg (fun q => by have := (kn 0 (by decide)).mp q; omega), if_neg (fun q => by have := (kn 1 (by decide)).mp q; omega), if_neg (fun q => by have := (kn 2 (by decide)).mp q; omega), if_neg (fun q => by have := (kn 7 (by decide)).mp q; omega), if_neg (fun q => by have := (kn 13 (by decide)).mp q; omega)]
    have n1 : (nI kd = 1) = False := eq_false (fun q => by have := (kn 1 (by decide)).mp q; omega)
    have z00 : ((0 : Int32) = 0) = True := eq_true rfl
    simp only [we, bd_s, z00, n1, if_false, if_true]
    refine fw20_loop (σ0 := σ) hpT (fun σ1 x h1 c1 hs => ?_) N 0 σ (by omega) (by omega) hL hC (fun _ _ _ => rfl)
    refine ok_if (fun q => ?_) (fun _ => ok_ret ⟨h1, c1⟩)
    obtain ⟨k2, c2, b68, b71, b70, bk⟩ := h1.2.2.2.1 p hpT
    have ek : k2 = kd := (nI_eq (by have := qk_k bk; omega) (by omega)).mp (b68.symm.trans ((hs 68 p (by decide)).trans a68))
    subst ek
    have hk1 : 2 ≤ c2 := by
      have d2 := bk.2.2.2.1
      have := (kn 3 (by decide)).mp q
      omega
    refine ok_bd (forgets_ok hN h1 c1 (b70 0 (by omega))) (fun r σ2 e h2 => ?_)
    have f70 : ∀ j, σ2 70 j = σ1 70 j := fun j => fr_X12_forgets rfl e
    rw [f70]
    exact ok_bd (forgets_ok hN h2.1 h2.2 (b70 1 hk1)) (fun r3 σ3 _ h3 => ok_ret h3)
theorem fw105_loop {N n : Nat} (hN : 1000 ≤ N) {F T : Nat} :
    ∀ (k v : Nat) (σ : Sg), v ≤ T → T < v + k → QL σ F T → COr σ → Ok (lf_X12_forwards_105 N n (fun σ48 _ => some (0, σ48)) k σ (nI v)) (fun y => QL y.2 F T ∧ COr y.2) := by
  intro k
  induction k with
  | zero => intro v σ h1 h2; omega
  | succ k ih =>
    intro v σ h1 h2 hL hC
    have hT := hL.2.2.1
    show Ok (lb_X12_forwards_105 N n _ (lf_X12_forwards_105 N n _ k) σ (nI v)) _
    unfold lb_X12_forwards_105
    rw [hL.1]
    refine ok_if (fun _ => ok_ret ⟨hL, hC⟩) (fun c => ?_)
    rw [le_nn (by omega) (by omega)] at c
    rw [gb_nI (show v < 301 by omega) (by decide), ad_nl v 1]
    refine ok_if (fun _ => ok_bd (rforward_ok hN (by omega) hL hC) (fun r σ1 _ h1 => ih (v + 1) σ1 (by omega) (by omega) h1.1 h1.2)) (fun _ => ?_)
    exact fw124_loop (fun σ1 x a b => ok_bd (rforward_ok hN (by omega) a b) (fun r σ2 _ h2 => ih (v + 1) σ2 (by omega) (by omega) h2.1 h2.2)) N 0 σ (by omega) (by omega) hL hC
theorem forwards_ok {N n : Nat} (hN : 1000 ≤ N) {σ : Sg} {F T : Nat} (hL : QL σ F T) (hC : COr σ) : Ok (f_X12_forwards N n σ) (fun y => QL y.2 F T ∧ COr y.2) := by
  have hT := hL.2.2.1
  unfold f_X12_forwards
  exact fw2_loop (fun σ1 _ a b => fw33_loop (fun σ2 _ a b => fw105_loop hN N 0 σ2 (by omega) (by omega) a b) N 0 σ1 (by omega) (by omega) a b) N 0 σ (by omega) (by omega) hL hC
