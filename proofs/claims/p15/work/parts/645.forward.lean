theorem readSet_loop {N n : Nat} {σ : Sg} {p c : Nat} (hp : p < 300) (h18 : σ 18 p = nI c) (hc : c ≤ 6) (hr : ∀ i, i < c → Bl (σ 19 (p * 6 + i)) 22) :
    ∀ (k v : Nat) (a : Int32), v ≤ c → c < v + k → (∀ i w, i < v → w < 22 → σ 19 (p * 6 + i) = nI w → bt a w = true) →
      Ok (lf_X5_readSet_4 N n (nI p) (fun σ5 w6 _ => some (w6, σ5)) k σ a (nI v)) (fun y => y.2 = σ ∧ ∀ i w, i < c → w < 22 → σ 19 (p * 6 + i) = nI w → bt y.1 w = true) := by
  intro k
  induction k with
  | zero => intro v a h1 h2; omega
  | succ k ih =>
    intro v a h1 h2 hv
    show Ok (lb_X5_readSet_4 N n (nI p) _ (lf_X5_readSet_4 N n (nI p) _ k) σ a (nI v)) _
    unfold lb_X5_readSet_4
    rw [gb_nI hp (by decide), ix_nI (k := p) (by omega), h18]
    refine ok_if (fun q => ?_) (fun q => ?_)
    · rw [le_nn (by omega) (by omega)] at q
      exact ok_ret ⟨rfl, fun i w hi => hv i w (by omega)⟩
    · rw [le_nn (by omega) (by omega)] at q
      obtain ⟨x, hx, ex⟩ := hr v (by omega)
      rw [gb_nI (show v < 6 by omega) (by decide), gb_nI hp (by decide), ix_nI (k := v) (by omega), ex, ad_nl v 1]
      refine ih (v + 1) _ (by omega) (by omega) (fun i w hi hw e => ?_)
      rw [b_or]
      by_cases z : i = v
      · rw [z, ex] at e
        have : x = w := (nI_eq (by omega) (by omega)).mp e
        rw [b_sh1 (by omega) (by omega), decide_eq_true this.symm, Bool.or_true]
      · rw [hv i w (by omega) hw e, Bool.true_or]
theorem readSet_ok {N n : Nat} (hN : 1000 ≤ N) {σ : Sg} {p c : Nat} (hp : p < 300) (h18 : σ 18 p = nI c) (hc : c ≤ 6) (hr : ∀ i, i < c → Bl (σ 19 (p * 6 + i)) 22) :
    Ok (f_X5_readSet N n σ (nI p)) (fun y => y.2 = σ ∧ ∀ i w, i < c → w < 22 → σ 19 (p * 6 + i) = nI w → bt y.1 w = true) :=
  readSet_loop hp h18 hc hr N 0 0 (by omega) (by omega) (fun i w hi => by omega)
theorem writtenSet_ok {N n : Nat} (hN : 1000 ≤ N) {σ : Sg} {F p : Nat} {Gp : Nat → Prop} (hp : p < 300) (h : Pp σ F Gp p) :
    Ok (f_X5_writtenSet N n σ (nI p)) (fun y => y.2 = σ ∧ ∀ w, w < 22 → σ 17 p = nI w → bt y.1 w = true) := by
  obtain ⟨k, c, h14, h18, h19, hk⟩ := h
  have hc := hk.2.1
  unfold f_X5_writtenSet
  rw [gb_nI hp (by decide), ix_nI (k := p) (by omega), gb_nI hp (by decide), gb_nI hp (by decide), h14]
  refine ok_if (fun q => ?_) (fun q => ?_)
  · have e3 : k = 3 := (nI_eq (a := k) (b := 3) (by have := pk_k hk; omega) (by decide)).mp q
    refine ok_bd (readSet_ok hN hp h18 hc h19) (fun r σ1 _ hr => ok_ret ⟨hr.1, fun w hw e => ?_⟩)
    rcases hk.1 with ⟨a, -⟩ | ⟨-, a⟩
    · omega
    · exact absurd (e.symm.trans a) (n1_ne (by omega))
  · refine ok_if (fun z => ok_ret ⟨rfl, fun w hw e => absurd (e.symm.trans z) (n1_ne (by omega))⟩) (fun z => ok_ret ⟨rfl, fun w hw e => ?_⟩)
    show bt (1 <<< (σ 17 p &&& 31)) w = true
    rw [e, b_sh1 (by omega) (by omega), decide_eq_true rfl]
/-- what each value is a copy of: a value, or none -/
def CO (σ : Sg) : Prop := ∀ v, v < 22 → σ 28 v = (-1) ∨ Bl (σ 28 v) 22
theorem pl_fw {σ σ' : Sg} {F T : Nat} (h : PL σ F T) (hs : ∀ c j, c ≠ 19 → c ≠ 27 → c ≠ 28 → σ' c j = σ c j) (h19 : ∀ j, Bl (σ 19 j) 22 → Bl (σ' 19 j) 22) : PL σ' F T := by
  obtain ⟨h1, h2, h3, h4, h5⟩ := h
  refine ⟨(hs 13 6 (by decide) (by decide) (by decide)).trans h1, h2, h3, fun p hp => ?_, ?_⟩
  · obtain ⟨k, c, a14, a18, a19, ak⟩ := h4 p hp
    refine ⟨k, c, (hs _ _ (by decide) (by decide) (by decide)).trans a14, (hs _ _ (by decide) (by decide) (by decide)).trans a18, fun i hi => h19 _ (a19 i hi), ?_⟩
    rw [hs 17 p (by decide) (by decide) (by decide), hs 15 p (by decide) (by decide) (by decide), hs 16 p (by decide) (by decide) (by decide)]
    exact ak
  · rw [hs 14 _ (by decide) (by decide) (by decide)]; exact h5
theorem mark1_loop {N n : Nat} {F T : Nat} {K : Sg → Int32 → Option (Int32 × Sg)} {P : Int32 × Sg → Prop} (hK : ∀ (σ : Sg) (x : Int32), PL σ F T → CO σ → Ok (K σ x) P) :
    ∀ (k v : Nat) (σ : Sg), v ≤ T → T < v + k → PL σ F T → CO σ → Ok (lf_X5_markBlockStarts_2 N n K k σ (nI v)) P := by
  intro k
  induction k with
  | zero => intro v σ h1 h2; omega
  | succ k ih =>
    intro v σ h1 h2 hL hC
    have hL0 := hL
    obtain ⟨l1, l2, l3, l4, l5⟩ := hL
    show Ok (lb_X5_markBlockStarts_2 N n K (lf_X5_markBlockStarts_2 N n K k) σ (nI v)) P
    unfold lb_X5_markBlockStarts_2
    rw [l1]
    have nxt : ∀ x : Int32, Ok (lf_X5_markBlockStarts_2 N n K k (sg σ 27 v x) (nI (v + 1))) P ∨ ¬ v < T := fun x => by
      by_cases q : v < T
      · exact Or.inl (ih (v + 1) _ (by omega) (by omega) (pl_fw hL0 (fun c j _ q2 _ => sg_c q2) (fun j q => by rw [sg_c (by decide)]; exact q)) (fun w hw => by rw [sg_c (by decide)]; exact hC w hw))
      · exact Or.inr q
    refine ok_if (fun c => hK σ _ hL0 hC) (fun c => ?_)
    rw [le_nn (by omega) (by omega)] at c
    have nxt : ∀ x : Int32, Ok (lf_X5_markBlockStarts_2 N n K k (sg σ 27 v x) (nI (v + 1))) P := fun x => (nxt x).resolve_right (fun q => q (by omega))
    rw [gb_nI (show v < 300 by omega) (by decide), ix_nI (k := v) (by omega), ad_nl v 1]
    refine ok_if (fun _ => nxt 1) (fun z => ?_)
    have hv : 1 ≤ v := Nat.pos_of_ne_zero (fun q => z (by rw [q]; rfl))
    obtain ⟨kd, cc, a14, a18, a19, ak⟩ := l4 (v - 1) (by omega)
    have hkd := pk_k ak
    have e1 : nI v - 1 = nI (v - 1) := sb_nl (k := 1) hv
    rw [e1, jumps_eq (by omega) a14 (by omega), bd_s]
    refine ok_if (fun _ => ?_) (fun _ => ?_)
    · rw [gb_nI (show v - 1 < 300 by omega) (by decide)]
      refine ok_if (fun _ => ?_) (fun _ => ?_)
      · rw [gb_nI (show v < 300 by omega) (by decide)]; exact nxt 1
      · rw [gb_nI (show v < 300 by omega) (by decide)]; exact nxt 0
    · rw [gb_nI (show v < 300 by omega) (by decide)]; exact nxt 1
theorem mark2_loop {N n : Nat} {F T : Nat} {K : Sg → Int32 → Option (Int32 × Sg)} {P : Int32 × Sg → Prop} (hK : ∀ (σ : Sg) (x : Int32), PL σ F T → CO σ → Ok (K σ x) P) :
    ∀ (k v : Nat) (σ : Sg), v ≤ T → T < v + k → PL σ F T → CO σ → Ok (lf_X5_markBlockStarts_56 N n K k σ (nI v)) P := by
  intro k
  induction k with
  | zero => intro v σ h1 h2; omega
  | succ k ih =>
    intro v σ h1 h2 hL hC
    have hL0 := hL
    obtain ⟨l1, l2, l3, l4, l5⟩ := hL
    show Ok (lb_X5_markBlockStarts_56 N n K (lf_X5_markBlockStarts_56 N n K k) σ (nI v)) P
    unfold lb_X5_markBlockStarts_56
    rw [l1]
    refine ok_if (fun c => hK σ _ hL0 hC) (fun c => ?_)
    rw [le_nn (by omega) (by omega)] at c
    obtain ⟨kd, cc, a14, a18, a19, ak⟩ := l4 v (by omega)
    have hkd := pk_k ak
    rw [jumps_eq (by omega) a14 (by omega), bd_s, ad_nl v 1]
    refine ok_if (fun _ => ih (v + 1) σ (by omega) (by omega) hL0 hC) (fun z => ?_)
    have hj : kd = 4 ∨ kd = 5 := Classical.byContradiction fun q => z (if_neg q)
    obtain ⟨y, gy, ey⟩ := ak.2.2.2.2.1 hj
    have gy : y < T := gy
    rw [gb_nI (show v < 300 by omega) (by decide), ix_nI (k := v) (by omega), ey, gb_nI (show y < 300 by omega) (by decide)]
    exact ih (v + 1) _ (by omega) (by omega) (pl_fw hL0 (fun c j _ q2 _ => sg_c q2) (fun j q => by rw [sg_c (by decide)]; exact q)) (fun w hw => by rw [sg_c (by decide)]; exact hC w hw)
theorem mark_ok {N n : Nat} (hN : 1000 ≤ N) {σ : Sg} {F T : Nat} (hL : PL σ F T) (hC : CO σ) : Ok (f_X5_markBlockStarts N n σ) (fun y => PL y.2 F T ∧ CO y.2) := by
  have hT := hL.2.2.1
  unfold f_X5_markBlockStarts
  exact mark1_loop (fun σ1 _ a b => mark2_loop (fun σ2 _ a b => ok_ret ⟨a, b⟩) N 0 σ1 (by omega) (by omega) a b) N 0 σ (by omega) (by omega) hL hC
theorem fwReads_loop {N n : Nat} {F T p c : Nat} (hpT : p < T) (hc : c ≤ 6) :
    ∀ (k v : Nat) (σ : Sg), v ≤ c → c < v + k → PL σ F T → CO σ → σ 18 p = nI c → Ok (lf_X5_forwardReads_13 N n (nI p) (fun σ11 _ => some (0, σ11)) k σ (nI v)) (fun y => PL y.2 F T ∧ CO y.2) := by
  intro k
  induction k with
  | zero => intro v σ h1 h2; omega
  | succ k ih =>
    intro v σ h1 h2 hL hC h18
    have hL0 := hL
    obtain ⟨l1, l2, l3, l4, l5⟩ := hL
    obtain ⟨kd, cc, a14, a18, a19, ak⟩ := l4 p hpT
    have ecc : cc = c := (nI_eq (by have := ak.2.1; omega) (by omega)).mp (a18.symm.trans h18)
    subst ecc
    show Ok (lb_X5_forwardReads_13 N n (nI p) _ (lf_X5_forwardReads_13 N n (nI p) _ k) σ (nI v)) _
    unfold lb_X5_forwardReads_13
    rw [gb_nI (show p < 300 by omega) (by decide), ix_nI (k := p) (by omega), h18]
    refine ok_if (fun q => ok_ret ⟨hL0, hC⟩) (fun q => ?_)
    rw [le_nn (by omega) (by omega)] at q
    obtain ⟨x, hx, ex⟩ := a19 v (by omega)
    rw [gb_nI (show v < 6 by omega) (by decide), gb_nI (show p < 300 by omega) (by decide), ix_nI (k := v) (by omega), ex, gb_nI hx (by decide), ix_nI (k := x) (by omega), ad_nl v 1]
    refine ok_if (fun _ => ih (v + 1) σ (by omega) (by omega) hL0 hC h18) (fun z => ?_)
    have hb := (hC x hx).resolve_left z
    rw [gb_nI (show v < 6 by omega) (by decide), gb_nI (show p < 300 by omega) (by decide)]
    refine ih (v + 1) _ (by omega) (by omega) (pl_fw hL0 (fun c j q1 _ _ => sg_c q1) (fun j q => ?_)) (fun w hw => by rw [sg_c (by decide)]; exact hC w hw) ((sg_c (by decide)).trans h18)
    rw [sg_if]
    by_cases e : j = p * 6 + v
    · rw [if_pos e]; exact hb
    · rw [if_neg e]; exact q
theorem fwReads_ok {N n : Nat} (hN : 1000 ≤ N) {σ : Sg} {F T p : Nat} (hpT : p < T) (hL : PL σ F T) (hC : CO σ) : Ok (f_X5_forwardReads N n σ (nI p)) (fun y => PL y.2 F T ∧ CO y.2) := by
  have hT := hL.2.2.1
  obtain ⟨kd, cc, a14, a18, a19, ak⟩ := hL.2.2.2.1 p hpT
  have := ak.2.1
  unfold f_X5_forwardReads
  rw [gb_nI (show p < 300 by omega) (by decide)]
  exact ok_if (fun _ => ok_ret ⟨hL, hC⟩) (fun _ => fwReads_loop hpT ak.2.1 N 0 σ (by omega) (by omega) hL hC a18)
theorem forget_loop {N n : Nat} {F T : Nat} {x : Int32} :
    ∀ (k v : Nat) (σ : Sg), v ≤ 22 → 22 < v + k → PL σ F T → CO σ → Ok (lf_X5_forgetWritten_2 N n x (fun σ9 _ => some (0, σ9)) k σ (nI v)) (fun y => PL y.2 F T ∧ CO y.2) := by
  intro k
  induction k with
  | zero => intro v σ h1 h2; omega
  | succ k ih =>
    intro v σ h1 h2 hL hC
    show Ok (lb_X5_forgetWritten_2 N n x _ (lf_X5_forgetWritten_2 N n x _ k) σ (nI v)) _
    unfold lb_X5_forgetWritten_2
    have e0 : ((22 : Int32) ≤ nI v) = (22 ≤ v) := le_ln (k := 22) (by omega) (by decide)
    refine ok_if (fun _ => ok_ret ⟨hL, hC⟩) (fun c => ?_)
    rw [e0] at c
    rw [ad_nl v 1, ix_nI (k := v) (by omega)]
    have hset : Ok (gb (nI v) 22 (lf_X5_forgetWritten_2 N n x (fun σ9 _ => some (0, σ9)) k (sg σ 28 v (-1)) (nI (v + 1)))) (fun y => PL y.2 F T ∧ CO y.2) := by
      rw [gb_nI (show v < 22 by omega) (by decide)]
      refine ih (v + 1) _ (by omega) (by omega) (pl_fw hL (fun c j _ _ q3 => sg_c q3) (fun j q => by rw [sg_c (by decide)]; exact q)) (fun w hw => ?_)
      rw [sg_if]
      by_cases e : w = v
      · rw [if_pos e]; exact Or.inl rfl
      · rw [if_neg e]; exact hC w hw
    have hid : Ok (lf_X5_forgetWritten_2 N n x (fun σ9 _ => some (0, σ9)) k σ (nI (v + 1))) (fun y => PL y.2 F T ∧ CO y.2) := ih (v + 1) σ (by omega) (by omega) hL hC
    refine ok_if (fun _ => ?_) (fun _ => hset)
    rw [gb_nI (show v < 22 by omega) (by decide)]
    refine ok_if (fun _ => hid) (fun _ => ?_)
    rw [gb_nI (show v < 22 by omega) (by decide)]
    exact ok_if (fun _ => hid) (fun _ => hset)
theorem fw_step {N n : Nat} (hN : 1000 ≤ N) {σ : Sg} {F T v : Nat} (hv : v < T) (hL : PL σ F T) (hC : CO σ) {R : Sg → Option (Int32 × Sg)} {P : Int32 × Sg → Prop} (hR : ∀ σ1, PL σ1 F T → CO σ1 → Ok (R σ1) P) :
    Ok (bd (f_X5_forwardReads N n σ (nI v)) (fun _ σ8 => bd (f_X5_writtenSet N n σ8 (nI v)) (fun r10 σ11 => bd (f_X5_forgetWritten N n σ11 r10) (fun _ σ14 => gb (nI v) 300 (if (σ14 14 v) = 1 then (gb (nI v) 300 (gb 0 6 (gb (nI v) 300 (if (σ14 17 v) = (σ14 19 (v * 6 + ix 0)) then (R σ14) else (gb (nI v) 300 (gb 0 6 (gb (nI v) 300 (gb (σ14 17 v) 22 (R (sg σ14 28 (ix (σ14 17 v)) (σ14 19 (v * 6 + ix 0))))))))))))  else (R σ14)))))) P := by
  have hT := hL.2.2.1
  refine ok_bd (fwReads_ok hN hv hL hC) (fun r1 σ1 _ h1 => ?_)
  obtain ⟨h1, c1⟩ := h1
  refine ok_bd (writtenSet_ok hN (by omega) (h1.2.2.2.1 v hv)) (fun r2 σ2 _ h2 => ?_)
  obtain ⟨rfl, -⟩ := h2
  unfold f_X5_forgetWritten
  refine ok_bd (forget_loop N 0 _ (by omega) (by omega) h1 c1) (fun r3 σ3 _ h3 => ?_)
  obtain ⟨h3, c3⟩ := h3
  have h3 : PL σ3 F T := h3
  have c3 : CO σ3 := c3
  rw [gb_nI (show v < 300 by omega) (by decide)]
  refine ok_if (fun q => ?_) (fun q => hR σ3 h3 c3)
  obtain ⟨kd, cc, a14, a18, a19, ak⟩ := h3.2.2.2.1 v hv
  have ek : kd = 1 := (nI_eq (a := kd) (b := 1) (by have := pk_k ak; omega) (by decide)).mp (a14.symm.trans q)
  rw [gb_nI (show v < 300 by omega) (by decide), show gb (0 : Int32) 6 = fun (y : Option (Int32 × Sg)) => y from funext fun y => gb_nI (k := 0) (by decide) (by decide)]
  dsimp only
  rw [gb_nI (show v < 300 by omega) (by decide)]
  refine ok_if (fun _ => hR σ3 h3 c3) (fun _ => ?_)
  rw [gb_nI (show v < 300 by omega) (by decide), gb_nI (show v < 300 by omega) (by decide)]
  have hw : Bl (σ3 17 v) 22 := by
    rcases ak.1 with ⟨-, a⟩ | ⟨a, -⟩
    · exact a
    · omega
  have hr : Bl (σ3 19 (v * 6 + ix 0)) 22 := a19 0 (by have := ak.2.2.1 (by omega); omega)
  rw [bl_gb hw (by decide)]
  refine hR _ (pl_fw h3 (fun c j _ _ q3 => sg_c q3) (fun j q => by rw [sg_c (by decide)]; exact q)) (fun w hw2 => ?_)
  rw [sg_if]
  by_cases e : w = ix (σ3 17 v)
  · rw [if_pos e]; exact Or.inr hr
  · rw [if_neg e]; exact c3 w hw2
theorem forward_loop {N n : Nat} (hN : 1000 ≤ N) {F T : Nat} :
    ∀ (k v : Nat) (σ : Sg), v ≤ T → T < v + k → PL σ F T → CO σ → Ok (lf_X5_forward_6 N n (fun σ48 _ => some (0, σ48)) k σ (nI v)) (fun y => PL y.2 F T ∧ CO y.2) := by
  intro k
  induction k with
  | zero => intro v σ h1 h2; omega
  | succ k ih =>
    intro v σ h1 h2 hL hC
    have hT := hL.2.2.1
    show Ok (lb_X5_forward_6 N n _ (lf_X5_forward_6 N n _ k) σ (nI v)) _
    unfold lb_X5_forward_6
    rw [hL.1]
    refine ok_if (fun _ => ok_ret ⟨hL, hC⟩) (fun c => ?_)
    rw [le_nn (by omega) (by omega)] at c
    rw [gb_nI (show v < 300 by omega) (by decide), ad_nl v 1, ix_nI (k := v) (by omega)]
    have hR : ∀ σ1, PL σ1 F T → CO σ1 → Ok (lf_X5_forward_6 N n (fun σ48 _ => some (0, σ48)) k σ1 (nI (v + 1))) (fun y => PL y.2 F T ∧ CO y.2) := fun σ1 a b => ih (v + 1) σ1 (by omega) (by omega) a b
    refine ok_if (fun _ => ?_) (fun _ => ?_)
    · exact fw_step hN (by omega) hL hC (R := fun σ1 => lf_X5_forward_6 N n (fun σ48 _ => some (0, σ48)) k σ1 (nI (v + 1))) hR
    · refine ok_bd (fill28_ok hN (-1)) (fun r1 σ1 _ h1 => ?_)
      obtain ⟨f1, f2⟩ := h1
      have f1 : ∀ c j, c ≠ 28 → σ1 c j = σ c j := f1
      have hL1 : PL σ1 F T := pl_fw hL (fun c j _ _ q3 => f1 c j q3) (fun j q => by rw [f1 19 j (by decide)]; exact q)
      exact fw_step hN (by omega) hL1 (fun w hw => Or.inl (f2 w hw)) (R := fun σ1 => lf_X5_forward_6 N n (fun σ48 _ => some (0, σ48)) k σ1 (nI (v + 1))) hR
theorem forward_ok {N n : Nat} (hN : 1000 ≤ N) {σ : Sg} {F T : Nat} (hL : PL σ F T) (hC : CO σ) : Ok (f_X5_forward N n σ) (fun y => PL y.2 F T ∧ CO y.2) := by
  have hT := hL.2.2.1
  unfold f_X5_forward
  exact ok_bd (mark_ok hN hL hC) (fun r σ1 _ h1 => forward_loop hN N 0 σ1 (by omega) (by omega) h1.1 h1.2)
