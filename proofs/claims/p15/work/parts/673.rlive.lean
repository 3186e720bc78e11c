/-! what is LIVE in the reference: it grows, and so it ends -/
def Wt (k : Nat) : Prop := k = 0 ∨ k = 1 ∨ k = 2 ∨ k = 7 ∨ k = 13
def LBb (σ : Sg) (kd p g w : Nat) : Bool := if kd = 6 then false else if kd = 4 then bt (σ 76 g) w else if kd = 5 then (bt (σ 76 (p + 1)) w || bt (σ 76 g) w) else bt (σ 76 (p + 1)) w
def LAp (σ : Sg) (kd cc p g w : Nat) : Prop := (LBb σ kd p g w = true ∧ ¬ (Wt kd ∧ σ 70 (8 * p) = nI w)) ∨ ∃ i, (Wt kd → 1 ≤ i) ∧ i < cc ∧ σ 70 (8 * p + i) = nI w
theorem lbb_mono {σ σ' : Sg} {kd p g w : Nat} (h : ∀ j, bt (σ 76 j) w = true → bt (σ' 76 j) w = true) (q : LBb σ kd p g w = true) : LBb σ' kd p g w = true := by
  unfold LBb at q ⊢
  by_cases c6 : kd = 6
  · rw [if_pos c6] at q; exact nomatch q
  · rw [if_neg c6] at q ⊢
    by_cases c4 : kd = 4
    · rw [if_pos c4] at q ⊢; exact h _ q
    · rw [if_neg c4] at q ⊢
      by_cases c5 : kd = 5
      · rw [if_pos c5] at q ⊢
        rw [Bool.or_eq_true] at q ⊢
        exact q.imp (h _) (h _)
      · rw [if_neg c5] at q ⊢; exact h _ q
theorem lap_mono {σ σ' : Sg} {kd cc p g w : Nat} (h : ∀ j, bt (σ 76 j) w = true → bt (σ' 76 j) w = true) (e70 : ∀ j, σ' 70 j = σ 70 j) (q : LAp σ kd cc p g w) : LAp σ' kd cc p g w := by
  rcases q with ⟨a, b⟩ | ⟨i, a, b, c⟩
  · exact Or.inl ⟨lbb_mono h a, by rw [e70]; exact b⟩
  · exact Or.inr ⟨i, a, b, by rw [e70]; exact c⟩
/-- the goal of a place that jumps -/
def Gl (σ : Sg) (T kd p g : Nat) : Prop := (kd = 4 ∨ kd = 5) → σ 69 p = nI g ∧ g < T
theorem liveBehind_ok {N n : Nat} {σ : Sg} {T p kd g : Nat} (hT : T ≤ 300) (hp : p < T) (hkd : kd ≤ 13) (h68 : σ 68 p = nI kd) (hg : Gl σ T kd p g) : Ok (f_X12_liveBehind N n σ (nI p)) (fun y => y.2 = σ ∧ ∀ w, bt y.1 w = LBb σ kd p g w) := by
  have kn : ∀ m, m < 2147483648 → (nI kd = nI m ↔ kd = m) := fun m hm => nI_eq (by omega) hm
  have gp : ∀ y : Option (Int32 × Sg), gb (nI p) 300 y = y := fun y => gb_nI (show p < 300 by omega) (by decide)
  have e1 : nI p + 1 = nI (p + 1) := ad_nl p 1
  unfold f_X12_liveBehind
  simp only [gp, e1]
  rw [ix_nI (k := p) (by omega), h68, ix_nI (k := p + 1) (by omega), gb_nI (show p + 1 < 301 by omega) (by decide)]
  refine ok_if (fun c => ok_ret ⟨rfl, fun w => ?_⟩) (fun c6 => ok_if (fun c => ?_) (fun c4 => ?_))
  · have := (kn 6 (by decide)).mp c
    show bt 0 w = _
    rw [b_0]; unfold LBb; rw [if_pos this]
  · have e4 := (kn 4 (by decide)).mp c
    obtain ⟨g1, g2⟩ := hg (Or.inl e4)
    rw [isJump_eq (by omega), bd_s, if_neg (by rw [if_pos (Or.inl e4)]; decide), g1, gb_nI (show g < 301 by omega) (by decide), ix_nI (k := g) (by omega)]
    refine ok_ret ⟨rfl, fun w => ?_⟩
    show bt (0 ||| σ 76 g) w = _
    rw [b_or, b_0, Bool.false_or]
    unfold LBb
    rw [if_neg (by omega), if_pos e4]
  · have n6 : kd ≠ 6 := fun q => c6 (by rw [q]; rfl)
    have n4 : kd ≠ 4 := fun q => c4 (by rw [q]; rfl)
    rw [isJump_eq (by omega), bd_s]
    by_cases e5 : kd = 5
    · obtain ⟨g1, g2⟩ := hg (Or.inr e5)
      rw [if_neg (by rw [if_pos (Or.inr e5)]; decide), g1, gb_nI (show g < 301 by omega) (by decide), ix_nI (k := g) (by omega)]
      refine ok_ret ⟨rfl, fun w => ?_⟩
      show bt (σ 76 (p + 1) ||| σ 76 g) w = _
      rw [b_or]
      unfold LBb
      rw [if_neg n6, if_neg n4, if_pos e5]
    · rw [if_pos (by rw [if_neg (by omega)])]
      refine ok_ret ⟨rfl, fun w => ?_⟩
      show bt (σ 76 (p + 1)) w = _
      unfold LBb
      rw [if_neg n6, if_neg n4, if_neg e5]
theorem la50_loop {N n : Nat} {σ : Sg} {p cc : Nat} (hp : p < 300) (h71 : σ 71 p = nI cc) (hc : cc ≤ 7) (h70 : ∀ i, i < cc → Bl (σ 70 (8 * p + i)) 22) :
    ∀ (k v : Nat) (a : Int32), v ≤ 8 → 8 < v + k → Ok (lf_X12_liveAhead_50 N n (nI p) (fun σ16 w17 _ => some (w17, σ16)) k σ a (nI v)) (fun y => y.2 = σ ∧ ∀ w, w < 32 → (bt y.1 w = true ↔ (bt a w = true ∨ ∃ i, v ≤ i ∧ i < cc ∧ σ 70 (8 * p + i) = nI w))) := by
  intro k
  induction k with
  | zero => intro v a h1 h2; omega
  | succ k ih =>
    intro v a h1 h2
    show Ok (lb_X12_liveAhead_50 N n (nI p) _ (lf_X12_liveAhead_50 N n (nI p) _ k) σ a (nI v)) _
    unfold lb_X12_liveAhead_50
    rw [gb_nI hp (by decide), ix_nI (k := p) (by omega), h71]
    refine ok_if (fun q => ?_) (fun q => ?_)
    · rw [le_nn (by omega) (by omega)] at q
      exact ok_ret ⟨rfl, fun w _ => ⟨fun z => Or.inl z, fun z => z.resolve_right (fun ⟨i, i1, i2, _⟩ => by omega)⟩⟩
    · rw [le_nn (by omega) (by omega)] at q
      obtain ⟨x, hx, ex⟩ := h70 v (by omega)
      rw [ml_ln p 8, ad_nn, ad_nl v 1]
      have e8 : OfNat.ofNat 8 * p + v = 8 * p + v := rfl
      rw [e8, gb_nI (show 8 * p + v < 2400 by omega) (by decide), ix_nI (k := 8 * p + v) (by omega), ex]
      refine ok_mono (ih (v + 1) _ (by omega) (by omega)) (fun y hy => ⟨hy.1, fun w hw => ?_⟩)
      rw [hy.2 w hw, b_or, b_sh1 (by omega) hw, Bool.or_eq_true, decide_eq_true_eq]
      constructor
      · rintro ((z | z) | ⟨i, i1, i2, i3⟩)
        · exact Or.inl z
        · exact Or.inr ⟨v, Nat.le_refl _, by omega, by rw [ex, z]⟩
        · exact Or.inr ⟨i, by omega, i2, i3⟩
      · rintro (z | ⟨i, i1, i2, i3⟩)
        · exact Or.inl (Or.inl z)
        · by_cases e : i = v
          · rw [e, ex] at i3
            exact Or.inl (Or.inr ((nI_eq (by omega) (by omega)).mp i3).symm)
          · exact Or.inr ⟨i, by omega, i2, i3⟩
theorem liveAhead_ok {N n : Nat} (hN : 1000 ≤ N) {σ : Sg} {F T p kd cc g : Nat} (hT : T ≤ 300) (hp : p < T) (h68 : σ 68 p = nI kd) (h71 : σ 71 p = nI cc) (h70 : ∀ i, i < cc → Bl (σ 70 (8 * p + i)) 22) (hk : QK kd cc (σ 69 p) F (fun y => y < T)) (hg : Gl σ T kd p g) :
    Ok (f_X12_liveAhead N n σ (nI p)) (fun y => y.2 = σ ∧ ∀ w, w < 32 → (bt y.1 w = true ↔ LAp σ kd cc p g w)) := by
  have hkd := qk_k hk
  have hcc := hk.2.1
  have kn : ∀ m, m < 2147483648 → (nI kd = nI m ↔ kd = m) := fun m hm => nI_eq (by omega) hm
  have gp : ∀ y : Option (Int32 × Sg), gb (nI p) 300 y = y := fun y => gb_nI (show p < 300 by omega) (by decide)
  have e8 : (8 : Int32) * nI p = nI (8 * p) := ml_ln p 8
  have g8 : ∀ y : Option (Int32 × Sg), gb (nI (8 * p)) 2400 y = y := fun y => gb_nI (show 8 * p < 2400 by omega) (by decide)
  have i8 : ix (nI (8 * p)) = 8 * p := ix_nI (by omega)
  have ip : ix (nI p) = p := ix_nI (by omega)
  unfold f_X12_liveAhead
  simp only [gp, e8, g8, i8, ip]
  refine ok_bd (liveBehind_ok hT hp hkd h68 hg) (fun r1 σ1 _ h1 => ?_)
  obtain ⟨hs, h1⟩ := h1
  have hs : σ1 = σ := hs
  subst hs
  have h1 : ∀ w, bt r1 w = LBb σ1 kd p g w := h1
  rw [h68]
  by_cases hw : Wt kd
  · have we : ∀ σ : Sg, f_X12_writes N n σ (nI kd) = some (1, σ) := fun σ => by
      unfold f_X12_writes
      rcases hw with rfl | rfl | rfl | rfl | rfl <;> rfl
    have z10 : ((1 : Int32) = 0) = False := eq_false (by decide)
    have hc1 : 1 ≤ cc := by
      have d1 := hk.2.2.1
      have d2 := hk.2.2.2.1
      have d3 := hk.2.2.2.2.1
      unfold Wt at hw
      omega
    obtain ⟨x, hx, ex⟩ := h70 0 hc1
    rw [Nat.add_zero] at ex
    simp only [we, bd_s, z10, if_false, ex]
    refine ok_mono (la50_loop (by omega) h71 hcc h70 N 1 _ (by omega) (by omega)) (fun y hy => ⟨hy.1, fun w hw2 => ?_⟩)
    rw [hy.2 w hw2, b_and, b_xor, b_sh1 (by omega) hw2, b_m1 w hw2, h1]
    unfold LAp
    rw [ex]
    constructor
    · rintro (z | ⟨i, i1, i2, i3⟩)
      · rw [Bool.and_eq_true] at z
        refine Or.inl ⟨z.1, fun q => ?_⟩
        have : x = w := (nI_eq (by omega) (by omega)).mp q.2
        rw [decide_eq_true this.symm] at z
        exact nomatch z.2
      · exact Or.inr ⟨i, fun _ => i1, i2, i3⟩
    · rintro (⟨z1, z2⟩ | ⟨i, i1, i2, i3⟩)
      · refine Or.inl ?_
        rw [z1, decide_eq_false (fun q => z2 ⟨hw, by rw [q]⟩)]
        rfl
      · exact Or.inr ⟨i, i1 hw, i2, i3⟩
  · have we : ∀ σ : Sg, f_X12_writes N n σ (nI kd) = some (0, σ) := fun σ => by
      unfold Wt at hw
      unfold f_X12_writes
      rw [if_neg (fun q => by have := (kn 0 (by decide)).mp q; omega), if_neg (fun q => by have := (kn 1 (by decide)).mp q; omega), if_neg (fun q => by have := (kn 2 (by decide)).mp q; omega), if_neg (fun q => by have := (kn 7 (by decide)).mp q; omega), if_neg (fun q => by have := (kn 13 (by decide)).mp q; omega)]
    have z00 : ((0 : Int32) = 0) = True := eq_true rfl
    simp only [we, bd_s, z00, if_true]
    refine ok_mono (la50_loop (by omega) h71 hcc h70 N 0 _ (by omega) (by omega)) (fun y hy => ⟨hy.1, fun w hw2 => ?_⟩)
    rw [hy.2 w hw2, h1]
    unfold LAp
    constructor
    · rintro (z | ⟨i, i1, i2, i3⟩)
      · exact Or.inl ⟨z, fun q => hw q.1⟩
      · exact Or.inr ⟨i, fun q => absurd q hw, i2, i3⟩
    · rintro (⟨z1, z2⟩ | ⟨i, i1, i2, i3⟩)
      · exact Or.inl z1
      · exact Or.inr ⟨i, Nat.zero_le _, i2, i3⟩
/-- how many bits -/
def pcn (x : Int32) : Nat := cn (fun w => bt x w) 22
theorem cn_mono {p r : Nat → Bool} : ∀ k, (∀ w, w < k → p w = true → r w = true) → cn p k ≤ cn r k := by
  intro k
  induction k with
  | zero => intro _; exact Nat.le_refl _
  | succ k ih =>
    intro h
    have h1 := ih (fun w hw => h w (by omega))
    unfold cn
    by_cases q : p k = true
    · rw [if_pos q, if_pos (h k (by omega) q)]; omega
    · rw [if_neg q]; split <;> omega
theorem cn_lt {p r : Nat → Bool} {v : Nat} : ∀ k, v < k → (∀ w, w < k → p w = true → r w = true) → p v = false → r v = true → cn p k < cn r k := by
  intro k
  induction k with
  | zero => intro h; omega
  | succ k ih =>
    intro hv h h0 h1
    unfold cn
    by_cases e : v = k
    · subst e
      have := cn_mono v (fun w hw => h w (by omega))
      rw [if_neg (by rw [h0]; decide), if_pos h1]; omega
    · have := ih (by omega) (fun w hw => h w (by omega)) h0 h1
      by_cases q : p k = true
      · rw [if_pos q, if_pos (h k (by omega) q)]; omega
      · rw [if_neg q]; split <;> omega
/-- all bits of the first T rows -/
def sm (M : Nat → Int32) : Nat → Nat
  | 0 => 0
  | k + 1 => sm M k + pcn (M k)
theorem sm_le (M : Nat → Int32) (k : Nat) : sm M k ≤ 22 * k := by
  induction k with
  | zero => exact Nat.le_refl _
  | succ k ih =>
    unfold sm
    have := cn_le (fun w => bt (M k) w) 22
    unfold pcn
    omega
theorem sm_eq {M M' : Nat → Int32} : ∀ k, (∀ q, q < k → M' q = M q) → sm M' k = sm M k := by
  intro k
  induction k with
  | zero => intro _; rfl
  | succ k ih => intro h; unfold sm; rw [ih (fun q hq => h q (by omega)), h k (by omega)]
theorem sm_upd {M M' : Nat → Int32} {p : Nat} : ∀ k, p < k → (∀ q, q < k → q ≠ p → M' q = M q) → sm M' k + pcn (M p) = sm M k + pcn (M' p) := by
  intro k
  induction k with
  | zero => intro h; omega
  | succ k ih =>
    intro hp h
    unfold sm
    by_cases e : p = k
    · subst e
      rw [sm_eq (M := M) (M' := M') p (fun q hq => h q (by omega) (by omega))]; omega
    · have := ih (by omega) (fun q hq hn => h q (by omega) hn)
      rw [h k (by omega) (fun q => e q.symm)]; omega
/-- while what is LIVE is found -/
def LI (σ : Sg) (T : Nat) : Prop := (∀ p, p ≤ T → ∀ w, 22 ≤ w → bt (σ 76 p) w = false) ∧ ∀ p, p < T → ∀ kd cc g, σ 68 p = nI kd → kd ≤ 13 → σ 71 p = nI cc → cc ≤ 7 → Gl σ T kd p g → ∀ w, bt (σ 76 p) w = true → LAp σ kd cc p g w
theorem ql_76 {σ : Sg} {F T i : Nat} {x : Int32} (h : QL σ F T) : QL (sg σ 76 i x) F T := by
  obtain ⟨h1, h2, h3, h4, h5⟩ := h
  refine ⟨(sg_c (by decide)).trans h1, h2, h3, fun p hp => qp_same (h4 p hp) (sg_c (by decide)) (sg_c (by decide)) (sg_c (by decide)) (fun i _ => sg_c (by decide)), ?_⟩
  rw [sg_c (by decide)]; exact h5
theorem goal_of {σ : Sg} {F T p kd cc : Nat} (hk : QK kd cc (σ 69 p) F (fun y => y < T)) : ∃ g, Gl σ T kd p g := by
  by_cases q : kd = 4 ∨ kd = 5
  · obtain ⟨g, a, b⟩ := hk.2.2.2.2.2.1 q
    exact ⟨g, fun _ => ⟨b, a⟩⟩
  · exact ⟨0, fun z => absurd z q⟩
theorem live_step {N n : Nat} (hN : 1000 ≤ N) {σ : Sg} {F T p : Nat} (hL : QL σ F T) (hI : LI σ T) (hp : p < T) :
    Ok (f_X12_liveAhead N n σ (nI p)) (fun y => y.2 = σ ∧ LI (sg σ 76 p y.1) T ∧ ((y.1 = σ 76 p ∧ sm ((sg σ 76 p y.1) 76) T = sm (σ 76) T) ∨ sm (σ 76) T < sm ((sg σ 76 p y.1) 76) T)) := by
  have hT := hL.2.2.1
  obtain ⟨kd, cc, a68, a71, a70, ak⟩ := hL.2.2.2.1 p hp
  have hkd := qk_k ak
  obtain ⟨g, hg⟩ := goal_of ak
  obtain ⟨⟨x, σ1⟩, e, hs, hx⟩ := liveAhead_ok (N := N) (n := n) hN hT hp a68 a71 a70 ak hg
  have hs : σ1 = σ := hs
  subst hs
  have hx : ∀ w, w < 32 → (bt x w = true ↔ LAp σ1 kd cc p g w) := hx
  have o76 : ∀ j, (sg σ1 76 p x) 76 j = if j = p then x else σ1 76 j := fun j => sg_if _ _ _ _ _
  have sup : ∀ w, bt (σ1 76 p) w = true → bt x w = true := fun w hw => by
    by_cases h32 : w < 32
    · exact (hx w h32).mpr (hI.2 p hp kd cc g a68 hkd a71 ak.2.1 hg w hw)
    · rw [b_big (by omega)] at hw; exact nomatch hw
  have x22 : ∀ w, 22 ≤ w → bt x w = false := fun w hw => by
    by_cases h32 : w < 32
    · cases hb : bt x w with
      | false => rfl
      | true =>
        exfalso
        rcases (hx w h32).mp hb with ⟨q, -⟩ | ⟨i, -, i2, i3⟩
        · have z : ∀ j, j ≤ T → bt (σ1 76 j) w = false := fun j hj => hI.1 j hj w hw
          unfold LBb at q
          by_cases c6 : kd = 6
          · rw [if_pos c6] at q; exact nomatch q
          · rw [if_neg c6] at q
            by_cases c4 : kd = 4
            · rw [if_pos c4, z g (by have := (hg (Or.inl c4)).2; omega)] at q; exact nomatch q
            · rw [if_neg c4] at q
              by_cases c5 : kd = 5
              · rw [if_pos c5, z g (by have := (hg (Or.inr c5)).2; omega), z (p + 1) (by omega)] at q; exact nomatch q
              · rw [if_neg c5, z (p + 1) (by omega)] at q; exact nomatch q
        · obtain ⟨v, v1, v2⟩ := a70 i i2
          have := (nI_eq (by omega) (by omega)).mp (v2.symm.trans i3)
          omega
    · exact b_big (by omega)
  have grow : ∀ w j, bt (σ1 76 j) w = true → bt ((sg σ1 76 p x) 76 j) w = true := fun w j q => by
    rw [o76]
    by_cases z : j = p
    · rw [if_pos z]; rw [z] at q; exact sup w q
    · rw [if_neg z]; exact q
  refine ⟨(x, σ1), e, rfl, ⟨fun j hj w hw => ?_, fun j hj kd' cc' g' b68 bk b71 bc bg w hw => ?_⟩, ?_⟩
  · show bt ((sg σ1 76 p x) 76 j) w = false
    rw [o76]
    by_cases z : j = p
    · rw [if_pos z]; exact x22 w hw
    · rw [if_neg z]; exact hI.1 j hj w hw
  · have b68 : σ1 68 j = nI kd' := (sg_c (by decide)).symm.trans b68
    have b71 : σ1 71 j = nI cc' := (sg_c (by decide)).symm.trans b71
    have bg : Gl σ1 T kd' j g' := fun q => by
      have := bg q
      exact ⟨(show σ1 69 j = sg σ1 76 p x 69 j from (sg_c (by decide)).symm).trans this.1, this.2⟩
    have hw : bt ((sg σ1 76 p x) 76 j) w = true := hw
    refine lap_mono (σ := σ1) (fun j => grow w j) (fun j => sg_c (by decide)) ?_
    rw [o76] at hw
    by_cases z : j = p
    · have hwx : bt x w = true := by rw [if_pos z] at hw; exact hw
      subst z
      have e1 : kd' = kd := (nI_eq (by omega) (by omega)).mp (b68.symm.trans a68)
      have e2 : cc' = cc := (nI_eq (by omega) (by have := ak.2.1; omega)).mp (b71.symm.trans a71)
      subst e1
      subst e2
      have h32 : w < 32 := by
        by_cases h32 : w < 32
        · exact h32
        · rw [b_big (by omega)] at hwx; exact nomatch hwx
      have := (hx w h32).mp hwx
      rcases this with ⟨q1, q2⟩ | q
      · refine Or.inl ⟨?_, q2⟩
        unfold LBb at q1 ⊢
        by_cases hj2 : kd' = 4 ∨ kd' = 5
        · have eg : g' = g := (nI_eq (by have := (bg hj2).2; omega) (by have := (hg hj2).2; omega)).mp ((bg hj2).1.symm.trans (hg hj2).1)
          rw [eg]; exact q1
        · rw [if_neg (show ¬ kd' = 4 by omega), if_neg (show ¬ kd' = 5 by omega)] at q1 ⊢
          exact q1
      · exact Or.inr q
    · rw [if_neg z] at hw
      exact hI.2 j hj kd' cc' g' b68 bk b71 bc bg w hw
  · show (x = σ1 76 p ∧ sm ((sg σ1 76 p x) 76) T = sm (σ1 76) T) ∨ sm (σ1 76) T < sm ((sg σ1 76 p x) 76) T
    have hu := sm_upd (M := σ1 76) (M' := (sg σ1 76 p x) 76) (p := p) T hp (fun q _ hn => by rw [o76, if_neg hn])
    have ep : (sg σ1 76 p x) 76 p = x := sg_at _ _ _ _
    rw [ep] at hu
    by_cases z : x = σ1 76 p
    · exact Or.inl ⟨z, by rw [← z] at hu; omega⟩
    · refine Or.inr ?_
      have : pcn (σ1 76 p) < pcn x := by
        by_cases hv : ∃ v, v < 22 ∧ bt (σ1 76 p) v = false ∧ bt x v = true
        · obtain ⟨v, v1, v2, v3⟩ := hv
          exact cn_lt 22 v1 (fun w _ q => sup w q) v2 v3
        · exfalso
          refine z (b_ext fun i hi => ?_)
          by_cases h22 : i < 22
          · cases b1 : bt (σ1 76 p) i with
            | true => exact sup i b1
            | false =>
              cases b2 : bt x i with
              | false => rfl
              | true => exact absurd ⟨i, h22, b1, b2⟩ hv
          · rw [x22 i (by omega), hI.1 p (by omega) i (by omega)]
      omega
theorem lv38_loop {N n : Nat} (hN : 1000 ≤ N) {F T B : Nat} {K : Sg → Int32 → Int32 → Option (Int32 × Sg)} {P : Int32 × Sg → Prop} (hK : ∀ (σ : Sg) (g x : Int32), QL σ F T → LI σ T → (g = 0 ∨ (g = 1 ∧ B < sm (σ 76) T)) → Ok (K σ g x) P) :
    ∀ (k m : Nat) (σ : Sg) (g : Int32), m ≤ T → m < k → QL σ F T → LI σ T → B ≤ sm (σ 76) T → (g = 0 ∨ (g = 1 ∧ B < sm (σ 76) T)) → Ok (lf_X12_lives_38 N n K k σ g (nI m - 1)) P := by
  intro k
  induction k with
  | zero => intro m σ g h1 h2; omega
  | succ k ih =>
    intro m σ g h1 h2 hL hI hB hg
    have hT := hL.2.2.1
    show Ok (lb_X12_lives_38 N n K (lf_X12_lives_38 N n K k) σ g (nI m - 1)) P
    unfold lb_X12_lives_38
    refine ok_if (fun _ => hK σ g _ hL hI hg) (fun c => ?_)
    rw [dn_lt (by omega)] at c
    obtain ⟨v, rfl⟩ : ∃ v, m = v + 1 := ⟨m - 1, by omega⟩
    have e1 : nI (v + 1) - 1 = nI v := (sb_nl (k := 1) (show 1 ≤ v + 1 by omega)).trans (congrArg nI (show v + 1 - 1 = v by omega))
    rw [e1]
    refine ok_bd (live_step hN hL hI (by omega)) (fun r σ1 _ h1 => ?_)
    obtain ⟨hs, h2, h3⟩ := h1
    have hs : σ1 = σ := hs
    subst hs
    have h2 : LI (sg σ1 76 v r) T := h2
    have h3 : (r = σ1 76 v ∧ sm ((sg σ1 76 v r) 76) T = sm (σ1 76) T) ∨ sm (σ1 76) T < sm ((sg σ1 76 v r) 76) T := h3
    rw [dn_eq, gb_nI (show v < 301 by omega) (by decide), gb_nI (show v < 301 by omega) (by decide), gb_nI (show v < 301 by omega) (by decide), ix_nI (k := v) (by omega)]
    have go : ∀ g', (g' = 0 ∨ (g' = 1 ∧ B < sm ((sg σ1 76 v r) 76) T)) → Ok (lf_X12_lives_38 N n K k (sg σ1 76 v r) g' (nI v - 1)) P := fun g' hg' => ih v _ g' (by omega) (by omega) (ql_76 hL) h2 (by rcases h3 with h3 | h3 <;> omega) hg'
    refine ok_if (fun z => ok_if (fun z2 => go 0 (Or.inl rfl)) (fun z2 => go 1 (Or.inr ⟨rfl, ?_⟩))) (fun z => go 1 (Or.inr ⟨rfl, ?_⟩))
    · rcases h3 with h3 | h3
      · exact absurd h3.1 z2
      · omega
    · rcases hg with q | ⟨-, q⟩
      · exact absurd q z
      · rcases h3 with h3 | h3 <;> omega
theorem lv25_loop {N n : Nat} (hN : 1000 ≤ N) {F T : Nat} : ∀ (k : Nat) (σ : Sg) (g : Int32), QL σ F T → LI σ T → ((g = 0 ∧ 1 ≤ k) ∨ (g = 1 ∧ 6601 < sm (σ 76) T + k)) → Ok (lf_X12_lives_25 N n (fun σ19 _ => some (0, σ19)) k σ g) (fun y => QL y.2 F T ∧ LI y.2 T) := by
  intro k
  induction k with
  | zero =>
    intro σ g hL hI hk
    have hT := hL.2.2.1
    have := sm_le (σ 76) T
    omega
  | succ k ih =>
    intro σ g hL hI hk
    have hT := hL.2.2.1
    have hsm := sm_le (σ 76) T
    show Ok (lb_X12_lives_25 N n _ (lf_X12_lives_25 N n _ k) σ g) _
    unfold lb_X12_lives_25
    refine ok_if (fun _ => ok_ret ⟨hL, hI⟩) (fun c => ?_)
    have hk := hk.resolve_left (fun q => c q.1)
    rw [hL.1]
    refine lv38_loop hN (B := sm (σ 76) T) (fun σ1 g1 x a b d => ih σ1 g1 a b ?_) N T σ 0 (Nat.le_refl _) (by omega) hL hI (Nat.le_refl _) (Or.inl rfl)
    rcases d with d | ⟨d1, d2⟩
    · exact Or.inl ⟨d, by omega⟩
    · exact Or.inr ⟨d1, by omega⟩
theorem lv2_loop {N n : Nat} {F T : Nat} {K : Sg → Int32 → Option (Int32 × Sg)} {P : Int32 × Sg → Prop} (hK : ∀ (σ : Sg) (x : Int32), QL σ F T → (∀ j, j ≤ T → σ 76 j = 0) → Ok (K σ x) P) :
    ∀ (k v : Nat) (σ : Sg), v ≤ T + 1 → T + 1 < v + k → QL σ F T → (∀ j, j < v → σ 76 j = 0) → Ok (lf_X12_lives_2 N n K k σ (nI v)) P := by
  intro k
  induction k with
  | zero => intro v σ h1 h2; omega
  | succ k ih =>
    intro v σ h1 h2 hL hz
    have hT := hL.2.2.1
    show Ok (lb_X12_lives_2 N n K (lf_X12_lives_2 N n K k) σ (nI v)) P
    unfold lb_X12_lives_2
    rw [hL.1]
    refine ok_if (fun c => ?_) (fun c => ?_)
    · rw [lt_nn (by omega) (by omega)] at c
      exact hK σ _ hL (fun j hj => hz j (by omega))
    · rw [lt_nn (by omega) (by omega)] at c
      rw [ad_nl v 1, gb_nI (show v < 301 by omega) (by decide), ix_nI (k := v) (by omega)]
      refine ih (v + 1) _ (by omega) (by omega) (ql_76 hL) (fun j hj => ?_)
      rw [sg_if]
      by_cases e : j = v
      · rw [if_pos e]
      · rw [if_neg e]; exact hz j (by omega)
theorem lives_ok {N n : Nat} (hN : 10000 ≤ N) {σ : Sg} {F T : Nat} (hL : QL σ F T) : Ok (f_X12_lives N n σ) (fun y => QL y.2 F T) := by
  have hT := hL.2.2.1
  unfold f_X12_lives
  refine lv2_loop (fun σ1 _ a b => ok_mono (lv25_loop (by omega) N σ1 1 a ⟨fun p hp w _ => by rw [b p hp]; exact b_0 w, fun p hp kd cc g _ _ _ _ _ w hw => ?_⟩ (Or.inr ⟨rfl, by omega⟩)) (fun y hy => hy.1)) N 0 σ (by omega) (by omega) hL (fun j hj => by omega)
  rw [b p (by omega), b_0] at hw
  exact nomatch hw
