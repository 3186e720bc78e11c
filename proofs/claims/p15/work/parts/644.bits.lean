/-! bits (rows of kit/laws/BITS.to-paste, as given for pasting) -/
def bt (x : Int32) (i : Nat) : Bool := x.toBitVec.getLsbD i
theorem b_ext {x y : Int32} (h : ∀ i, i < 32 → bt x i = bt y i) : x = y := Int32.toBitVec_inj.mp (BitVec.eq_of_getLsbD_eq (fun i hi => h i hi))
theorem b_or (x y : Int32) (i : Nat) : bt (x ||| y) i = (bt x i || bt y i) := by unfold bt; rw [Int32.toBitVec_or, BitVec.getLsbD_or]
theorem b_and (x y : Int32) (i : Nat) : bt (x &&& y) i = (bt x i && bt y i) := by unfold bt; rw [Int32.toBitVec_and, BitVec.getLsbD_and]
theorem b_xor (x y : Int32) (i : Nat) : bt (x ^^^ y) i = (bt x i ^^ bt y i) := by unfold bt; rw [Int32.toBitVec_xor, BitVec.getLsbD_xor]
theorem b_big {x : Int32} {i : Nat} (h : 32 ≤ i) : bt x i = false := BitVec.getLsbD_of_ge _ _ h
theorem b_m1 : ∀ i, i < 32 → bt (-1) i = true := by decide +kernel
theorem b_0 (i : Nat) : bt 0 i = false := BitVec.getLsbD_zero
theorem s_l : ∀ n, n < 32 → ((nI n &&& 31).toBitVec.smod 32).toNat = n := by decide +kernel
theorem b_shl (n : Nat) (hn : n < 32) (x : Int32) {i : Nat} (hi : i < 32) : bt (x <<< (nI n &&& 31)) i = (decide (n ≤ i) && bt x (i - n)) := by
  unfold bt
  rw [Int32.toBitVec_shiftLeft]
  show (x.toBitVec <<< ((nI n &&& 31).toBitVec.smod 32).toNat).getLsbD i = _
  rw [s_l n hn, BitVec.getLsbD_shiftLeft]
  rcases Nat.lt_or_ge i n with h | h
  · simp [h, Nat.not_le.mpr h]
  · simp [hi, h, Nat.not_lt.mpr h]
theorem b_sshr (n : Nat) (hn : n < 32) (x : Int32) {i : Nat} (hi : i < 32) : bt (x >>> (nI n &&& 31)) i = if n + i < 32 then bt x (n + i) else bt x 31 := by
  unfold bt
  rw [Int32.toBitVec_shiftRight]
  show (x.toBitVec.sshiftRight ((nI n &&& 31).toBitVec.smod 32).toNat).getLsbD i = _
  rw [s_l n hn, BitVec.getLsbD_sshiftRight, BitVec.msb_eq_getLsbD_last]
  simp [hi]
/-! own rows on one bit -/
theorem b_1 : ∀ i, i < 32 → bt 1 i = decide (i = 0) := by decide +kernel
theorem b_tst {x : Int32} {v : Nat} (hv : v < 32) : ((x >>> (nI v &&& 31)) &&& 1) = 0 ↔ bt x v = false := by
  constructor
  · intro h
    have h1 : bt ((x >>> (nI v &&& 31)) &&& 1) 0 = bt 0 0 := by rw [h]
    rw [b_and, b_sshr v hv x (by omega), b_0, if_pos (by omega), b_1 0 (by omega)] at h1
    simpa using h1
  · intro h
    refine b_ext fun i hi => ?_
    rw [b_and, b_0, b_1 i hi]
    by_cases e : i = 0
    · subst e
      rw [b_sshr v hv x (by omega), if_pos (by omega), Nat.add_zero, h]
      rfl
    · rw [decide_eq_false e, Bool.and_false]
theorem b_sh1 {v i : Nat} (hv : v < 32) (hi : i < 32) : bt ((1 : Int32) <<< (nI v &&& 31)) i = decide (i = v) := by
  rw [b_shl v hv 1 hi, b_1 (i - v) (by omega)]
  by_cases e : i = v
  · subst e
    simp
  · rw [decide_eq_false e]
    by_cases q : v ≤ i
    · rw [decide_eq_false (show ¬ i - v = 0 by omega), Bool.and_false]
    · rw [decide_eq_false q, Bool.false_and]
theorem fill28_loop {N n : Nat} {σ0 : Sg} {x : Int32} :
    ∀ (k v : Nat) (σ : Sg), v ≤ 22 → 22 < v + k → (∀ c j, c ≠ 28 → σ c j = σ0 c j) → (∀ j, j < v → σ 28 j = x) → Ok (lf_J7_fill_53178_28_5 N n x (fun σ3 _ => some (0, σ3)) k σ (nI v)) (fun y => (∀ c j, c ≠ 28 → y.2 c j = σ0 c j) ∧ ∀ j, j < 22 → y.2 28 j = x) := by
  intro k
  induction k with
  | zero => intro v σ h1 h2; omega
  | succ k ih =>
    intro v σ h1 h2 hs hv
    show Ok (lb_J7_fill_53178_28_5 N n x _ (lf_J7_fill_53178_28_5 N n x _ k) σ (nI v)) _
    unfold lb_J7_fill_53178_28_5
    have e0 : ((22 : Int32) ≤ nI v) = (22 ≤ v) := le_ln (k := 22) (by omega) (by decide)
    refine ok_if (fun c => ?_) (fun c => ?_)
    · rw [e0] at c
      exact ok_ret ⟨hs, fun j hj => hv j (by omega)⟩
    · rw [e0] at c
      rw [gb_nI (show v < 22 by omega) (by decide), ix_nI (k := v) (by omega), ad_nl v 1]
      refine ih (v + 1) _ (by omega) (by omega) (fun c j q => (sg_c q).trans (hs c j q)) (fun j hj => ?_)
      rw [sg_if]
      by_cases e : j = v
      · rw [if_pos e]
      · rw [if_neg e]; exact hv j (by omega)
theorem fill28_ok {N n : Nat} (hN : 1000 ≤ N) {σ : Sg} (x : Int32) : Ok (f_J7_fill_53178_28 N n σ x) (fun y => (∀ c j, c ≠ 28 → y.2 c j = σ c j) ∧ ∀ j, j < 22 → y.2 28 j = x) :=
  fill28_loop N 0 σ (by omega) (by omega) (fun _ _ _ => rfl) (fun j hj => by omega)
theorem fill30_loop {N n : Nat} {σ0 : Sg} {x : Int32} :
    ∀ (k v : Nat) (σ : Sg), v ≤ 300 → 300 < v + k → (∀ c j, c ≠ 30 → σ c j = σ0 c j) → (∀ j, j < v → σ 30 j = x) → Ok (lf_J7_fill_53178_30_5 N n x (fun σ3 _ => some (0, σ3)) k σ (nI v)) (fun y => (∀ c j, c ≠ 30 → y.2 c j = σ0 c j) ∧ ∀ j, j < 300 → y.2 30 j = x) := by
  intro k
  induction k with
  | zero => intro v σ h1 h2; omega
  | succ k ih =>
    intro v σ h1 h2 hs hv
    show Ok (lb_J7_fill_53178_30_5 N n x _ (lf_J7_fill_53178_30_5 N n x _ k) σ (nI v)) _
    unfold lb_J7_fill_53178_30_5
    have e0 : ((300 : Int32) ≤ nI v) = (300 ≤ v) := le_ln (k := 300) (by omega) (by decide)
    refine ok_if (fun c => ?_) (fun c => ?_)
    · rw [e0] at c
      exact ok_ret ⟨hs, fun j hj => hv j (by omega)⟩
    · rw [e0] at c
      rw [gb_nI (show v < 300 by omega) (by decide), ix_nI (k := v) (by omega), ad_nl v 1]
      refine ih (v + 1) _ (by omega) (by omega) (fun c j q => (sg_c q).trans (hs c j q)) (fun j hj => ?_)
      rw [sg_if]
      by_cases e : j = v
      · rw [if_pos e]
      · rw [if_neg e]; exact hv j (by omega)
theorem fill30_ok {N n : Nat} (hN : 1000 ≤ N) {σ : Sg} (x : Int32) : Ok (f_J7_fill_53178_30 N n σ x) (fun y => (∀ c j, c ≠ 30 → y.2 c j = σ c j) ∧ ∀ j, j < 300 → y.2 30 j = x) :=
  fill30_loop N 0 σ (by omega) (by omega) (fun _ _ _ => rfl) (fun j hj => by omega)
theorem fill38_loop {N n : Nat} {σ0 : Sg} {x : Int32} :
    ∀ (k v : Nat) (σ : Sg), v ≤ 16 → 16 < v + k → (∀ c j, c ≠ 38 → σ c j = σ0 c j) → (∀ j, j < v → σ 38 j = x) → Ok (lf_J7_fill_53178_38_5 N n x (fun σ3 _ => some (0, σ3)) k σ (nI v)) (fun y => (∀ c j, c ≠ 38 → y.2 c j = σ0 c j) ∧ ∀ j, j < 16 → y.2 38 j = x) := by
  intro k
  induction k with
  | zero => intro v σ h1 h2; omega
  | succ k ih =>
    intro v σ h1 h2 hs hv
    show Ok (lb_J7_fill_53178_38_5 N n x _ (lf_J7_fill_53178_38_5 N n x _ k) σ (nI v)) _
    unfold lb_J7_fill_53178_38_5
    have e0 : ((16 : Int32) ≤ nI v) = (16 ≤ v) := le_ln (k := 16) (by omega) (by decide)
    refine ok_if (fun c => ?_) (fun c => ?_)
    · rw [e0] at c
      exact ok_ret ⟨hs, fun j hj => hv j (by omega)⟩
    · rw [e0] at c
      rw [gb_nI (show v < 16 by omega) (by decide), ix_nI (k := v) (by omega), ad_nl v 1]
      refine ih (v + 1) _ (by omega) (by omega) (fun c j q => (sg_c q).trans (hs c j q)) (fun j hj => ?_)
      rw [sg_if]
      by_cases e : j = v
      · rw [if_pos e]
      · rw [if_neg e]; exact hv j (by omega)
theorem fill38_ok {N n : Nat} (hN : 1000 ≤ N) {σ : Sg} (x : Int32) : Ok (f_J7_fill_53178_38 N n σ x) (fun y => (∀ c j, c ≠ 38 → y.2 c j = σ c j) ∧ ∀ j, j < 16 → y.2 38 j = x) :=
  fill38_loop N 0 σ (by omega) (by omega) (fun _ _ _ => rfl) (fun j hj => by omega)
theorem fill46_loop {N n : Nat} {σ0 : Sg} {x : Int32} :
    ∀ (k v : Nat) (σ : Sg), v ≤ 64 → 64 < v + k → (∀ c j, c ≠ 46 → σ c j = σ0 c j) → (∀ j, j < v → σ 46 j = x) → Ok (lf_J7_fill_53178_46_5 N n x (fun σ3 _ => some (0, σ3)) k σ (nI v)) (fun y => (∀ c j, c ≠ 46 → y.2 c j = σ0 c j) ∧ ∀ j, j < 64 → y.2 46 j = x) := by
  intro k
  induction k with
  | zero => intro v σ h1 h2; omega
  | succ k ih =>
    intro v σ h1 h2 hs hv
    show Ok (lb_J7_fill_53178_46_5 N n x _ (lf_J7_fill_53178_46_5 N n x _ k) σ (nI v)) _
    unfold lb_J7_fill_53178_46_5
    have e0 : ((64 : Int32) ≤ nI v) = (64 ≤ v) := le_ln (k := 64) (by omega) (by decide)
    refine ok_if (fun c => ?_) (fun c => ?_)
    · rw [e0] at c
      exact ok_ret ⟨hs, fun j hj => hv j (by omega)⟩
    · rw [e0] at c
      rw [gb_nI (show v < 64 by omega) (by decide), ix_nI (k := v) (by omega), ad_nl v 1]
      refine ih (v + 1) _ (by omega) (by omega) (fun c j q => (sg_c q).trans (hs c j q)) (fun j hj => ?_)
      rw [sg_if]
      by_cases e : j = v
      · rw [if_pos e]
      · rw [if_neg e]; exact hv j (by omega)
theorem fill46_ok {N n : Nat} (hN : 1000 ≤ N) {σ : Sg} (x : Int32) : Ok (f_J7_fill_53178_46 N n σ x) (fun y => (∀ c j, c ≠ 46 → y.2 c j = σ c j) ∧ ∀ j, j < 64 → y.2 46 j = x) :=
  fill46_loop N 0 σ (by omega) (by omega) (fun _ _ _ => rfl) (fun j hj => by omega)
theorem fill53_loop {N n : Nat} {σ0 : Sg} {x : Int32} :
    ∀ (k v : Nat) (σ : Sg), v ≤ 64 → 64 < v + k → (∀ c j, c ≠ 53 → σ c j = σ0 c j) → (∀ j, j < v → σ 53 j = x) → Ok (lf_J7_fill_53178_53_5 N n x (fun σ3 _ => some (0, σ3)) k σ (nI v)) (fun y => (∀ c j, c ≠ 53 → y.2 c j = σ0 c j) ∧ ∀ j, j < 64 → y.2 53 j = x) := by
  intro k
  induction k with
  | zero => intro v σ h1 h2; omega
  | succ k ih =>
    intro v σ h1 h2 hs hv
    show Ok (lb_J7_fill_53178_53_5 N n x _ (lf_J7_fill_53178_53_5 N n x _ k) σ (nI v)) _
    unfold lb_J7_fill_53178_53_5
    have e0 : ((64 : Int32) ≤ nI v) = (64 ≤ v) := le_ln (k := 64) (by omega) (by decide)
    refine ok_if (fun c => ?_) (fun c => ?_)
    · rw [e0] at c
      exact ok_ret ⟨hs, fun j hj => hv j (by omega)⟩
    · rw [e0] at c
      rw [gb_nI (show v < 64 by omega) (by decide), ix_nI (k := v) (by omega), ad_nl v 1]
      refine ih (v + 1) _ (by omega) (by omega) (fun c j q => (sg_c q).trans (hs c j q)) (fun j hj => ?_)
      rw [sg_if]
      by_cases e : j = v
      · rw [if_pos e]
      · rw [if_neg e]; exact hv j (by omega)
theorem fill53_ok {N n : Nat} (hN : 1000 ≤ N) {σ : Sg} (x : Int32) : Ok (f_J7_fill_53178_53 N n σ x) (fun y => (∀ c j, c ≠ 53 → y.2 c j = σ c j) ∧ ∀ j, j < 64 → y.2 53 j = x) :=
  fill53_loop N 0 σ (by omega) (by omega) (fun _ _ _ => rfl) (fun j hj => by omega)
theorem fill58_loop {N n : Nat} {σ0 : Sg} {x : Int32} :
    ∀ (k v : Nat) (σ : Sg), v ≤ 6 → 6 < v + k → (∀ c j, c ≠ 58 → σ c j = σ0 c j) → (∀ j, j < v → σ 58 j = x) → Ok (lf_J7_fill_53178_58_5 N n x (fun σ3 _ => some (0, σ3)) k σ (nI v)) (fun y => (∀ c j, c ≠ 58 → y.2 c j = σ0 c j) ∧ ∀ j, j < 6 → y.2 58 j = x) := by
  intro k
  induction k with
  | zero => intro v σ h1 h2; omega
  | succ k ih =>
    intro v σ h1 h2 hs hv
    show Ok (lb_J7_fill_53178_58_5 N n x _ (lf_J7_fill_53178_58_5 N n x _ k) σ (nI v)) _
    unfold lb_J7_fill_53178_58_5
    have e0 : ((6 : Int32) ≤ nI v) = (6 ≤ v) := le_ln (k := 6) (by omega) (by decide)
    refine ok_if (fun c => ?_) (fun c => ?_)
    · rw [e0] at c
      exact ok_ret ⟨hs, fun j hj => hv j (by omega)⟩
    · rw [e0] at c
      rw [gb_nI (show v < 6 by omega) (by decide), ix_nI (k := v) (by omega), ad_nl v 1]
      refine ih (v + 1) _ (by omega) (by omega) (fun c j q => (sg_c q).trans (hs c j q)) (fun j hj => ?_)
      rw [sg_if]
      by_cases e : j = v
      · rw [if_pos e]
      · rw [if_neg e]; exact hv j (by omega)
theorem fill58_ok {N n : Nat} (hN : 1000 ≤ N) {σ : Sg} (x : Int32) : Ok (f_J7_fill_53178_58 N n σ x) (fun y => (∀ c j, c ≠ 58 → y.2 c j = σ c j) ∧ ∀ j, j < 6 → y.2 58 j = x) :=
  fill58_loop N 0 σ (by omega) (by omega) (fun _ _ _ => rfl) (fun j hj => by omega)
