/-! pure numbers: what is a natural number is written nI k, and pictures are rewritten to it -/
def Ok {β : Type} (x : Option β) (P : β → Prop) : Prop := ∃ y, x = some y ∧ P y
theorem ok_ret {β : Type} {y : β} {P : β → Prop} (h : P y) : Ok (some y) P := ⟨y, rfl, h⟩
theorem ok_gb {β : Type} {i : Int32} {n : Nat} {x : Option β} {P : β → Prop} (hi : vp_in i n) (h : Ok x P) : Ok (gb i n x) P := by rw [gb_ok hi]; exact h
theorem ok_bd {β : Type} {x : Option (Int32 × Sg)} {k : Int32 → Sg → Option β} {P : β → Prop} {P1 : Int32 × Sg → Prop} (h : Ok x P1) (hk : ∀ (r : Int32) (σ : Sg), x = some (r, σ) → P1 (r, σ) → Ok (k r σ) P) : Ok (bd x k) P := by
  obtain ⟨y, rfl, hy⟩ := h
  exact hk y.1 y.2 rfl hy
theorem ok_if {β : Type} {c : Prop} {d : Decidable c} {a b : Option β} {P : β → Prop} (h1 : c → Ok a P) (h2 : ¬ c → Ok b P) : Ok (@ite _ c d a b) P := by
  by_cases h : c
  · rw [if_pos h]; exact h1 h
  · rw [if_neg h]; exact h2 h
theorem ok_mono {β : Type} {x : Option β} {P R : β → Prop} (h : Ok x P) (k : ∀ y, P y → R y) : Ok x R := by
  obtain ⟨y, e, hy⟩ := h
  exact ⟨y, e, k y hy⟩
theorem ok_g01 {β : Type} {v : Int32} {x : Option β} {P : β → Prop} (hv : v = 0 ∨ v = 1) (h : Ok x P) : Ok (g01 v x) P := by
  unfold g01
  rw [decide_eq_true hv]
  exact h
theorem ok_gdz {β : Type} {v : Int32} {x : Option β} {P : β → Prop} (hv : ¬ v = 0) (h : Ok x P) : Ok (gdz v x) P := by
  unfold gdz
  rw [decide_eq_false hv]
  exact h
theorem ix_nI {k : Nat} (h : k < 2147483648) : ix (nI k) = k := nI_clamp h
theorem gb_nI {α : Type} {k n : Nat} {x : Option α} (h : k < n) (hn : n < 2147483648) : gb (nI k) n x = x := gb_ok (vp_in_nI h hn)
theorem lt_nn {a b : Nat} (ha : a < 2147483648) (hb : b < 2147483648) : (nI a < nI b) = (a < b) := propext (nI_ltI ha hb)
theorem le_nn {a b : Nat} (ha : a < 2147483648) (hb : b < 2147483648) : (nI a ≤ nI b) = (a ≤ b) := propext (nI_leI ha hb)
theorem eq_nn {a b : Nat} (ha : a < 2147483648) (hb : b < 2147483648) : (nI a = nI b) = (a = b) := propext (nI_eq ha hb)
theorem lt_nl {a k : Nat} (ha : a < 2147483648) (hk : OfNat.ofNat k < 2147483648) : (nI a < (no_index (OfNat.ofNat k) : Int32)) = (a < OfNat.ofNat k) := lt_nn ha hk
theorem le_nl {a k : Nat} (ha : a < 2147483648) (hk : OfNat.ofNat k < 2147483648) : (nI a ≤ (no_index (OfNat.ofNat k) : Int32)) = (a ≤ OfNat.ofNat k) := le_nn ha hk
theorem lt_ln {a k : Nat} (ha : a < 2147483648) (hk : OfNat.ofNat k < 2147483648) : ((no_index (OfNat.ofNat k) : Int32) < nI a) = (OfNat.ofNat k < a) := lt_nn hk ha
theorem le_ln {a k : Nat} (ha : a < 2147483648) (hk : OfNat.ofNat k < 2147483648) : ((no_index (OfNat.ofNat k) : Int32) ≤ nI a) = (OfNat.ofNat k ≤ a) := le_nn hk ha
theorem eq_nl {a k : Nat} (ha : a < 2147483648) (hk : OfNat.ofNat k < 2147483648) : (nI a = (no_index (OfNat.ofNat k) : Int32)) = (a = OfNat.ofNat k) := eq_nn ha hk
theorem ad_nn (a b : Nat) : nI a + nI b = nI (a + b) := nI_add a b
theorem ad_nl (a k : Nat) : nI a + (no_index (OfNat.ofNat k) : Int32) = nI (a + OfNat.ofNat k) := nI_add a k
theorem ad_ln (a k : Nat) : (no_index (OfNat.ofNat k) : Int32) + nI a = nI (OfNat.ofNat k + a) := nI_add k a
theorem sb_nn {a b : Nat} (h : b ≤ a) : nI a - nI b = nI (a - b) := pk_sub h
theorem sb_nl {a k : Nat} (h : OfNat.ofNat k ≤ a) : nI a - (no_index (OfNat.ofNat k) : Int32) = nI (a - OfNat.ofNat k) := pk_sub h
theorem ml_nl (a k : Nat) : nI a * (no_index (OfNat.ofNat k) : Int32) = nI (a * OfNat.ofNat k) := pk_mul a k
theorem ml_ln (a k : Nat) : (no_index (OfNat.ofNat k) : Int32) * nI a = nI (OfNat.ofNat k * a) := pk_mul k a
theorem ml_nn (a b : Nat) : nI a * nI b = nI (a * b) := pk_mul a b
theorem n1_ne {a : Nat} (ha : a < 2147483648) : ¬ nI a = (-1) := fun h => by
  have h1 := congrArg Int32.toInt h
  rw [nI_toInt ha] at h1
  have h2 : (-1 : Int32).toInt = -1 := by decide
  omega
theorem sg_at (σ : Sg) (c i : Nat) (v : Int32) : sg σ c i v c i = v := by
  unfold sg
  rw [Nat.beq_refl]
  exact if_pos rfl
theorem sg_ne {σ : Sg} {c i j : Nat} {v : Int32} (h : j ≠ i) : sg σ c i v c j = σ c j := by
  unfold sg
  rw [Nat.beq_refl]
  exact if_neg h
theorem sg_if (σ : Sg) (c i : Nat) (v : Int32) (j : Nat) : sg σ c i v c j = if j = i then v else σ c j := by
  unfold sg
  rw [Nat.beq_refl]
  rfl
/-- every number is below 0, or a natural number -/
theorem cs_n (x : Int32) : x < 0 ∨ ∃ k : Nat, k < 2147483648 ∧ x = nI k := by
  by_cases h : x < 0
  · exact Or.inl h
  · exact Or.inr (nI_of h)
