/-- how many below k -/
def cn (p : Nat → Bool) : Nat → Nat
  | 0 => 0
  | k + 1 => cn p k + (if p k = true then 1 else 0)
theorem cn_le (p : Nat → Bool) (k : Nat) : cn p k ≤ k := by
  induction k with
  | zero => exact Nat.le_refl _
  | succ k ih => unfold cn; split <;> omega
theorem cn_full {p : Nat → Bool} {k : Nat} (h : cn p k = k) : ∀ w, w < k → p w = true := by
  induction k with
  | zero => intro w hw; omega
  | succ k ih =>
    intro w hw
    have h0 := cn_le p k
    unfold cn at h
    by_cases q : p k = true
    · rw [if_pos q] at h
      by_cases e : w = k
      · rw [e]; exact q
      · exact ih (by omega) w (by omega)
    · rw [if_neg q] at h
      omega
theorem cn_eq {p r : Nat → Bool} {k : Nat} (h : ∀ w, w < k → p w = r w) : cn p k = cn r k := by
  induction k with
  | zero => rfl
  | succ k ih =>
    unfold cn
    rw [ih (fun w hw => h w (by omega)), h k (by omega)]
theorem cn_set {p r : Nat → Bool} {k w : Nat} (hw : w < k) (h0 : p w = false) (h1 : r w = true) (h : ∀ v, v < k → v ≠ w → r v = p v) : cn r k = cn p k + 1 := by
  induction k with
  | zero => omega
  | succ k ih =>
    unfold cn
    by_cases e : w = k
    · subst e
      rw [cn_eq (p := r) (r := p) (k := w) (fun v hv => h v (by omega) (by omega)), h0, h1]
      rfl
    · rw [ih (by omega) (fun v hv hn => h v (by omega) hn), h k (by omega) (by omega)]
      omega
theorem least_ok {N n : Nat} {σ : Sg} {S Ln : Nat} (hS : S + Ln ≤ 300) :
    ∀ (k v : Nat), v ≤ Ln → Ln < v + k → Ok (lf_X0_leastWaiting_5 N n (nI S) (nI Ln) (fun σ6 _ => some ((-1), σ6)) k σ (nI v)) (fun y => y.2 = σ ∧ ((y.1 = (-1) ∧ ∀ w, v ≤ w → w < Ln → σ 8 (S + w) = (-1) ∨ ¬ σ 10 (S + w) = 0) ∨ ∃ w, v ≤ w ∧ w < Ln ∧ y.1 = nI w ∧ ¬ σ 8 (S + w) = (-1) ∧ σ 10 (S + w) = 0 ∧ ∀ u, v ≤ u → u < w → σ 8 (S + u) = (-1) ∨ ¬ σ 10 (S + u) = 0)) := by
  intro k
  induction k with
  | zero => intro v h1 h2; omega
  | succ k ih =>
    intro v h1 h2
    show Ok (lb_X0_leastWaiting_5 N n (nI S) (nI Ln) _ (lf_X0_leastWaiting_5 N n (nI S) (nI Ln) _ k) σ (nI v)) _
    unfold lb_X0_leastWaiting_5
    refine ok_if (fun c => ?_) (fun c => ?_)
    · rw [le_nn (by omega) (by omega)] at c
      exact ok_ret ⟨rfl, Or.inl ⟨rfl, fun w q1 q2 => by omega⟩⟩
    · rw [le_nn (by omega) (by omega)] at c
      rw [ad_nn, ix_nI (k := S + v) (by omega), gb_nI (by omega) (by omega), ad_nl v 1]
      have next : (σ 8 (S + v) = (-1) ∨ ¬ σ 10 (S + v) = 0) → Ok (lf_X0_leastWaiting_5 N n (nI S) (nI Ln) (fun σ6 _ => some ((-1), σ6)) k σ (nI (v + 1))) (fun y => y.2 = σ ∧ ((y.1 = (-1) ∧ ∀ w, v ≤ w → w < Ln → σ 8 (S + w) = (-1) ∨ ¬ σ 10 (S + w) = 0) ∨ ∃ w, v ≤ w ∧ w < Ln ∧ y.1 = nI w ∧ ¬ σ 8 (S + w) = (-1) ∧ σ 10 (S + w) = 0 ∧ ∀ u, v ≤ u → u < w → σ 8 (S + u) = (-1) ∨ ¬ σ 10 (S + u) = 0)) := by
        intro hv
        refine ok_mono (ih (v + 1) (by omega) (by omega)) (fun y hy => ⟨hy.1, ?_⟩)
        rcases hy.2 with ⟨p, q⟩ | ⟨w, p1, p2, p3⟩
        · refine Or.inl ⟨p, fun w q1 q2 => ?_⟩
          by_cases e : w = v
          · rw [e]; exact hv
          · exact q w (by omega) q2
        · refine Or.inr ⟨w, by omega, p2, p3.1, p3.2.1, p3.2.2.1, fun u z1 z2 => ?_⟩
          by_cases e : u = v
          · rw [e]; exact hv
          · exact p3.2.2.2 u (by omega) z2
      refine ok_if (fun c1 => next (Or.inl c1)) (fun c1 => ?_)
      rw [gb_nI (by omega) (by omega)]
      exact ok_if (fun c2 => ok_ret ⟨rfl, Or.inr ⟨v, Nat.le_refl _, by omega, rfl, c1, c2, fun u z1 z2 => by omega⟩⟩) (fun c2 => next (Or.inr c2))
/-- the depths of one FUNC are wiped -/
def Wp (S v : Nat) (σ σ' : Sg) : Prop := (∀ c j, c ≠ 8 → c ≠ 10 → σ' c j = σ c j) ∧ (∀ j, (j < S ∨ S + v ≤ j) → σ' 8 j = σ 8 j ∧ σ' 10 j = σ 10 j) ∧ ∀ w, w < v → σ' 8 (S + w) = (-1) ∧ σ' 10 (S + w) = 0
theorem sg_c {σ : Sg} {c d i j : Nat} {v : Int32} (h : c ≠ d) : sg σ d i v c j = σ c j := by
  unfold sg
  cases hb : Nat.beq c d with
  | false => rfl
  | true => exact absurd (Nat.eq_of_beq_eq_true hb) h
theorem wipe_ok {N n : Nat} {S Ln : Nat} {f : Int32} {K : Sg → Int32 → Option (Int32 × Sg)} (hS : S + Ln ≤ 300) {σ0 : Sg} :
    ∀ (k v : Nat) (σ : Sg), v ≤ Ln → Ln < v + k → Wp S v σ0 σ → ∃ σ', Wp S Ln σ0 σ' ∧ lf_X0_faultOfFunc_23 N n f (nI S) (nI Ln) K k σ (nI v) = K σ' (nI Ln) := by
  intro k
  induction k with
  | zero => intro v σ h1 h2; omega
  | succ k ih =>
    intro v σ h1 h2 hW
    show ∃ σ', Wp S Ln σ0 σ' ∧ lb_X0_faultOfFunc_23 N n f (nI S) (nI Ln) K (lf_X0_faultOfFunc_23 N n f (nI S) (nI Ln) K k) σ (nI v) = K σ' (nI Ln)
    unfold lb_X0_faultOfFunc_23
    by_cases c : nI Ln ≤ nI v
    · rw [if_pos c]
      rw [le_nn (by omega) (by omega)] at c
      obtain rfl : v = Ln := by omega
      exact ⟨σ, hW, rfl⟩
    · rw [if_neg c]
      rw [le_nn (by omega) (by omega)] at c
      rw [ad_nn, ix_nI (k := S + v) (by omega), gb_nI (by omega) (by omega), gb_nI (by omega) (by omega), ad_nl v 1]
      refine ih (v + 1) _ (by omega) (by omega) ?_
      obtain ⟨w1, w2, w3⟩ := hW
      refine ⟨fun d j q1 q2 => ?_, fun j q => ?_, fun w hw => ?_⟩
      · rw [sg_c q2, sg_c q1]; exact w1 d j q1 q2
      · obtain ⟨z1, z2⟩ := w2 j (by omega)
        constructor
        · show sg σ 8 (S + v) (-1) 8 j = _
          rw [sg_ne (by omega)]; exact z1
        · rw [sg_ne (by omega), sg_c (by decide)]; exact z2
      · by_cases e : w = v
        · subst e
          constructor
          · show sg σ 8 (S + w) (-1) 8 (S + w) = _
            exact sg_at _ _ _ _
          · exact sg_at _ _ _ _
        · obtain ⟨z1, z2⟩ := w3 w (by omega)
          constructor
          · show sg σ 8 (S + v) (-1) 8 (S + w) = _
            rw [sg_ne (by omega)]; exact z1
          · rw [sg_ne (by omega), sg_c (by decide)]; exact z2
