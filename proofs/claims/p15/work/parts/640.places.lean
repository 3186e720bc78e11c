/-! Places: cells 13 (field 6: total), 14 kinds, 15 numbers, 16 goals, 17 written, 18 readCounts, 19 reads (place * 6 + which), 26 newNumbers, 27 blockStarts, 28 copyOf -/
theorem add_eq {N n : Nat} {σ : Sg} {t : Nat} (h : σ 13 6 = nI t) (ht : t < 300) (k v x : Int32) :
    f_X5_add N n σ k v x = some (0, sg (sg (sg (sg (sg (sg σ 14 t k) 17 t v) 15 t x) 16 t 0) 18 t 0) 13 6 (nI (t + 1))) := by
  unfold f_X5_add
  rw [h, ix_nI (k := t) (by omega), gb_nI ht (by decide), gb_nI ht (by decide), gb_nI ht (by decide), gb_nI ht (by decide), gb_nI ht (by decide), ad_nl t 1]
theorem addRead_eq {N n : Nat} {σ : Sg} {t c : Nat} (h : σ 13 6 = nI (t + 1)) (ht : t < 300) (hc : σ 18 t = nI c) (hc6 : c < 6) (v : Int32) :
    f_X5_addRead N n σ v = some (0, sg (sg σ 19 (t * 6 + c) v) 18 t (nI (c + 1))) := by
  unfold f_X5_addRead
  have e : σ 13 6 - 1 = nI t := by
    rw [h, sb_nl (k := 1) (show 1 ≤ t + 1 by omega)]
    exact congrArg nI (show t + 1 - 1 = t by omega)
  rw [e, ix_nI (k := t) (by omega), hc, ix_nI (k := c) (by omega), gb_nI ht (by decide), gb_nI hc6 (by decide), gb_nI ht (by decide), gb_nI ht (by decide), gb_nI ht (by decide), ad_nl c 1]
theorem jumps_eq {N n : Nat} {σ : Sg} {p k : Nat} (hp : p < 300) (h : σ 14 p = nI k) (hk : k < 16) : f_X5_jumps N n σ (nI p) = some (if k = 4 ∨ k = 5 then 1 else 0, σ) := by
  unfold f_X5_jumps
  rw [gb_nI hp (by decide), ix_nI (k := p) (by omega), h]
  by_cases c4 : k = 4
  · rw [if_pos (show nI k = 4 by rw [c4]; rfl), if_pos (Or.inl c4)]
  · rw [if_neg (show ¬ nI k = 4 from fun q => c4 ((nI_eq (a := k) (b := 4) (by omega) (by decide)).mp q)), gb_nI hp (by decide)]
    by_cases c5 : k = 5
    · rw [if_pos (show nI k = 5 by rw [c5]; rfl), if_pos (Or.inr c5)]
    · rw [if_neg (show ¬ nI k = 5 from fun q => c5 ((nI_eq (a := k) (b := 5) (by omega) (by decide)).mp q)), if_neg (by omega)]
