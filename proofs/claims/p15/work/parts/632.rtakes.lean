theorem rtakes_eq {N n : Nat} {σ : Sg} {F Wd : Nat} {ar lo st le : Nat → Nat} (h : PR σ F Wd ar lo st le) {k : Nat} (hk : k ≤ 17) {x : Int32} {y : Nat} (hy : k = 14 → y < F ∧ x = nI y) :
    f_X12_takes N n σ (nI k) x = some (nI (tkN ar k y), σ) := by
  obtain ⟨h1, h2, h3, h4, h5, -⟩ := h
  unfold f_X12_takes
  match k, hk, hy with
  | 0, _, _ => rw [if_pos (by decide)]; rfl
  | 1, _, _ => rw [if_pos (by decide)]; rfl
  | 2, _, _ => rw [if_neg (by decide), if_pos (by decide)]; rfl
  | 3, _, _ => rw [if_neg (by decide), if_neg (by decide), if_neg (by decide)]; rfl
  | 4, _, _ => rw [if_neg (by decide), if_neg (by decide), if_neg (by decide)]; rfl
  | 5, _, _ => rw [if_neg (by decide), if_neg (by decide), if_neg (by decide)]; rfl
  | 6, _, _ => rw [if_neg (by decide), if_neg (by decide), if_neg (by decide)]; rfl
  | 7, _, _ => rw [if_neg (by decide), if_neg (by decide), if_neg (by decide)]; rfl
  | 8, _, _ => rw [if_neg (by decide), if_neg (by decide), if_neg (by decide)]; rfl
  | 9, _, _ => rw [if_neg (by decide), if_pos (by decide)]; rfl
  | 10, _, _ => rw [if_neg (by decide), if_neg (by decide), if_neg (by decide)]; rfl
  | 11, _, _ => rw [if_neg (by decide), if_pos (by decide)]; rfl
  | 12, _, _ => rw [if_pos (by decide)]; rfl
  | 13, _, _ => rw [if_neg (by decide), if_pos (by decide)]; rfl
  | 14, _, hy =>
    obtain ⟨y1, rfl⟩ := hy rfl
    rw [if_neg (by decide), if_neg (by decide), if_pos (by decide), gb_nI (show y < 12 by omega) (by decide), ix_nI (k := y) (by omega), h5 y y1]
    rfl
  | 15, _, _ => rw [if_neg (by decide), if_pos (by decide)]; rfl
  | 16, _, _ => rw [if_neg (by decide), if_pos (by decide)]; rfl
  | 17, _, _ => rw [if_neg (by decide), if_neg (by decide), if_neg (by decide)]; rfl
  | k + 18, h, _ => omega
