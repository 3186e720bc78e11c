/-- depths in their range -/
def DI (S Ln : Nat) (σ : Sg) : Prop := ∀ w, w < Ln → σ 8 (S + w) = (-1) ∨ ∃ d, d ≤ 12 ∧ σ 8 (S + w) = nI d
/-- depths of the FUNC at S may come up where there were none; the lowest goes down with them -/
def Gr (S Ln : Nat) (σ σ' : Sg) : Prop :=
  (∀ c j, c ≠ 8 → ¬ (c = 9 ∧ j = 2) → σ' c j = σ c j) ∧ (∀ j, (j < S ∨ S + Ln ≤ j) → σ' 8 j = σ 8 j) ∧
  ∀ a, a < 2147483648 → σ 9 2 = nI a → ∃ a', a' ≤ a ∧ σ' 9 2 = nI a' ∧ ∀ w, w < Ln → σ' 8 (S + w) = σ 8 (S + w) ∨ (σ 8 (S + w) = (-1) ∧ (∃ b, b ≤ 12 ∧ σ' 8 (S + w) = nI b) ∧ a' ≤ w)
theorem gr_refl (S Ln : Nat) (σ : Sg) : Gr S Ln σ σ := ⟨fun _ _ _ _ => rfl, fun _ _ => rfl, fun a _ h => ⟨a, Nat.le_refl _, h, fun _ _ => Or.inl rfl⟩⟩
theorem gr_trans {S Ln : Nat} {σ σ1 σ2 : Sg} (h : Gr S Ln σ σ1) (k : Gr S Ln σ1 σ2) : Gr S Ln σ σ2 := by
  obtain ⟨h1, h2, h3⟩ := h
  obtain ⟨k1, k2, k3⟩ := k
  refine ⟨fun c j q r => (k1 c j q r).trans (h1 c j q r), fun j q => (k2 j q).trans (h2 j q), fun a ha e => ?_⟩
  obtain ⟨a1, l1, e1, w1⟩ := h3 a ha e
  obtain ⟨a2, l2, e2, w2⟩ := k3 a1 (by omega) e1
  refine ⟨a2, by omega, e2, fun w hw => ?_⟩
  rcases w1 w hw with p | ⟨p, q, r⟩
  · rcases w2 w hw with p2 | ⟨p2, q2, r2⟩
    · exact Or.inl (p2.trans p)
    · exact Or.inr ⟨p ▸ p2, q2, r2⟩
  · rcases w2 w hw with p2 | ⟨p2, q2, r2⟩
    · obtain ⟨b, hb, eb⟩ := q
      exact Or.inr ⟨p, ⟨b, hb, p2.trans eb⟩, by omega⟩
    · exact Or.inr ⟨p, q2, r2⟩
theorem gr_DI {S Ln : Nat} {σ σ' : Sg} {a : Nat} (ha : a < 2147483648) (e : σ 9 2 = nI a) (h : Gr S Ln σ σ') (k : DI S Ln σ) : DI S Ln σ' := by
  intro w hw
  obtain ⟨a', -, -, h3⟩ := h.2.2 a ha e
  rcases h3 w hw with p | ⟨-, ⟨b, hb, eb⟩, -⟩
  · rw [p]; exact k w hw
  · exact Or.inr ⟨b, hb, eb⟩
/-- a depth that is there stays -/
theorem gr_keep {S Ln : Nat} {σ σ' : Sg} {a w d : Nat} (ha : a < 2147483648) (e : σ 9 2 = nI a) (h : Gr S Ln σ σ') (hw : w < Ln) (hd : d < 2147483648) (k : σ 8 (S + w) = nI d) : σ' 8 (S + w) = nI d := by
  obtain ⟨a', -, -, h3⟩ := h.2.2 a ha e
  rcases h3 w hw with p | ⟨p, -, -⟩
  · exact p.trans k
  · exact absurd (k.symm.trans p) (n1_ne hd)
theorem gr_PI {S Ln : Nat} {σ σ' : Sg} {F Wd : Nat} {ar lo st le : Nat → Nat} (h : Gr S Ln σ σ') (k : PI σ F Wd ar lo st le) : PI σ' F Wd ar lo st le := by
  have e := h.1
  obtain ⟨h1, h2, h3, h4, h5, h6, h7, h8, h9⟩ := k
  refine ⟨(e 1 7 (by omega) (by omega)).trans h1, h2, (e 1 8 (by omega) (by omega)).trans h3, h4, fun f hf => (e 2 f (by omega) (by omega)).trans (h5 f hf), fun f hf => (e 3 f (by omega) (by omega)).trans (h6 f hf), fun f hf => (e 4 f (by omega) (by omega)).trans (h7 f hf), fun f hf => (e 5 f (by omega) (by omega)).trans (h8 f hf), h9⟩
theorem reach_ok {N n : Nat} {σ : Sg} {F Wd : Nat} {ar lo st le : Nat → Nat} (h : PI σ F Wd ar lo st le) {f w b a : Nat} (hf : f < F) (hw : w < le f) (hb : b ≤ 12) (hD : DI (st f) (le f) σ) (ha : a < 2147483648) (e : σ 9 2 = nI a) :
    Ok (f_X0_reach N n σ (nI f) (nI w) (nI b)) (fun y => Gr (st f) (le f) σ y.2 ∧ ((y.1 = 1 ∧ y.2 8 (st f + w) = nI b) ∨ y.1 = 0)) := by
  rcases hD w hw with p | ⟨d, hd, p⟩
  · rw [reach_new h hf hw p]
    refine ok_ret ⟨⟨fun c j q r => ?_, fun j q => ?_, fun a2 ha2 e2 => ?_⟩, Or.inl ⟨rfl, ?_⟩⟩
    · show sg (sg σ 8 (st f + w) (nI b)) 9 2 _ c j = σ c j
      rw [sg_u (T := []) (Fs := [(9, 2)]) (by
        unfold nt
        simp only [List.all_nil, Bool.true_and, List.all_cons, Bool.and_true]
        cases h1 : Nat.beq c 9 with
        | false => rfl
        | true =>
          cases h2 : Nat.beq j 2 with
          | false => rfl
          | true => exact absurd ⟨Nat.eq_of_beq_eq_true h1, Nat.eq_of_beq_eq_true h2⟩ r) (by decide)]
      rw [sg_t (T := [8]) (Fs := []) (by
        unfold nt
        simp only [List.all_nil, Bool.and_true, List.all_cons]
        cases h1 : Nat.beq c 8 with
        | false => rfl
        | true => exact absurd (Nat.eq_of_beq_eq_true h1) q) (by decide)]
    · show sg σ 8 (st f + w) (nI b) 8 j = σ 8 j
      exact sg_ne (by omega)
    · rw [e] at e2
      obtain rfl : a = a2 := (nI_eq ha ha2).mp e2
      have hw31 : w < 2147483648 := by
        obtain ⟨-, -, -, h4, -, -, -, -, h9, -, -⟩ := h
        have := h9 f hf
        omega
      refine ⟨if w < a then w else a, by split <;> omega, ?_, fun v hv => ?_⟩
      · show (if nI w < σ 9 2 then nI w else σ 9 2) = _
        rw [e]
        simp (disch := omega) only [lt_nn]
        split <;> rfl
      · by_cases q : v = w
        · subst q
          refine Or.inr ⟨p, ⟨b, hb, sg_at σ 8 (st f + v) (nI b)⟩, by split <;> omega⟩
        · refine Or.inl ?_
          show sg σ 8 (st f + w) (nI b) 8 (st f + v) = σ 8 (st f + v)
          exact sg_ne (by omega)
    · exact sg_at σ 8 (st f + w) (nI b)
  · rw [reach_old h hf hw (by omega) (by omega) p]
    refine ok_ret ⟨gr_refl _ _ _, ?_⟩
    by_cases q : d = b
    · rw [if_pos q]; subst q; exact Or.inl ⟨rfl, p⟩
    · rw [if_neg q]; exact Or.inr rfl
/-- the WORD w of FUNC f keeps to all rules, by the depths as they stand -/
def WW (σ : Sg) (F : Nat) (ar lo st le : Nat → Nat) (f w : Nat) : Prop :=
  ∃ k y d, k ≤ 17 ∧ d ≤ 12 ∧ σ 6 (st f + w) = nI k ∧ σ 8 (st f + w) = nI d ∧ tkN ar k y ≤ d ∧ d - tkN ar k y + ptN k ≤ 12 ∧
    ((k = 1 ∨ k = 2) → y < lo f ∧ σ 7 (st f + w) = nI y) ∧ ((k = 12 ∨ k = 13) → y < le f ∧ σ 7 (st f + w) = nI y ∧ σ 8 (st f + y) = nI (d - tkN ar k y + ptN k)) ∧ (k = 14 → y < F ∧ σ 7 (st f + w) = nI y) ∧
    (k ≠ 12 → k ≠ 15 → w + 1 < le f ∧ σ 8 (st f + (w + 1)) = nI (d - tkN ar k y + ptN k))
