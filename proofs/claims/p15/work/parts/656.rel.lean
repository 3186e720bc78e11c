/-! class and reference beside one another -/
def Ok2 {β γ : Type} (x : Option β) (y : Option γ) (P : β → γ → Prop) : Prop := ∃ a b, x = some a ∧ y = some b ∧ P a b
theorem o2_ret {β γ : Type} {a : β} {b : γ} {P : β → γ → Prop} (h : P a b) : Ok2 (some a) (some b) P := ⟨a, b, rfl, rfl, h⟩
theorem o2_bd {β γ : Type} {x y : Option (Int32 × Sg)} {k : Int32 → Sg → Option β} {k' : Int32 → Sg → Option γ} {P1 : Int32 × Sg → Int32 × Sg → Prop} {P : β → γ → Prop} (h : Ok2 x y P1) (hk : ∀ (r : Int32) (σ : Sg) (r' : Int32) (τ : Sg), x = some (r, σ) → y = some (r', τ) → P1 (r, σ) (r', τ) → Ok2 (k r σ) (k' r' τ) P) : Ok2 (bd x k) (bd y k') P := by
  obtain ⟨a, b, rfl, rfl, h1⟩ := h
  exact hk a.1 a.2 b.1 b.2 rfl rfl h1
theorem o2_if {β γ : Type} {c c' : Prop} {d : Decidable c} {d' : Decidable c'} {a b : Option β} {a' b' : Option γ} {P : β → γ → Prop} (hc : c ↔ c') (h1 : c → Ok2 a a' P) (h2 : ¬ c → Ok2 b b' P) : Ok2 (@ite _ c d a b) (@ite _ c' d' a' b') P := by
  by_cases h : c
  · rw [if_pos h, if_pos (hc.mp h)]; exact h1 h
  · rw [if_neg h, if_neg (fun q => h (hc.mpr q))]; exact h2 h
theorem o2_mono {β γ : Type} {x : Option β} {y : Option γ} {P R : β → γ → Prop} (h : Ok2 x y P) (k : ∀ a b, P a b → R a b) : Ok2 x y R := by
  obtain ⟨a, b, e, e', hp⟩ := h
  exact ⟨a, b, e, e', k a b hp⟩
/-- the same FUNCS and WORDS in the class's rows and in the reference's -/
def Rl (σ τ : Sg) (F Wd : Nat) (ar lo st le : Nat → Nat) : Prop := PI σ F Wd ar lo st le ∧ PR τ F Wd ar lo st le ∧ ∀ j, j < Wd → τ 64 j = σ 6 j ∧ τ 65 j = σ 7 j
/-- the same DEPTHS in the FUNC at S -/
def DR (σ τ : Sg) (S Ln : Nat) : Prop := ∀ w, w < Ln → τ 66 (S + w) = σ 8 (S + w)
theorem pr_same {τ τ' : Sg} {F Wd : Nat} {ar lo st le : Nat → Nat} (h : PR τ F Wd ar lo st le) (e59 : ∀ j, j ≠ 0 → τ' 59 j = τ 59 j) (e : ∀ c j, 60 ≤ c → c ≤ 63 → τ' c j = τ c j) : PR τ' F Wd ar lo st le := by
  obtain ⟨h1, h2, h3, h4, h5, h6, h7, h8, h9⟩ := h
  exact ⟨(e59 1 (by decide)).trans h1, h2, (e59 6 (by decide)).trans h3, h4, fun f hf => (e 60 f (by decide) (by decide)).trans (h5 f hf), fun f hf => (e 61 f (by decide) (by decide)).trans (h6 f hf), fun f hf => (e 62 f (by decide) (by decide)).trans (h7 f hf), fun f hf => (e 63 f (by decide) (by decide)).trans (h8 f hf), h9⟩
theorem formed_rel {N n : Nat} {σ τ : Sg} {F Wd : Nat} {ar lo st le : Nat → Nat} (h : Rl σ τ F Wd ar lo st le) {f : Nat} (hf : f < F) (o x : Int32) :
    Ok2 (f_X0_isFormed N n σ (nI f) o x) (f_X12_isTold N n τ (nI f) o x) (fun a b => a.1 = b.1 ∧ a.2 = σ ∧ b.2 = τ) := by
  obtain ⟨hp, hr, -⟩ := h
  have hp0 := hp
  obtain ⟨g1, g2, g3, g4, g5, g6, g7, g8, g9, g10, g11⟩ := hp
  obtain ⟨r1, r2, r3, r4, r5, r6, r7, r8, -⟩ := hr
  unfold f_X0_isFormed f_X12_isTold
  have gf : ∀ y : Option (Int32 × Sg), gb (nI f) 12 y = y := fun y => gb_nI (show f < 12 by omega) (by decide)
  simp only [gf]
  rw [ix_nI (k := f) (by omega), g6 f hf, g8 f hf, r6 f hf, r8 f hf, r1]
  have two : ∀ (m : Nat), Ok2 (if x < 0 then some ((0 : Int32), σ) else if nI m ≤ x then some (0, σ) else some (1, σ)) (if x < 0 then some ((0 : Int32), τ) else if nI m ≤ x then some (0, τ) else some (1, τ)) (fun a b => a.1 = b.1 ∧ a.2 = σ ∧ b.2 = τ) := fun m => o2_if Iff.rfl (fun _ => o2_ret ⟨rfl, rfl, rfl⟩) (fun _ => o2_if Iff.rfl (fun _ => o2_ret ⟨rfl, rfl, rfl⟩) (fun _ => o2_ret ⟨rfl, rfl, rfl⟩))
  by_cases c1 : o = 1
  · subst c1
    rw [if_pos (Or.inl rfl), if_neg (show ¬ (1 : Int32) < 0 by decide), if_pos (show (1 : Int32) ≤ 17 by decide), if_pos rfl]
    exact two (lo f)
  by_cases c2 : o = 2
  · subst c2
    rw [if_pos (Or.inr rfl), if_neg (show ¬ (2 : Int32) < 0 by decide), if_pos (show (2 : Int32) ≤ 17 by decide), if_neg (show ¬ (2 : Int32) = 1 by decide), if_pos rfl]
    exact two (lo f)
  rw [if_neg (show ¬ (o = 1 ∨ o = 2) from fun q => q.elim c1 c2)]
  by_cases c3 : o = 12
  · subst c3
    rw [if_pos (Or.inl rfl), if_neg (show ¬ (12 : Int32) < 0 by decide), if_pos (show (12 : Int32) ≤ 17 by decide), if_neg (show ¬ (12 : Int32) = 1 by decide), if_neg (show ¬ (12 : Int32) = 2 by decide), if_pos rfl]
    exact two (le f)
  by_cases c4 : o = 13
  · subst c4
    rw [if_pos (Or.inr rfl), if_neg (show ¬ (13 : Int32) < 0 by decide), if_pos (show (13 : Int32) ≤ 17 by decide), if_neg (show ¬ (13 : Int32) = 1 by decide), if_neg (show ¬ (13 : Int32) = 2 by decide), if_neg (show ¬ (13 : Int32) = 12 by decide), if_pos rfl]
    exact two (le f)
  rw [if_neg (show ¬ (o = 12 ∨ o = 13) from fun q => q.elim c3 c4)]
  by_cases c5 : o = 14
  · subst c5
    rw [if_pos rfl, if_neg (show ¬ (14 : Int32) < 0 by decide), if_pos (show (14 : Int32) ≤ 17 by decide), if_neg (show ¬ (14 : Int32) = 1 by decide), if_neg (show ¬ (14 : Int32) = 2 by decide), if_neg (show ¬ (14 : Int32) = 12 by decide), if_neg (show ¬ (14 : Int32) = 13 by decide), if_pos rfl]
    unfold f_X6_hasFunc
    rw [g1]
    by_cases q : x < 0
    · rw [if_pos q, if_pos q, bd_s]
      exact o2_ret ⟨rfl, rfl, rfl⟩
    · rw [if_neg q, if_neg q]
      by_cases q2 : nI F ≤ x
      · rw [if_pos q2]
        first
          | rw [if_pos q2, bd_s]
            exact o2_ret ⟨rfl, rfl, rfl⟩
          | rw [if_neg (fun z => absurd q2 (Int32.not_le.mpr z)), bd_s]
            exact o2_ret ⟨rfl, rfl, rfl⟩
      · rw [if_neg q2]
        first
          | rw [if_neg q2, bd_s]
            exact o2_ret ⟨rfl, rfl, rfl⟩
          | rw [if_pos (Int32.not_le.mp q2), bd_s]
            exact o2_ret ⟨rfl, rfl, rfl⟩
  rw [if_neg c5, if_neg c1, if_neg c2, if_neg c3, if_neg c4, if_neg c5]
  refine o2_if Iff.rfl (fun _ => o2_ret ⟨rfl, rfl, rfl⟩) (fun _ => ?_)
  by_cases q : o ≤ 17
  · rw [if_neg (Int32.not_lt.mpr q), if_pos q]
    exact o2_ret ⟨rfl, rfl, rfl⟩
  · rw [if_pos (Int32.not_le.mp q), if_neg q]
    exact o2_ret ⟨rfl, rfl, rfl⟩
theorem behind_eq {N n : Nat} {τ : Sg} {F Wd : Nat} {ar lo st le : Nat → Nat} (h : PR τ F Wd ar lo st le) {k : Nat} (hk : k ≤ 17) {x : Int32} {y : Nat} (hy : k = 14 → y < F ∧ x = nI y) (d : Int32) :
    f_X12_behind N n τ (nI k) x d = some (d - nI (tkN ar k y) + nI (ptN k), τ) := by
  unfold f_X12_behind
  rw [rtakes_eq h hk hy]
  simp only [bd_s]
  match k, hk with
  | 0, _ => rw [if_neg (show ¬ nI 0 = 10 by decide), if_neg (show ¬ nI 0 = 9 by decide), if_neg (show ¬ nI 0 = 2 by decide), if_neg (show ¬ nI 0 = 11 by decide), if_neg (show ¬ nI 0 = 12 by decide), if_neg (show ¬ nI 0 = 13 by decide), if_neg (show ¬ nI 0 = 15 by decide), if_neg (show ¬ nI 0 = 17 by decide)]; rfl
  | 1, _ => rw [if_neg (show ¬ nI 1 = 10 by decide), if_neg (show ¬ nI 1 = 9 by decide), if_neg (show ¬ nI 1 = 2 by decide), if_neg (show ¬ nI 1 = 11 by decide), if_neg (show ¬ nI 1 = 12 by decide), if_neg (show ¬ nI 1 = 13 by decide), if_neg (show ¬ nI 1 = 15 by decide), if_neg (show ¬ nI 1 = 17 by decide)]; rfl
  | 2, _ => rw [if_neg (show ¬ nI 2 = 10 by decide), if_neg (show ¬ nI 2 = 9 by decide), if_pos (show nI 2 = 2 by decide)]; rfl
  | 3, _ => rw [if_neg (show ¬ nI 3 = 10 by decide), if_neg (show ¬ nI 3 = 9 by decide), if_neg (show ¬ nI 3 = 2 by decide), if_neg (show ¬ nI 3 = 11 by decide), if_neg (show ¬ nI 3 = 12 by decide), if_neg (show ¬ nI 3 = 13 by decide), if_neg (show ¬ nI 3 = 15 by decide), if_neg (show ¬ nI 3 = 17 by decide)]; rfl
  | 4, _ => rw [if_neg (show ¬ nI 4 = 10 by decide), if_neg (show ¬ nI 4 = 9 by decide), if_neg (show ¬ nI 4 = 2 by decide), if_neg (show ¬ nI 4 = 11 by decide), if_neg (show ¬ nI 4 = 12 by decide), if_neg (show ¬ nI 4 = 13 by decide), if_neg (show ¬ nI 4 = 15 by decide), if_neg (show ¬ nI 4 = 17 by decide)]; rfl
  | 5, _ => rw [if_neg (show ¬ nI 5 = 10 by decide), if_neg (show ¬ nI 5 = 9 by decide), if_neg (show ¬ nI 5 = 2 by decide), if_neg (show ¬ nI 5 = 11 by decide), if_neg (show ¬ nI 5 = 12 by decide), if_neg (show ¬ nI 5 = 13 by decide), if_neg (show ¬ nI 5 = 15 by decide), if_neg (show ¬ nI 5 = 17 by decide)]; rfl
  | 6, _ => rw [if_neg (show ¬ nI 6 = 10 by decide), if_neg (show ¬ nI 6 = 9 by decide), if_neg (show ¬ nI 6 = 2 by decide), if_neg (show ¬ nI 6 = 11 by decide), if_neg (show ¬ nI 6 = 12 by decide), if_neg (show ¬ nI 6 = 13 by decide), if_neg (show ¬ nI 6 = 15 by decide), if_neg (show ¬ nI 6 = 17 by decide)]; rfl
  | 7, _ => rw [if_neg (show ¬ nI 7 = 10 by decide), if_neg (show ¬ nI 7 = 9 by decide), if_neg (show ¬ nI 7 = 2 by decide), if_neg (show ¬ nI 7 = 11 by decide), if_neg (show ¬ nI 7 = 12 by decide), if_neg (show ¬ nI 7 = 13 by decide), if_neg (show ¬ nI 7 = 15 by decide), if_neg (show ¬ nI 7 = 17 by decide)]; rfl
  | 8, _ => rw [if_neg (show ¬ nI 8 = 10 by decide), if_neg (show ¬ nI 8 = 9 by decide), if_neg (show ¬ nI 8 = 2 by decide), if_neg (show ¬ nI 8 = 11 by decide), if_neg (show ¬ nI 8 = 12 by decide), if_neg (show ¬ nI 8 = 13 by decide), if_neg (show ¬ nI 8 = 15 by decide), if_neg (show ¬ nI 8 = 17 by decide)]; rfl
  | 9, _ => rw [if_neg (show ¬ nI 9 = 10 by decide), if_pos (show nI 9 = 9 by decide)]; rfl
  | 10, _ => rw [if_pos (show nI 10 = 10 by decide)]; rfl
  | 11, _ => rw [if_neg (show ¬ nI 11 = 10 by decide), if_neg (show ¬ nI 11 = 9 by decide), if_neg (show ¬ nI 11 = 2 by decide), if_pos (show nI 11 = 11 by decide)]; rfl
  | 12, _ => rw [if_neg (show ¬ nI 12 = 10 by decide), if_neg (show ¬ nI 12 = 9 by decide), if_neg (show ¬ nI 12 = 2 by decide), if_neg (show ¬ nI 12 = 11 by decide), if_pos (show nI 12 = 12 by decide)]; rfl
  | 13, _ => rw [if_neg (show ¬ nI 13 = 10 by decide), if_neg (show ¬ nI 13 = 9 by decide), if_neg (show ¬ nI 13 = 2 by decide), if_neg (show ¬ nI 13 = 11 by decide), if_neg (show ¬ nI 13 = 12 by decide), if_pos (show nI 13 = 13 by decide)]; rfl
  | 14, _ => rw [if_neg (show ¬ nI 14 = 10 by decide), if_neg (show ¬ nI 14 = 9 by decide), if_neg (show ¬ nI 14 = 2 by decide), if_neg (show ¬ nI 14 = 11 by decide), if_neg (show ¬ nI 14 = 12 by decide), if_neg (show ¬ nI 14 = 13 by decide), if_neg (show ¬ nI 14 = 15 by decide), if_neg (show ¬ nI 14 = 17 by decide)]; rfl
  | 15, _ => rw [if_neg (show ¬ nI 15 = 10 by decide), if_neg (show ¬ nI 15 = 9 by decide), if_neg (show ¬ nI 15 = 2 by decide), if_neg (show ¬ nI 15 = 11 by decide), if_neg (show ¬ nI 15 = 12 by decide), if_neg (show ¬ nI 15 = 13 by decide), if_pos (show nI 15 = 15 by decide)]; rfl
  | 16, _ => rw [if_neg (show ¬ nI 16 = 10 by decide), if_neg (show ¬ nI 16 = 9 by decide), if_neg (show ¬ nI 16 = 2 by decide), if_neg (show ¬ nI 16 = 11 by decide), if_neg (show ¬ nI 16 = 12 by decide), if_neg (show ¬ nI 16 = 13 by decide), if_neg (show ¬ nI 16 = 15 by decide), if_neg (show ¬ nI 16 = 17 by decide)]; rfl
  | 17, _ => rw [if_neg (show ¬ nI 17 = 10 by decide), if_neg (show ¬ nI 17 = 9 by decide), if_neg (show ¬ nI 17 = 2 by decide), if_neg (show ¬ nI 17 = 11 by decide), if_neg (show ¬ nI 17 = 12 by decide), if_neg (show ¬ nI 17 = 13 by decide), if_neg (show ¬ nI 17 = 15 by decide), if_pos (show nI 17 = 17 by decide)]; rfl
  | k + 18, h => omega
/-- only DEPTHS of the FUNC at S have changed -/
def F6 (τ τ' : Sg) (S Ln : Nat) : Prop := (∀ c j, c ≠ 66 → τ' c j = τ c j) ∧ ∀ j, (j < S ∨ S + Ln ≤ j) → τ' 66 j = τ 66 j
theorem f6_refl (τ : Sg) (S Ln : Nat) : F6 τ τ S Ln := ⟨fun _ _ _ => rfl, fun _ _ => rfl⟩
theorem f6_trans {τ τ1 τ2 : Sg} {S Ln : Nat} (h : F6 τ τ1 S Ln) (k : F6 τ1 τ2 S Ln) : F6 τ τ2 S Ln := ⟨fun c j q => (k.1 c j q).trans (h.1 c j q), fun j q => (k.2 j q).trans (h.2 j q)⟩
theorem reach_rel {N n : Nat} {σ τ : Sg} {F Wd : Nat} {ar lo st le : Nat → Nat} (h : Rl σ τ F Wd ar lo st le) {f w b a : Nat} (hf : f < F) (hw : w < le f) (hb : b ≤ 12) (hD : DI (st f) (le f) σ) (hR : DR σ τ (st f) (le f)) (ha : a < 2147483648) (e : σ 9 2 = nI a) :
    Ok2 (f_X0_reach N n σ (nI f) (nI w) (nI b)) (f_X12_comes N n τ (nI f) (nI w) (nI b)) (fun x y => ((x.1 = 1 ∧ y.1 = 0) ∨ (x.1 = 0 ∧ y.1 = 5)) ∧ Gr (st f) (le f) σ x.2 ∧ DR x.2 y.2 (st f) (le f) ∧ F6 τ y.2 (st f) (le f)) := by
  obtain ⟨hp, hr, -⟩ := h
  obtain ⟨⟨x1, σ1⟩, ex, hG, -⟩ := reach_ok (N := N) (n := n) hp hf hw hb hD ha e
  have hG : Gr (st f) (le f) σ σ1 := hG
  have q9 := hp.2.2.2.2.2.2.2.2.1 f hf
  have hW := hp.2.2.2.1
  have hF := hp.2.1
  obtain ⟨r1, r2, r3, r4, r5, r6, r7, r8, -⟩ := hr
  unfold f_X12_comes
  rw [gb_nI (show f < 12 by omega) (by decide), ix_nI (k := f) (by omega), r7 f hf, ad_nn, gb_nI (show st f + w < 300 by omega) (by decide), gb_nI (show st f + w < 300 by omega) (by decide), gb_nI (show st f + w < 300 by omega) (by decide), ix_nI (k := st f + w) (by omega), hR w hw]
  rcases hD w hw with p | ⟨d, hd, p⟩
  · rw [p, if_pos (show (-1 : Int32) < 0 by decide)]
    have e2 := reach_new (N := N) (n := n) (d := b) hp hf hw p
    rw [ex] at e2
    cases e2
    rw [ex]
    refine o2_ret ⟨Or.inl ⟨rfl, rfl⟩, hG, fun v hv => ?_, ⟨fun c j q => sg_c q, fun j q => (show sg τ 66 (st f + w) (nI b) 66 j = τ 66 j from sg_ne (by omega))⟩⟩
    show sg τ 66 (st f + w) (nI b) 66 (st f + v) = sg (sg σ 8 (st f + w) (nI b)) 9 2 (if nI w < σ 9 2 then nI w else σ 9 2) 8 (st f + v)
    rw [sg_c (show (8 : Nat) ≠ 9 by decide), sg_if, sg_if]
    by_cases z : st f + v = st f + w
    · rw [if_pos z, if_pos z]
    · rw [if_neg z, if_neg z]; exact hR v hv
  · rw [p, if_neg (nI_pos (by omega))]
    have e2 := reach_old (N := N) (n := n) (d := b) hp hf hw (by omega) (by omega) p
    rw [ex] at e2
    cases e2
    rw [ex]
    by_cases z : d = b
    · rw [if_pos z, if_pos (by rw [z])]
      exact o2_ret ⟨Or.inl ⟨rfl, rfl⟩, hG, hR, f6_refl _ _ _⟩
    · rw [if_neg z, if_neg (show ¬ nI d = nI b by rw [eq_nn (by omega) (by omega)]; exact z)]
      exact o2_ret ⟨Or.inr ⟨rfl, rfl⟩, hG, hR, f6_refl _ _ _⟩
theorem rl_step {σ σ' τ τ' : Sg} {F Wd : Nat} {ar lo st le : Nat → Nat} {S Ln : Nat} (h : Rl σ τ F Wd ar lo st le) (hG : Gr S Ln σ σ') (e : ∀ c j, c ≠ 66 → τ' c j = τ c j) : Rl σ' τ' F Wd ar lo st le := by
  refine ⟨gr_PI hG h.1, pr_same h.2.1 (fun j _ => e 59 j (by decide)) (fun c j _ q => e c j (by omega)), fun j hj => ?_⟩
  rw [e 64 j (by decide), e 65 j (by decide), hG.1 6 j (by omega) (by omega), hG.1 7 j (by omega) (by omega)]
  exact h.2.2 j hj
theorem word_rel {N n : Nat} {σ τ : Sg} {F Wd : Nat} {ar lo st le : Nat → Nat} (h : Rl σ τ F Wd ar lo st le) {f w d a : Nat} (hf : f < F) (hw : w < le f) (hD : DI (st f) (le f) σ) (hR : DR σ τ (st f) (le f)) (ha : a < 2147483648) (e : σ 9 2 = nI a) (hd : d ≤ 12) (hdw : σ 8 (st f + w) = nI d) :
    Ok2 (f_X0_faultOfWord N n σ (nI f) (nI w)) (f_X12_looksAt N n τ (nI f) (nI w)) (fun x y => x.1 = y.1 ∧ DR x.2 y.2 (st f) (le f) ∧ F6 τ y.2 (st f) (le f)) := by
  have h0 := h
  obtain ⟨hp, hr, hw64⟩ := h
  have hr0 := hr
  have hp' := hp
  obtain ⟨h1, h2, h3, h4, h5, h6, h7, h8, h9, h10, h11⟩ := hp'
  obtain ⟨r1, r2, r3, r4, r5, r6, r7, r8, -⟩ := hr
  have q9 := h9 f hf
  obtain ⟨w64, w65⟩ := hw64 (st f + w) (by omega)
  unfold f_X0_faultOfWord f_X12_looksAt
  rw [ix_nI (k := f) (by omega), h7 f hf, r7 f hf, ad_nn, ix_nI (k := st f + w) (by omega), gb_nI (show f < 12 by omega) (by decide), gb_nI (show st f + w < 300 by omega) (by decide), gb_nI (show st f + w < 300 by omega) (by decide), gb_nI (show f < 12 by omega) (by decide), gb_nI (show st f + w < 300 by omega) (by decide), gb_nI (show f < 12 by omega) (by decide), gb_nI (show st f + w < 300 by omega) (by decide), gb_nI (show f < 12 by omega) (by decide), gb_nI (show st f + w < 300 by omega) (by decide), w64, w65, hR w hw, hdw]
  refine o2_bd (formed_rel h0 hf _ _) (fun ra σa rb τb ea eb hh => ?_)
  obtain ⟨hh1, hh2, hh3⟩ := hh
  have hh1 : ra = rb := hh1
  have hh2 : σa = σ := hh2
  have hh3 : τb = τ := hh3
  subst hh1
  subst hh2
  subst hh3
  refine o2_if Iff.rfl (fun _ => o2_ret ⟨rfl, hR, f6_refl _ _ _⟩) (fun cf => ?_)
  rcases isFormed_ok (N := N) (n := n) hp hf (σa 6 (st f + w)) (σa 7 (st f + w)) with ⟨⟨k, hk, ho, c1, c2, c3⟩, e1⟩ | e1
  · obtain ⟨y, hy2, hy3⟩ : ∃ y, ((k = 12 ∨ k = 13) → y < le f ∧ σa 7 (st f + w) = nI y) ∧ (k = 14 → y < F ∧ σa 7 (st f + w) = nI y) := by
      by_cases q2 : k = 12 ∨ k = 13
      · obtain ⟨y, p1, p2⟩ := c2 q2
        exact ⟨y, fun _ => ⟨p1, p2⟩, fun q => by omega⟩
      · by_cases q3 : k = 14
        · obtain ⟨y, p1, p2⟩ := c3 q3
          exact ⟨y, fun q => absurd q q2, fun _ => ⟨p1, p2⟩⟩
        · exact ⟨0, fun q => absurd q q2, fun q => absurd q q3⟩
    have ht6 : tkN ar k y ≤ 6 := tkN_le (fun f hf => (h9 f hf).1) hk (fun q => (hy3 q).1)
    have hp2 := ptN_le hk
    rw [ho, takes_ok hp hk hy3, rtakes_eq hr0 hk hy3, bd_s, bd_s, gb_nI (show st f + w < 300 by omega) (by decide), hdw, ix_nI (k := k) (by omega), pt_nI hk]
    refine o2_if Iff.rfl (fun q1 => ?_) (fun _ => o2_ret ⟨rfl, hR, f6_refl _ _ _⟩)
    rw [le_nn (by omega) (by omega)] at q1
    rw [gb_nI (show st f + w < 300 by omega) (by decide), gb_nI (show k < 18 by omega) (by decide), behind_eq hr0 hk hy3, bd_s, sb_nn q1, ad_nn]
    refine o2_if Iff.rfl (fun q2 => ?_) (fun _ => o2_ret ⟨rfl, hR, f6_refl _ _ _⟩)
    rw [le_nl (k := 12) (by omega) (by decide)] at q2
    have q2 : d - tkN ar k y + ptN k ≤ 12 := q2
    -- the last step of a jump
    have jmp : ∀ (σ1 τ1 : Sg) (a1 : Nat), (k = 12 ∨ k = 13) → Rl σ1 τ1 F Wd ar lo st le → DI (st f) (le f) σ1 → DR σ1 τ1 (st f) (le f) → a1 < 2147483648 → σ1 9 2 = nI a1 → F6 τb τ1 (st f) (le f) →
        Ok2 (bd (f_X0_reach N n σ1 (nI f) (nI y) (nI (d - tkN ar k y + ptN k))) (fun r17 σ18 => if r17 = 0 then (some ((5 : Int32), σ18)) else (some (0, σ18)))) (bd (f_X12_comes N n τ1 (nI f) (nI y) (nI (d - tkN ar k y + ptN k))) (fun r20 σ21 => some (r20, σ21))) (fun x z => x.1 = z.1 ∧ DR x.2 z.2 (st f) (le f) ∧ F6 τb z.2 (st f) (le f)) := by
      intro σ1 τ1 a1 hk2 hRl hD1 hR1 ha1 e91 ho1
      refine o2_bd (reach_rel hRl hf (hy2 hk2).1 q2 hD1 hR1 ha1 e91) (fun rr σ2 rs τ2 _ _ hh => ?_)
      obtain ⟨z1, z2, z3, z4⟩ := hh
      have z4 : F6 τ1 τ2 (st f) (le f) := z4
      rcases z1 with ⟨z1, z5⟩ | ⟨z1, z5⟩
      · have z1 : rr = 1 := z1
        have z5 : rs = 0 := z5
        rw [if_neg (by rw [z1]; decide), z5]
        exact o2_ret ⟨rfl, z3, f6_trans ho1 z4⟩
      · have z1 : rr = 0 := z1
        have z5 : rs = 5 := z5
        rw [if_pos z1, z5]
        exact o2_ret ⟨rfl, z3, f6_trans ho1 z4⟩
    refine o2_if Iff.rfl (fun q3 => ?_) (fun q3 => ?_)
    · rw [eq_nl (k := 12) (by omega) (by decide)] at q3
      have q3 : k = 12 := q3
      rw [(hy2 (Or.inl q3)).2]
      exact jmp σa τb a (Or.inl q3) h0 hD hR ha e (f6_refl _ _ _)
    · rw [eq_nl (k := 12) (by omega) (by decide)] at q3
      have q3 : ¬ k = 12 := q3
      refine o2_if Iff.rfl (fun q4 => ?_) (fun q4 => ?_)
      · rw [eq_nl (k := 15) (by omega) (by decide)] at q4
        have q4 : k = 15 := q4
        rw [if_neg (show ¬ nI k = 13 by rw [q4]; decide), if_neg (show ¬ nI k = 13 by rw [q4]; decide)]
        exact o2_ret ⟨rfl, hR, f6_refl _ _ _⟩
      · rw [gb_nI (show f < 12 by omega) (by decide), gb_nI (show f < 12 by omega) (by decide), h8 f hf, r8 f hf, ad_nl w 1]
        have ew : w + OfNat.ofNat 1 = w + 1 := rfl
        rw [ew]
        by_cases q5 : w + 1 < le f
        · rw [if_pos (show nI (w + 1) < nI (le f) by rw [lt_nn (by omega) (by omega)]; exact q5), if_neg (show ¬ nI (w + 1) = nI (le f) by rw [eq_nn (by omega) (by omega)]; omega)]
          refine o2_bd (reach_rel h0 hf q5 q2 hD hR ha e) (fun rr σ2 rs τ2 _ _ hh => ?_)
          obtain ⟨z1, z2, z3, z4⟩ := hh
          have z2 : Gr (st f) (le f) σa σ2 := z2
          have z3 : DR σ2 τ2 (st f) (le f) := z3
          have z4 : F6 τb τ2 (st f) (le f) := z4
          rcases z1 with ⟨z1, z5⟩ | ⟨z1, z5⟩
          · have z1 : rr = 1 := z1
            have z5 : rs = 0 := z5
            rw [if_neg (show ¬ rr = 0 by rw [z1]; decide), if_pos z5]
            refine o2_if Iff.rfl (fun q6 => ?_) (fun q6 => ?_)
            · rw [eq_nl (k := 13) (by omega) (by decide)] at q6
              have q6 : k = 13 := q6
              rw [(hy2 (Or.inr q6)).2]
              obtain ⟨a1, l1, e1', -⟩ := z2.2.2 a ha e
              exact jmp σ2 τ2 a1 (Or.inr q6) (rl_step h0 z2 z4.1) (gr_DI ha e z2 hD) z3 (by omega) e1' z4
            · exact o2_ret ⟨z5.symm, z3, z4⟩
          · have z1 : rr = 0 := z1
            have z5 : rs = 5 := z5
            rw [if_pos z1, if_neg (show ¬ rs = 0 by rw [z5]; decide), z5]
            exact o2_ret ⟨rfl, z3, z4⟩
        · rw [if_neg (show ¬ nI (w + 1) < nI (le f) by rw [lt_nn (by omega) (by omega)]; exact q5), if_pos (show nI (w + 1) = nI (le f) by rw [eq_nn (by omega) (by omega)]; omega)]
          exact o2_ret ⟨rfl, hR, f6_refl _ _ _⟩
  · rw [e1] at ea
    cases ea
    exact absurd rfl cf
