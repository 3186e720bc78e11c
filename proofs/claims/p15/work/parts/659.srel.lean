/-! the two stack machines beside one another: leaves -/
theorem push_eq {N n : Nat} {σ : Sg} {tp : Nat} (h : σ 45 12 = nI tp) (ht : tp < 360) (x : Int32) : f_X8_push N n σ x = some (0, sg (sg σ 50 tp x) 45 12 (nI (tp + 1))) := by
  unfold f_X8_push
  rw [h, gb_nI ht (by decide), ad_nl tp 1, ix_nI (k := tp) (by omega)]
theorem pop_eq {N n : Nat} {σ : Sg} {tp : Nat} (h : σ 45 12 = nI (tp + 1)) (ht : tp < 360) : f_X8_pop N n σ = some (σ 50 tp, sg σ 45 12 (nI tp)) := by
  unfold f_X8_pop
  have e : nI (tp + 1) - 1 = nI tp := (sb_nl (k := 1) (show 1 ≤ tp + 1 by omega)).trans (congrArg nI (show tp + 1 - 1 = tp by omega))
  rw [h, e, gb_nI ht (by decide), ix_nI (k := tp) (by omega)]
theorem i_0 : ix 0 = 0 := rfl
theorem g_02 {β : Type} (y : Option β) : gb 0 2 y = y := gb_nI (k := 0) (by decide) (by decide)
theorem rpush_eq {N n : Nat} {τ : Sg} {q t : Nat} (h : τ 93 0 = nI (q + 1)) (hq : q < 30) (h97 : τ 97 q = nI t) (ht : t < 24) (x : Int32) : f_X12_push N n τ x = some (0, sg (sg τ 96 (24 * q + t) x) 97 q (nI (t + 1))) := by
  unfold f_X12_push
  have e : nI (q + 1) - 1 = nI q := (sb_nl (k := 1) (show 1 ≤ q + 1 by omega)).trans (congrArg nI (show q + 1 - 1 = q by omega))
  rw [g_02, i_0, h, e, ix_nI (k := q) (by omega), h97, ml_ln q 24, ad_nn, gb_nI (show q < 60 by omega) (by decide), gb_nI (show OfNat.ofNat 24 * q + t < 1440 by show 24 * q + t < 1440; omega) (by decide), gb_nI (show q < 60 by omega) (by decide), gb_nI (show q < 60 by omega) (by decide), ix_nI (k := OfNat.ofNat 24 * q + t) (by show 24 * q + t < _; omega), ad_nl t 1]
theorem rpop_eq {N n : Nat} {τ : Sg} {q t : Nat} (h : τ 93 0 = nI (q + 1)) (hq : q < 30) (h97 : τ 97 q = nI (t + 1)) (ht : t < 24) : f_X12_pop N n τ = some (τ 96 (24 * q + t), sg τ 97 q (nI t)) := by
  unfold f_X12_pop
  have e : nI (q + 1) - 1 = nI q := (sb_nl (k := 1) (show 1 ≤ q + 1 by omega)).trans (congrArg nI (show q + 1 - 1 = q by omega))
  have e2 : nI (t + 1) - 1 = nI t := (sb_nl (k := 1) (show 1 ≤ t + 1 by omega)).trans (congrArg nI (show t + 1 - 1 = t by omega))
  rw [g_02, i_0, h, e, ix_nI (k := q) (by omega), h97, e2, ml_ln q 24, ad_nn, gb_nI (show q < 60 by omega) (by decide), gb_nI (show q < 60 by omega) (by decide), gb_nI (show q < 60 by omega) (by decide), gb_nI (show OfNat.ofNat 24 * q + t < 1440 by show 24 * q + t < 1440; omega) (by decide), ix_nI (k := OfNat.ofNat 24 * q + t) (by show 24 * q + t < _; omega)]
/-- the frame r: L LOCALS and m on its STACK, the same on both sides -/
def FRm (σ τ : Sg) (r L B m : Nat) : Prop := τ 97 r = nI (L + m) ∧ m ≤ 12 ∧ (∀ k, k < L → τ 96 (24 * r + k) = σ 49 (10 * r + k)) ∧ ∀ i, i < m → τ 96 (24 * r + L + i) = σ 50 (B + i)
/-- the innermost frame's own work -/
def Kq (σ σ' τ τ' : Sg) (q B : Nat) : Prop :=
  (∀ c j, c ≠ 49 → c ≠ 50 → ¬ (c = 45 ∧ j = 12) → σ' c j = σ c j) ∧ (∀ j, j < 10 * q → σ' 49 j = σ 49 j) ∧ (∀ j, j < B → σ' 50 j = σ 50 j) ∧
  (∀ c j, c ≠ 96 → c ≠ 97 → τ' c j = τ c j) ∧ (∀ j, j < 24 * q → τ' 96 j = τ 96 j) ∧ ∀ j, j ≠ q → τ' 97 j = τ 97 j
theorem kq_refl (σ τ : Sg) (q B : Nat) : Kq σ σ τ τ q B := ⟨fun _ _ _ _ _ => rfl, fun _ _ => rfl, fun _ _ => rfl, fun _ _ _ _ => rfl, fun _ _ => rfl, fun _ _ => rfl⟩
theorem kq_trans {σ σ1 σ2 τ τ1 τ2 : Sg} {q B : Nat} (h : Kq σ σ1 τ τ1 q B) (k : Kq σ1 σ2 τ1 τ2 q B) : Kq σ σ2 τ τ2 q B :=
  ⟨fun c j a b d => (k.1 c j a b d).trans (h.1 c j a b d), fun j a => (k.2.1 j a).trans (h.2.1 j a), fun j a => (k.2.2.1 j a).trans (h.2.2.1 j a), fun c j a b => (k.2.2.2.1 c j a b).trans (h.2.2.2.1 c j a b), fun j a => (k.2.2.2.2.1 j a).trans (h.2.2.2.2.1 j a), fun j a => (k.2.2.2.2.2 j a).trans (h.2.2.2.2.2 j a)⟩
/-- the innermost frame with s on its STACK -/
def TF (σ τ : Sg) (q L B s : Nat) : Prop := FRm σ τ q L B s ∧ σ 45 12 = nI (B + s) ∧ τ 93 0 = nI (q + 1) ∧ q < 30 ∧ L ≤ 10 ∧ B ≤ 12 * q
theorem tf_push {N n : Nat} {σ τ : Sg} {q L B s : Nat} (h : TF σ τ q L B s) (hs : s < 12) {x x' : Int32} (hx : x = x') :
    Ok2 (f_X8_push N n σ x) (f_X12_push N n τ x') (fun a b => TF a.2 b.2 q L B (s + 1) ∧ Kq σ a.2 τ b.2 q B) := by
  subst hx
  obtain ⟨⟨f1, f2, f3, f4⟩, h2, h3, h4, h5, h6⟩ := h
  rw [push_eq h2 (by omega), rpush_eq h3 h4 f1 (by omega)]
  refine o2_ret ⟨⟨⟨show sg (sg τ 96 (24 * q + (L + s)) x) 97 q (nI (L + s + 1)) 97 q = _ from sg_at _ _ _ _, by omega, fun k hk => ?_, fun i hi => ?_⟩, ?_, ?_, h4, h5, h6⟩, fun c j a b d => ?_, fun j a => ?_, fun j a => ?_, fun c j a b => ?_, fun j a => ?_, fun j a => ?_⟩
  · show sg (sg τ 96 (24 * q + (L + s)) x) 97 q (nI (L + s + 1)) 96 (24 * q + k) = sg (sg σ 50 (B + s) x) 45 12 (nI (B + s + 1)) 49 (10 * q + k)
    rw [sg_c (by decide), sg_ne (by omega), sg_c (by decide), sg_c (by decide)]
    exact f3 k hk
  · show sg (sg τ 96 (24 * q + (L + s)) x) 97 q (nI (L + s + 1)) 96 (24 * q + L + i) = sg (sg σ 50 (B + s) x) 45 12 (nI (B + s + 1)) 50 (B + i)
    rw [sg_c (by decide), sg_if, sg_c (by decide), sg_if]
    by_cases e : i = s
    · rw [if_pos (by omega), if_pos (by omega)]
    · rw [if_neg (by omega), if_neg (by omega)]
      exact f4 i (by omega)
  · show sg (sg σ 50 (B + s) x) 45 12 (nI (B + s + 1)) 45 12 = _
    exact sg_at _ _ _ _
  · show sg (sg τ 96 (24 * q + (L + s)) x) 97 q (nI (L + s + 1)) 93 0 = _
    rw [sg_c (by decide), sg_c (by decide)]; exact h3
  · show sg (sg σ 50 (B + s) x) 45 12 (nI (B + s + 1)) c j = σ c j
    rw [sg_o (by omega), sg_c b]
  · show sg (sg σ 50 (B + s) x) 45 12 (nI (B + s + 1)) 49 j = σ 49 j
    rw [sg_c (by decide), sg_c (by decide)]
  · show sg (sg σ 50 (B + s) x) 45 12 (nI (B + s + 1)) 50 j = σ 50 j
    rw [sg_c (by decide), sg_ne (by omega)]
  · show sg (sg τ 96 (24 * q + (L + s)) x) 97 q (nI (L + s + 1)) c j = τ c j
    rw [sg_c b, sg_c a]
  · show sg (sg τ 96 (24 * q + (L + s)) x) 97 q (nI (L + s + 1)) 96 j = τ 96 j
    rw [sg_c (by decide), sg_ne (by omega)]
  · show sg (sg τ 96 (24 * q + (L + s)) x) 97 q (nI (L + s + 1)) 97 j = τ 97 j
    rw [sg_ne a, sg_c (by decide)]
theorem tf_pop {N n : Nat} {σ τ : Sg} {q L B s : Nat} (h : TF σ τ q L B (s + 1)) :
    Ok2 (f_X8_pop N n σ) (f_X12_pop N n τ) (fun a b => a.1 = b.1 ∧ TF a.2 b.2 q L B s ∧ Kq σ a.2 τ b.2 q B) := by
  obtain ⟨⟨f1, f2, f3, f4⟩, h2, h3, h4, h5, h6⟩ := h
  rw [pop_eq (tp := B + s) h2 (by omega), rpop_eq (t := L + s) h3 h4 f1 (by omega)]
  refine o2_ret ⟨?_, ⟨⟨show sg τ 97 q (nI (L + s)) 97 q = _ from sg_at _ _ _ _, by omega, fun k hk => ?_, fun i hi => ?_⟩, ?_, ?_, h4, h5, h6⟩, fun c j a b d => ?_, fun j a => ?_, fun j a => ?_, fun c j a b => ?_, fun j a => ?_, fun j a => ?_⟩
  · show σ 50 (B + s) = τ 96 (24 * q + (L + s))
    rw [show 24 * q + (L + s) = 24 * q + L + s by omega]
    exact (f4 s (by omega)).symm
  · show sg τ 97 q (nI (L + s)) 96 (24 * q + k) = sg σ 45 12 (nI (B + s)) 49 (10 * q + k)
    rw [sg_c (by decide), sg_c (by decide)]; exact f3 k hk
  · show sg τ 97 q (nI (L + s)) 96 (24 * q + L + i) = sg σ 45 12 (nI (B + s)) 50 (B + i)
    rw [sg_c (by decide), sg_c (by decide)]; exact f4 i (by omega)
  · show sg σ 45 12 (nI (B + s)) 45 12 = _
    exact sg_at _ _ _ _
  · show sg τ 97 q (nI (L + s)) 93 0 = _
    rw [sg_c (by decide)]; exact h3
  · show sg σ 45 12 (nI (B + s)) c j = σ c j
    rw [sg_o (by omega)]
  · show sg σ 45 12 (nI (B + s)) 49 j = σ 49 j
    rw [sg_c (by decide)]
  · show sg σ 45 12 (nI (B + s)) 50 j = σ 50 j
    rw [sg_c (by decide)]
  · show sg τ 97 q (nI (L + s)) c j = τ c j
    rw [sg_c b]
  · show sg τ 97 q (nI (L + s)) 96 j = τ 96 j
    rw [sg_c (by decide)]
  · show sg τ 97 q (nI (L + s)) 97 j = τ 97 j
    rw [sg_ne a]
/-- ends, STEPS, calls and MEMORY are the same -/
def XS (σ τ : Sg) : Prop := τ 89 0 = σ 45 3 ∧ τ 90 0 = σ 45 4 ∧ τ 91 0 = σ 45 5 ∧ τ 92 0 = σ 45 6 ∧ τ 93 0 = σ 45 7 ∧ ∀ k, k < 64 → τ 88 k = σ 46 k
theorem xs_kq {σ σ' τ τ' : Sg} {q B : Nat} (h : XS σ τ) (k : Kq σ σ' τ τ' q B) : XS σ' τ' := by
  obtain ⟨k1, -, -, k4, -, -⟩ := k
  obtain ⟨h1, h2, h3, h4, h5, h6⟩ := h
  refine ⟨?_, ?_, ?_, ?_, ?_, fun i hi => ?_⟩
  · rw [k4 89 0 (by decide) (by decide), k1 45 3 (by decide) (by decide) (by decide)]; exact h1
  · rw [k4 90 0 (by decide) (by decide), k1 45 4 (by decide) (by decide) (by decide)]; exact h2
  · rw [k4 91 0 (by decide) (by decide), k1 45 5 (by decide) (by decide) (by decide)]; exact h3
  · rw [k4 92 0 (by decide) (by decide), k1 45 6 (by decide) (by decide) (by decide)]; exact h4
  · rw [k4 93 0 (by decide) (by decide), k1 45 7 (by decide) (by decide) (by decide)]; exact h5
  · rw [k4 88 i (by decide) (by decide), k1 46 i (by decide) (by decide) (by omega)]; exact h6 i hi
/-- where the frame r's STACK ends -/
def en (σ : Sg) (r : Nat) : Nat := if r + 1 < ix (σ 45 7) then ix (σ 51 (r + 1)) else ix (σ 45 12)
/-- all frames are the same -/
def XC (σ τ : Sg) (lo : Nat → Nat) : Prop := ∀ r, r < ix (σ 45 7) → τ 94 r = σ 47 r ∧ τ 95 r = σ 48 r ∧ FRm σ τ r (lo (ix (σ 47 r))) (ix (σ 51 r)) (en σ r - ix (σ 51 r))
/-- the same by numbers -/
def XE (σ τ : Sg) (lo : Nat → Nat) (h : Nat) (fn bt : Nat → Nat) (tp : Nat) : Prop := ∀ r, r < h → τ 94 r = nI (fn r) ∧ τ 95 r = σ 48 r ∧ FRm σ τ r (lo (fn r)) (bt r) ((if r + 1 < h then bt (r + 1) else tp) - bt r)
theorem xc_iff {σ τ : Sg} {lo : Nat → Nat} {h : Nat} {fn bt : Nat → Nat} {tp : Nat} (h7 : σ 45 7 = nI h) (hh : h ≤ 30) (h12 : σ 45 12 = nI tp) (htp : tp ≤ 360) (hf : ∀ r, r < h → σ 47 r = nI (fn r) ∧ fn r < 12 ∧ σ 51 r = nI (bt r) ∧ bt r ≤ 12 * r) : XC σ τ lo ↔ XE σ τ lo h fn bt tp := by
  have e7 : ix (σ 45 7) = h := by rw [h7, ix_nI (by omega)]
  have e12 : ix (σ 45 12) = tp := by rw [h12, ix_nI (by omega)]
  have key : ∀ r, r < h → (τ 94 r = σ 47 r ∧ τ 95 r = σ 48 r ∧ FRm σ τ r (lo (ix (σ 47 r))) (ix (σ 51 r)) (en σ r - ix (σ 51 r))) = (τ 94 r = nI (fn r) ∧ τ 95 r = σ 48 r ∧ FRm σ τ r (lo (fn r)) (bt r) ((if r + 1 < h then bt (r + 1) else tp) - bt r)) := by
    intro r hr
    obtain ⟨a1, a2, a3, a4⟩ := hf r hr
    have ee : en σ r = if r + 1 < h then bt (r + 1) else tp := by
      unfold en
      rw [e7, e12]
      by_cases q : r + 1 < h
      · rw [if_pos q, if_pos q]
        obtain ⟨-, -, b3, b4⟩ := hf (r + 1) q
        rw [b3, ix_nI (by omega)]
      · rw [if_neg q, if_neg q]
    rw [ee, a1, a3, ix_nI (k := fn r) (by omega), ix_nI (k := bt r) (by omega)]
  unfold XC XE
  rw [e7]
  exact ⟨fun q r hr => (key r hr).mp (q r hr), fun q r hr => (key r hr).mpr (q r hr)⟩
