/-- one STEP of the reference's stack machine, once a call is there -/
def rS (N n : Nat) (σ : Sg) : Option (Int32 × Sg) := gb 0 2 (gb ((σ 93 (ix 0)) - 1) 60 (gb (σ 94 (ix ((σ 93 (ix 0)) - 1))) 12 (gb ((σ 93 (ix 0)) - 1) 60 (gb ((σ 62 (ix (σ 94 (ix ((σ 93 (ix 0)) - 1))))) + (σ 95 (ix ((σ 93 (ix 0)) - 1)))) 300 (gb ((σ 93 (ix 0)) - 1) 60 (gb ((σ 93 (ix 0)) - 1) 60 (gb 0 2 (gb 0 2 (gb ((σ 62 (ix (σ 94 (ix ((σ 93 (ix 0)) - 1))))) + (σ 95 (ix ((σ 93 (ix 0)) - 1)))) 300 (if (σ 64 (ix ((σ 62 (ix (σ 94 (ix ((σ 93 (ix 0)) - 1))))) + (σ 95 (ix ((σ 93 (ix 0)) - 1)))))) = 0 then (bd (f_X12_push N n (sg (sg σ 95 (ix ((σ 93 (ix 0)) - 1)) ((σ 95 (ix ((σ 93 (ix 0)) - 1))) + 1)) 91 (ix 0) ((σ 91 (ix 0)) + 1)) (σ 65 (ix ((σ 62 (ix (σ 94 (ix ((σ 93 (ix 0)) - 1))))) + (σ 95 (ix ((σ 93 (ix 0)) - 1))))))) (fun r14 σ15 => some (0, σ15))) else (if (σ 64 (ix ((σ 62 (ix (σ 94 (ix ((σ 93 (ix 0)) - 1))))) + (σ 95 (ix ((σ 93 (ix 0)) - 1)))))) = 1 then (gb ((24 * ((σ 93 (ix 0)) - 1)) + (σ 65 (ix ((σ 62 (ix (σ 94 (ix ((σ 93 (ix 0)) - 1))))) + (σ 95 (ix ((σ 93 (ix 0)) - 1))))))) 1440 (bd (f_X12_push N n (sg (sg σ 95 (ix ((σ 93 (ix 0)) - 1)) ((σ 95 (ix ((σ 93 (ix 0)) - 1))) + 1)) 91 (ix 0) ((σ 91 (ix 0)) + 1)) (σ 96 (ix ((24 * ((σ 93 (ix 0)) - 1)) + (σ 65 (ix ((σ 62 (ix (σ 94 (ix ((σ 93 (ix 0)) - 1))))) + (σ 95 (ix ((σ 93 (ix 0)) - 1)))))))))) (fun r19 σ20 => some (0, σ20)))) else (if (σ 64 (ix ((σ 62 (ix (σ 94 (ix ((σ 93 (ix 0)) - 1))))) + (σ 95 (ix ((σ 93 (ix 0)) - 1)))))) = 2 then (bd (f_X12_pop N n (sg (sg σ 95 (ix ((σ 93 (ix 0)) - 1)) ((σ 95 (ix ((σ 93 (ix 0)) - 1))) + 1)) 91 (ix 0) ((σ 91 (ix 0)) + 1)) ) (fun r23 σ24 => gb ((24 * ((σ 93 (ix 0)) - 1)) + (σ 65 (ix ((σ 62 (ix (σ 94 (ix ((σ 93 (ix 0)) - 1))))) + (σ 95 (ix ((σ 93 (ix 0)) - 1))))))) 1440 (some (0, sg σ24 96 (ix ((24 * ((σ 93 (ix 0)) - 1)) + (σ 65 (ix ((σ 62 (ix (σ 94 (ix ((σ 93 (ix 0)) - 1))))) + (σ 95 (ix ((σ 93 (ix 0)) - 1)))))))) r23)))) else (if (σ 64 (ix ((σ 62 (ix (σ 94 (ix ((σ 93 (ix 0)) - 1))))) + (σ 95 (ix ((σ 93 (ix 0)) - 1)))))) = 9 then (gb ((σ 93 (ix 0)) - 1) 60 (gb (((24 * ((σ 93 (ix 0)) - 1)) + (σ 97 (ix ((σ 93 (ix 0)) - 1)))) - 1) 1440 (bd (f_X12_push N n (sg (sg σ 95 (ix ((σ 93 (ix 0)) - 1)) ((σ 95 (ix ((σ 93 (ix 0)) - 1))) + 1)) 91 (ix 0) ((σ 91 (ix 0)) + 1)) (σ 96 (ix (((24 * ((σ 93 (ix 0)) - 1)) + (σ 97 (ix ((σ 93 (ix 0)) - 1)))) - 1)))) (fun r30 σ31 => some (0, σ31))))) else (if (σ 64 (ix ((σ 62 (ix (σ 94 (ix ((σ 93 (ix 0)) - 1))))) + (σ 95 (ix ((σ 93 (ix 0)) - 1)))))) = 10 then (bd (f_X12_swapTop N n (sg (sg σ 95 (ix ((σ 93 (ix 0)) - 1)) ((σ 95 (ix ((σ 93 (ix 0)) - 1))) + 1)) 91 (ix 0) ((σ 91 (ix 0)) + 1)) ) (fun r34 σ35 => some (0, σ35))) else (if (σ 64 (ix ((σ 62 (ix (σ 94 (ix ((σ 93 (ix 0)) - 1))))) + (σ 95 (ix ((σ 93 (ix 0)) - 1)))))) = 11 then (gb ((σ 93 (ix 0)) - 1) 60 (gb ((σ 93 (ix 0)) - 1) 60 (some (0, sg (sg (sg σ 95 (ix ((σ 93 (ix 0)) - 1)) ((σ 95 (ix ((σ 93 (ix 0)) - 1))) + 1)) 91 (ix 0) ((σ 91 (ix 0)) + 1)) 97 (ix ((σ 93 (ix 0)) - 1)) ((σ 97 (ix ((σ 93 (ix 0)) - 1))) - 1))))) else (if (σ 64 (ix ((σ 62 (ix (σ 94 (ix ((σ 93 (ix 0)) - 1))))) + (σ 95 (ix ((σ 93 (ix 0)) - 1)))))) = 12 then (gb ((σ 93 (ix 0)) - 1) 60 (some (0, sg (sg (sg σ 95 (ix ((σ 93 (ix 0)) - 1)) ((σ 95 (ix ((σ 93 (ix 0)) - 1))) + 1)) 91 (ix 0) ((σ 91 (ix 0)) + 1)) 95 (ix ((σ 93 (ix 0)) - 1)) (σ 65 (ix ((σ 62 (ix (σ 94 (ix ((σ 93 (ix 0)) - 1))))) + (σ 95 (ix ((σ 93 (ix 0)) - 1))))))))) else (if (σ 64 (ix ((σ 62 (ix (σ 94 (ix ((σ 93 (ix 0)) - 1))))) + (σ 95 (ix ((σ 93 (ix 0)) - 1)))))) = 13 then (bd (f_X12_pop N n (sg (sg σ 95 (ix ((σ 93 (ix 0)) - 1)) ((σ 95 (ix ((σ 93 (ix 0)) - 1))) + 1)) 91 (ix 0) ((σ 91 (ix 0)) + 1)) ) (fun r43 σ44 => if r43 = 0 then (gb ((σ 93 (ix 0)) - 1) 60 (some (0, sg σ44 95 (ix ((σ 93 (ix 0)) - 1)) (σ 65 (ix ((σ 62 (ix (σ 94 (ix ((σ 93 (ix 0)) - 1))))) + (σ 95 (ix ((σ 93 (ix 0)) - 1))))))))) else (gb ((σ 93 (ix 0)) - 1) 60 (gb ((σ 93 (ix 0)) - 1) 60 (some (0, sg σ44 95 (ix ((σ 93 (ix 0)) - 1)) (σ44 95 (ix ((σ 93 (ix 0)) - 1))))))))) else (if (σ 64 (ix ((σ 62 (ix (σ 94 (ix ((σ 93 (ix 0)) - 1))))) + (σ 95 (ix ((σ 93 (ix 0)) - 1)))))) = 14 then (bd (f_X12_callStack N n (sg (sg σ 95 (ix ((σ 93 (ix 0)) - 1)) ((σ 95 (ix ((σ 93 (ix 0)) - 1))) + 1)) 91 (ix 0) ((σ 91 (ix 0)) + 1)) (σ 65 (ix ((σ 62 (ix (σ 94 (ix ((σ 93 (ix 0)) - 1))))) + (σ 95 (ix ((σ 93 (ix 0)) - 1))))))) (fun r51 σ52 => some (0, σ52))) else (if (σ 64 (ix ((σ 62 (ix (σ 94 (ix ((σ 93 (ix 0)) - 1))))) + (σ 95 (ix ((σ 93 (ix 0)) - 1)))))) = 15 then (bd (f_X12_pop N n (sg (sg σ 95 (ix ((σ 93 (ix 0)) - 1)) ((σ 95 (ix ((σ 93 (ix 0)) - 1))) + 1)) 91 (ix 0) ((σ 91 (ix 0)) + 1)) ) (fun r55 σ56 => bd (f_X12_over N n σ56 0 r55) (fun r58 σ59 => some (0, σ59)))) else (if (σ 64 (ix ((σ 62 (ix (σ 94 (ix ((σ 93 (ix 0)) - 1))))) + (σ 95 (ix ((σ 93 (ix 0)) - 1)))))) = 16 then (bd (f_X12_readStack N n (sg (sg σ 95 (ix ((σ 93 (ix 0)) - 1)) ((σ 95 (ix ((σ 93 (ix 0)) - 1))) + 1)) 91 (ix 0) ((σ 91 (ix 0)) + 1)) ) (fun r62 σ63 => some (0, σ63))) else (if (σ 64 (ix ((σ 62 (ix (σ 94 (ix ((σ 93 (ix 0)) - 1))))) + (σ 95 (ix ((σ 93 (ix 0)) - 1)))))) = 17 then (bd (f_X12_writeStack N n (sg (sg σ 95 (ix ((σ 93 (ix 0)) - 1)) ((σ 95 (ix ((σ 93 (ix 0)) - 1))) + 1)) 91 (ix 0) ((σ 91 (ix 0)) + 1)) ) (fun r66 σ67 => some (0, σ67))) else (gb ((σ 62 (ix (σ 94 (ix ((σ 93 (ix 0)) - 1))))) + (σ 95 (ix ((σ 93 (ix 0)) - 1)))) 300 (bd (f_X12_workStack N n (sg (sg σ 95 (ix ((σ 93 (ix 0)) - 1)) ((σ 95 (ix ((σ 93 (ix 0)) - 1))) + 1)) 91 (ix 0) ((σ 91 (ix 0)) + 1)) (σ 64 (ix ((σ 62 (ix (σ 94 (ix ((σ 93 (ix 0)) - 1))))) + (σ 95 (ix ((σ 93 (ix 0)) - 1))))))) (fun r70 σ71 => some (0, σ71)))))))))))))))))))))))))
theorem rs_def (N n : Nat) (σ : Sg) : f_X12_stepStack N n σ = gb 0 2 (if (σ 93 (ix 0)) = 0 then (bd (f_X12_enters N n σ 0 0) (fun _ σ74 => rS N n σ74)) else (rS N n σ)) := rfl
theorem frm_same {σ σ' τ τ' : Sg} {r L B m : Nat} (h : FRm σ τ r L B m) (hL : L ≤ 10) (e97 : τ' 97 r = τ 97 r) (e96 : ∀ k, k < 24 → τ' 96 (24 * r + k) = τ 96 (24 * r + k)) (e49 : ∀ k, k < 10 → σ' 49 (10 * r + k) = σ 49 (10 * r + k)) (e50 : ∀ i, i < m → σ' 50 (B + i) = σ 50 (B + i)) : FRm σ' τ' r L B m := by
  obtain ⟨h1, h2, h3, h4⟩ := h
  refine ⟨e97.trans h1, h2, fun k hk => ?_, fun i hi => ?_⟩
  · rw [e96 k (by omega), e49 k (by omega)]; exact h3 k hk
  · rw [show 24 * r + L + i = 24 * r + (L + i) by omega, e96 (L + i) (by omega), e50 i hi, show 24 * r + (L + i) = 24 * r + L + i by omega]; exact h4 i hi
/-- the frames up to q, those below it with all that they hold -/
def LFr (σ τ : Sg) (lo : Nat → Nat) (q : Nat) (fn bt : Nat → Nat) : Prop :=
  (∀ r, r ≤ q → σ 47 r = nI (fn r) ∧ fn r < 12 ∧ lo (fn r) ≤ 10 ∧ σ 51 r = nI (bt r) ∧ bt r ≤ 12 * r ∧ τ 94 r = nI (fn r)) ∧ (∀ r, r < q → bt r ≤ bt (r + 1) ∧ τ 95 r = σ 48 r ∧ FRm σ τ r (lo (fn r)) (bt r) (bt (r + 1) - bt r))
theorem bt_mono {bt : Nat → Nat} {q : Nat} (h : ∀ r, r < q → bt r ≤ bt (r + 1)) : ∀ d r, r + d = q → bt r ≤ bt q := by
  intro d
  induction d with
  | zero => intro r e; rw [show r = q by omega]; exact Nat.le_refl _
  | succ d ih => intro r e; exact Nat.le_trans (h r (by omega)) (ih (r + 1) (by omega))
/-- what lies below the innermost frame is as it was -/
def Kw (σ σ' τ τ' : Sg) (q B : Nat) : Prop :=
  (∀ j, σ' 47 j = σ 47 j) ∧ (∀ j, σ' 51 j = σ 51 j) ∧ (∀ j, j < q → σ' 48 j = σ 48 j) ∧ (∀ j, j < 10 * q → σ' 49 j = σ 49 j) ∧ (∀ j, j < B → σ' 50 j = σ 50 j) ∧ (∀ j, τ' 94 j = τ 94 j) ∧ (∀ j, j < q → τ' 95 j = τ 95 j ∧ τ' 97 j = τ 97 j) ∧ ∀ j, j < 24 * q → τ' 96 j = τ 96 j
theorem kq_w {σ σ' τ τ' : Sg} {q B : Nat} (h : Kq σ σ' τ τ' q B) : Kw σ σ' τ τ' q B := by
  obtain ⟨k1, k2, k3, k4, k5, k6⟩ := h
  exact ⟨fun j => k1 47 j (by decide) (by decide) (by omega), fun j => k1 51 j (by decide) (by decide) (by omega), fun j _ => k1 48 j (by decide) (by decide) (by omega), k2, k3, fun j => k4 94 j (by decide) (by decide), fun j hj => ⟨k4 95 j (by decide) (by decide), k6 j (by omega)⟩, k5⟩
theorem xc_top {σ σ' τ τ' : Sg} {lo : Nat → Nat} {q : Nat} {fn bt : Nat → Nat} {s : Nat} (hL : LFr σ τ lo q fn bt) (hK : Kw σ σ' τ τ' q (bt q)) (hF : FRm σ' τ' q (lo (fn q)) (bt q) s) (h12 : σ' 45 12 = nI (bt q + s)) (h7 : σ' 45 7 = nI (q + 1)) (hq : q < 30) (h95 : τ' 95 q = σ' 48 q) : XC σ' τ' lo := by
  obtain ⟨l1, l2⟩ := hL
  obtain ⟨k1, k2, k3, k4, k5, k6, k7, k8⟩ := hK
  have hs := hF.2.1
  have hbq := (l1 q (Nat.le_refl _)).2.2.2.2.1
  rw [xc_iff (h := q + 1) (fn := fn) (bt := bt) (tp := bt q + s) h7 (by omega) h12 (by omega) (fun r hr => ?_)]
  · intro r hr
    obtain ⟨a1, a2, a3, a4, a5, a6⟩ := l1 r (by omega)
    by_cases e : r = q
    · subst e
      rw [if_neg (by omega), show bt r + s - bt r = s by omega]
      exact ⟨(k6 r).trans a6, h95, hF⟩
    · have hr2 : r < q := by omega
      obtain ⟨b1, b2, b3⟩ := l2 r hr2
      have hm := bt_mono (fun r hr => (l2 r hr).1) (q - (r + 1)) (r + 1) (by omega)
      rw [if_pos (by omega)]
      refine ⟨(k6 r).trans a6, ?_, frm_same b3 a3 (k7 r hr2).2 (fun k hk => k8 _ (by omega)) (fun k hk => k4 _ (by omega)) (fun i hi => k5 _ (by omega))⟩
      rw [(k7 r hr2).1, k3 r hr2]; exact b2
  · obtain ⟨a1, a2, a3, a4, a5, a6⟩ := l1 r (by omega)
    exact ⟨(k1 r).trans a1, a2, (k2 r).trans a4, a5⟩
theorem ends_eq {N n : Nat} {τ : Sg} {m : Nat} (hm : m < 2) (x : Int32) : f_X12_ends N n τ (nI m) x = some (0, sg (sg τ 89 m x) 93 m 0) := by
  unfold f_X12_ends
  rw [gb_nI hm (by decide), gb_nI hm (by decide), ix_nI (k := m) (by omega)]
theorem roomq {N n : Nat} {σ : Sg} {q : Nat} (e : σ 45 7 = nI (q + 1)) : f_X4_room_X8 N n σ = some (nI q, σ) := room_eq (h := q + 1) e (by omega)
theorem jumpq {N n : Nat} {σ : Sg} {q : Nat} (e : σ 45 7 = nI (q + 1)) (hq : q < 30) (x : Int32) : f_X4_jump_X8 N n σ x = some (0, sg σ 48 q x) := jump_ok (h := q + 1) e (by omega) (by omega) x
/-- how a STEP ends on both sides -/
def SP (lo : Nat → Nat) (a b : Int32 × Sg) : Prop := XS a.2 b.2 ∧ (a.2 45 3 = 0 → XC a.2 b.2 lo ∧ ¬ a.2 45 7 = 0)
theorem sp_end {lo : Nat → Nat} {σ τ : Sg} {x r r' : Int32} (h : XS σ τ) (hx : ¬ x = 0) : SP lo (r, sg (sg σ 45 3 x) 45 7 0) (r', sg (sg τ 89 0 x) 93 0 0) := by
  obtain ⟨h1, h2, h3, h4, h5, h6⟩ := h
  refine ⟨⟨?_, ?_, ?_, ?_, ?_, fun k hk => ?_⟩, fun q => ?_⟩
  · show sg (sg τ 89 0 x) 93 0 0 89 0 = sg (sg σ 45 3 x) 45 7 0 45 3
    rw [sg_c (by decide), sg_at, sg_ne (by decide), sg_at]
  · show sg (sg τ 89 0 x) 93 0 0 90 0 = sg (sg σ 45 3 x) 45 7 0 45 4
    rw [sg_c (by decide), sg_c (by decide), sg_ne (by decide), sg_ne (by decide)]; exact h2
  · show sg (sg τ 89 0 x) 93 0 0 91 0 = sg (sg σ 45 3 x) 45 7 0 45 5
    rw [sg_c (by decide), sg_c (by decide), sg_ne (by decide), sg_ne (by decide)]; exact h3
  · show sg (sg τ 89 0 x) 93 0 0 92 0 = sg (sg σ 45 3 x) 45 7 0 45 6
    rw [sg_c (by decide), sg_c (by decide), sg_ne (by decide), sg_ne (by decide)]; exact h4
  · show sg (sg τ 89 0 x) 93 0 0 93 0 = sg (sg σ 45 3 x) 45 7 0 45 7
    rw [sg_at, sg_at]
  · show sg (sg τ 89 0 x) 93 0 0 88 k = sg (sg σ 45 3 x) 45 7 0 46 k
    rw [sg_c (by decide), sg_c (by decide), sg_c (by decide), sg_c (by decide)]; exact h6 k hk
  · have q : sg (sg σ 45 3 x) 45 7 0 45 3 = 0 := q
    rw [fin_end] at q
    exact absurd q hx
theorem works_rel {N n : Nat} {σ τ : Sg} {o a b : Int32} (h : ¬ (o = 6 ∧ b = 0)) : Ok2 (f_X11_reckon N n σ o a b) (f_X12_works N n τ o a b) (fun x y => x.1 = y.1 ∧ x.2 = σ ∧ y.2 = τ) := by
  unfold f_X11_reckon f_X12_works
  refine o2_if Iff.rfl (fun _ => o2_ret ⟨rfl, rfl, rfl⟩) (fun _ => o2_if Iff.rfl (fun _ => o2_ret ⟨rfl, rfl, rfl⟩) (fun _ => o2_if Iff.rfl (fun _ => o2_ret ⟨rfl, rfl, rfl⟩) (fun _ => o2_if Iff.rfl (fun c => ?_) (fun _ => o2_if Iff.rfl (fun _ => o2_if Iff.rfl (fun _ => o2_ret ⟨rfl, rfl, rfl⟩) (fun _ => o2_ret ⟨rfl, rfl, rfl⟩)) (fun _ => o2_if Iff.rfl (fun _ => o2_ret ⟨rfl, rfl, rfl⟩) (fun _ => o2_ret ⟨rfl, rfl, rfl⟩))))))
  have hb : ¬ b = 0 := fun z => h ⟨c, z⟩
  rw [if_neg hb]
  unfold gdz
  rw [decide_eq_false hb]
  exact o2_ret ⟨rfl, rfl, rfl⟩
theorem isCell_eq {N n : Nat} {τ : Sg} (x : Int32) : (∃ k, k < 64 ∧ x = nI k ∧ f_X12_isCell N n τ x = some (1, τ)) ∨ ((∀ k, k < 64 → ¬ x = nI k) ∧ f_X12_isCell N n τ x = some (0, τ)) := by
  unfold f_X12_isCell
  rcases cs_n x with q | ⟨k, hk, rfl⟩
  · exact Or.inr ⟨fun k hk e => absurd q (by rw [e]; exact nI_pos (by omega)), if_pos q⟩
  · rw [if_neg (nI_pos hk)]
    have f64 : ((64 : Int32) ≤ nI k) = (64 ≤ k) := le_ln (k := 64) (by omega) (by decide)
    by_cases c : k < 64
    · exact Or.inl ⟨k, c, rfl, by rw [if_neg (show ¬ (64 : Int32) ≤ nI k by rw [f64]; omega)]⟩
    · exact Or.inr ⟨fun j hj e => by have := (nI_eq (by omega) (by omega)).mp e; omega, by rw [if_pos (show (64 : Int32) ≤ nI k by rw [f64]; omega)]⟩
