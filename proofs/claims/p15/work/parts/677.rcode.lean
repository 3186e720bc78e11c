/-! the reference's code: 84 (5 an op), 85 opsFrom, 86 opsOf, 87 first, 59.30 ops, 59.34 too much, 59.35 now, 59.22 registers -/
def OK4 (k : Nat) (a b c : Int32) (F G : Nat) : Prop := k ≤ 14 ∧ ((k = 0 ∨ k = 1 ∨ k = 2 ∨ k = 3 ∨ k = 5 ∨ k = 6 ∨ k = 7 ∨ k = 8 ∨ k = 9 ∨ k = 11 ∨ k = 14) → Bl a 16) ∧ (k = 4 → Bl a G) ∧ (k = 10 → Bl a 24) ∧ (k = 12 → Bl a 6) ∧ (k = 13 → Bl a F) ∧
  ((k = 1 ∨ k = 2 ∨ k = 3 ∨ k = 7 ∨ k = 8 ∨ k = 10 ∨ k = 12) → Bl b 16) ∧ (k = 5 → Bl b G) ∧ (k = 9 → Bl b 24) ∧ (k = 11 → Bl b 6) ∧ (k = 2 → Bl c 16)
theorem o4_set {a b c : Int32} {F G : Nat} (ha : Bl a 16) : OK4 0 a b c F G := by
  refine ⟨by decide, ?_, ?_, ?_, ?_, ?_, ?_, ?_, ?_, ?_, ?_⟩ <;> intro q <;> first | omega | exact ha
theorem o4_move {a b c : Int32} {F G : Nat} (ha : Bl a 16) (hb : Bl b 16) : OK4 1 a b c F G := by
  refine ⟨by decide, ?_, ?_, ?_, ?_, ?_, ?_, ?_, ?_, ?_, ?_⟩ <;> intro q <;> first | omega | exact ha | exact hb
theorem o4_swap {a b c : Int32} {F G : Nat} (ha : Bl a 16) (hb : Bl b 16) : OK4 3 a b c F G := by
  refine ⟨by decide, ?_, ?_, ?_, ?_, ?_, ?_, ?_, ?_, ?_, ?_⟩ <;> intro q <;> first | omega | exact ha | exact hb
theorem o4_go {a b c : Int32} {F G : Nat} (ha : Bl a G) : OK4 4 a b c F G := by
  refine ⟨by decide, ?_, ?_, ?_, ?_, ?_, ?_, ?_, ?_, ?_, ?_⟩ <;> intro q <;> first | omega | exact ha
theorem o4_ifn {a b c : Int32} {F G : Nat} (ha : Bl a 16) (hb : Bl b G) : OK4 5 a b c F G := by
  refine ⟨by decide, ?_, ?_, ?_, ?_, ?_, ?_, ?_, ?_, ?_, ?_⟩ <;> intro q <;> first | omega | exact ha | exact hb
theorem o4_tell {a b c : Int32} {F G : Nat} (ha : Bl a 16) : OK4 6 a b c F G := by
  refine ⟨by decide, ?_, ?_, ?_, ?_, ?_, ?_, ?_, ?_, ?_, ?_⟩ <;> intro q <;> first | omega | exact ha
theorem o4_read {a b c : Int32} {F G : Nat} (ha : Bl a 16) (hb : Bl b 16) : OK4 7 a b c F G := by
  refine ⟨by decide, ?_, ?_, ?_, ?_, ?_, ?_, ?_, ?_, ?_, ?_⟩ <;> intro q <;> first | omega | exact ha | exact hb
theorem o4_write {a b c : Int32} {F G : Nat} (ha : Bl a 16) (hb : Bl b 16) : OK4 8 a b c F G := by
  refine ⟨by decide, ?_, ?_, ?_, ?_, ?_, ?_, ?_, ?_, ?_, ?_⟩ <;> intro q <;> first | omega | exact ha | exact hb
theorem o4_load {a b c : Int32} {F G : Nat} (ha : Bl a 16) (hb : Bl b 24) : OK4 9 a b c F G := by
  refine ⟨by decide, ?_, ?_, ?_, ?_, ?_, ?_, ?_, ?_, ?_, ?_⟩ <;> intro q <;> first | omega | exact ha | exact hb
theorem o4_save {a b c : Int32} {F G : Nat} (ha : Bl a 24) (hb : Bl b 16) : OK4 10 a b c F G := by
  refine ⟨by decide, ?_, ?_, ?_, ?_, ?_, ?_, ?_, ?_, ?_, ?_⟩ <;> intro q <;> first | omega | exact ha | exact hb
theorem o4_take {a b c : Int32} {F G : Nat} (ha : Bl a 16) (hb : Bl b 6) : OK4 11 a b c F G := by
  refine ⟨by decide, ?_, ?_, ?_, ?_, ?_, ?_, ?_, ?_, ?_, ?_⟩ <;> intro q <;> first | omega | exact ha | exact hb
theorem o4_pass {a b c : Int32} {F G : Nat} (ha : Bl a 6) (hb : Bl b 16) : OK4 12 a b c F G := by
  refine ⟨by decide, ?_, ?_, ?_, ?_, ?_, ?_, ?_, ?_, ?_, ?_⟩ <;> intro q <;> first | omega | exact ha | exact hb
theorem o4_call {a b c : Int32} {F G : Nat} (ha : Bl a F) : OK4 13 a b c F G := by
  refine ⟨by decide, ?_, ?_, ?_, ?_, ?_, ?_, ?_, ?_, ?_, ?_⟩ <;> intro q <;> first | omega | exact ha
theorem o4_get {a b c : Int32} {F G : Nat} (ha : Bl a 16) : OK4 14 a b c F G := by
  refine ⟨by decide, ?_, ?_, ?_, ?_, ?_, ?_, ?_, ?_, ?_, ?_⟩ <;> intro q <;> first | omega | exact ha
theorem o4_work {a b c : Int32} {F G : Nat} (ha : Bl a 16) (hb : Bl b 16) (hc : Bl c 16) : OK4 2 a b c F G := by
  refine ⟨by decide, ?_, ?_, ?_, ?_, ?_, ?_, ?_, ?_, ?_, ?_⟩ <;> intro q <;> first | omega | exact ha | exact hb | exact hc
def Opr (σ : Sg) (F G j : Nat) : Prop := ∃ k, σ 84 (5 * j) = nI k ∧ OK4 k (σ 84 (5 * j + 1)) (σ 84 (5 * j + 2)) (σ 84 (5 * j + 3)) F G
theorem opr_same {σ σ' : Sg} {F G j : Nat} (h : Opr σ F G j) (e : ∀ i, i < 5 * j + 5 → 5 * j ≤ i → σ' 84 i = σ 84 i) : Opr σ' F G j := by
  obtain ⟨k, h1, h2⟩ := h
  refine ⟨k, (e _ (by omega) (by omega)).trans h1, ?_⟩
  rw [e _ (by omega) (by omega), e _ (by omega) (by omega), e _ (by omega) (by omega)]
  exact h2
/-- FUNC f's ops are written from S on, and t is the number of ops -/
def WR (σ0 σ : Sg) (f F G S t R : Nat) : Prop :=
  σ 59 35 = nI f ∧ σ 59 22 = nI (R + 2) ∧ σ 59 30 = nI t ∧ S ≤ t ∧ t ≤ 2000 ∧ (∀ j, S ≤ j → j < t → Opr σ F G j) ∧ (∀ i, i < 5 * S → σ 84 i = σ0 84 i) ∧ (∀ c j, c ≠ 84 → c ≠ 87 → ¬ (c = 59 ∧ j = 30) → ¬ (c = 59 ∧ j = 34) → σ c j = σ0 c j)
/-- not too much yet -/
def Fi (σ : Sg) : Prop := ¬ σ 59 34 = 1
/-- what a method that writes ops gives -/
def Wz (σ0 σ : Sg) (f F G S t R : Nat) (Q : Int32 → Prop) (y : Int32 × Sg) : Prop := Q y.1 ∧ ∃ t', t ≤ t' ∧ WR σ0 y.2 f F G S t' R ∧ (Fi y.2 → Fi σ)
theorem emit_wr {N n : Nat} {σ0 σ : Sg} {f F G S t R : Nat} (h : WR σ0 σ f F G S t R) {k : Nat} {kk a b c d : Int32} (ek : kk = nI k) (hk : OK4 k a b c F G) :
    Ok (f_X12_emit N n σ kk a b c d) (fun y => ∃ t', t ≤ t' ∧ WR σ0 y.2 f F G S t' R ∧ (Fi y.2 → Fi σ ∧ t' = t + 1 ∧ y.2 84 (5 * t) = nI k)) := by
  subst ek
  obtain ⟨h1, h2, h3, h4, h5, h6, h7, h8⟩ := h
  unfold f_X12_emit
  rw [h3]
  refine ok_if (fun z => ?_) (fun z => ?_)
  · have o : ∀ c j, ¬ (c = 59 ∧ j = 34) → sg σ 59 34 1 c j = σ c j := fun c j q => sg_o (by omega)
    refine ok_ret ⟨t, Nat.le_refl _, ⟨(o 59 35 (by decide)).trans h1, (o 59 22 (by decide)).trans h2, (o 59 30 (by decide)).trans h3, h4, h5, fun j q1 q2 => opr_same (h6 j q1 q2) (fun i _ _ => o 84 i (by omega)), fun i hi => (o 84 i (by omega)).trans (h7 i hi), fun c j q1 q2 q3 q4 => (o c j q4).trans (h8 c j q1 q2 q3 q4)⟩, fun q => ?_⟩
    exact absurd (show sg σ 59 34 1 59 34 = 1 from sg_at _ _ _ _) q
  · have ht : t < 2000 := by
      by_cases e : t = 2000
      · exact absurd (by rw [e]; rfl) z
      · omega
    rw [ml_ln t 5]
    have e5 : OfNat.ofNat 5 * t = 5 * t := rfl
    rw [e5, ad_nl (5 * t) 1, ad_nl (5 * t) 2, ad_nl (5 * t) 3, ad_nl (5 * t) 4, ad_nl t 1]
    have o1 : 5 * t + OfNat.ofNat 1 = 5 * t + 1 := rfl
    have o2 : 5 * t + OfNat.ofNat 2 = 5 * t + 2 := rfl
    have o3 : 5 * t + OfNat.ofNat 3 = 5 * t + 3 := rfl
    have o4 : 5 * t + OfNat.ofNat 4 = 5 * t + 4 := rfl
    rw [o1, o2, o3, o4, gb_nI (show 5 * t < 10000 by omega) (by decide), gb_nI (show 5 * t + 1 < 10000 by omega) (by decide), gb_nI (show 5 * t + 2 < 10000 by omega) (by decide), gb_nI (show 5 * t + 3 < 10000 by omega) (by decide), gb_nI (show 5 * t + 4 < 10000 by omega) (by decide), ix_nI (k := 5 * t) (by omega), ix_nI (k := 5 * t + 1) (by omega), ix_nI (k := 5 * t + 2) (by omega), ix_nI (k := 5 * t + 3) (by omega), ix_nI (k := 5 * t + 4) (by omega)]
    obtain ⟨σ1, e1⟩ : ∃ z, z = sg (sg (sg (sg (sg (sg σ 84 (5 * t) (nI k)) 84 (5 * t + 1) a) 84 (5 * t + 2) b) 84 (5 * t + 3) c) 84 (5 * t + 4) d) 59 30 (nI (t + 1)) := ⟨_, rfl⟩
    have o84 : ∀ i, σ1 84 i = if i = 5 * t + 4 then d else if i = 5 * t + 3 then c else if i = 5 * t + 2 then b else if i = 5 * t + 1 then a else if i = 5 * t then nI k else σ 84 i := fun i => by
      rw [e1, sg_c (by decide), sg_if, sg_if, sg_if, sg_if, sg_if]
    have lo : ∀ i, i < 5 * t → σ1 84 i = σ 84 i := fun i hi => by
      rw [o84, if_neg (by omega), if_neg (by omega), if_neg (by omega), if_neg (by omega), if_neg (by omega)]
    have k0 : σ1 84 (5 * t) = nI k := by rw [o84, if_neg (by omega), if_neg (by omega), if_neg (by omega), if_neg (by omega), if_pos rfl]
    have oc : ∀ c j, c ≠ 84 → ¬ (c = 59 ∧ j = 30) → σ1 c j = σ c j := fun c j q1 q2 => by
      rw [e1, sg_o (by omega), sg_c q1, sg_c q1, sg_c q1, sg_c q1, sg_c q1]
    refine ⟨(0, σ1), by rw [e1], t + 1, by omega, ⟨(oc 59 35 (by decide) (by decide)).trans h1, (oc 59 22 (by decide) (by decide)).trans h2, show σ1 59 30 = nI (t + 1) by rw [e1]; exact sg_at _ _ _ _, by omega, by omega, fun j q1 q2 => ?_, fun i hi => (lo i (by omega)).trans (h7 i hi), fun c j q1 q2 q3 q4 => (oc c j q1 q3).trans (h8 c j q1 q2 q3 q4)⟩, fun q => ⟨?_, rfl, k0⟩⟩
    · by_cases e : j = t
      · subst e
        refine ⟨k, k0, ?_⟩
        have a1 : σ1 84 (5 * j + 1) = a := by rw [o84, if_neg (by omega), if_neg (by omega), if_neg (by omega), if_pos rfl]
        have a2 : σ1 84 (5 * j + 2) = b := by rw [o84, if_neg (by omega), if_neg (by omega), if_pos rfl]
        have a3 : σ1 84 (5 * j + 3) = c := by rw [o84, if_neg (by omega), if_pos rfl]
        show OK4 k (σ1 84 (5 * j + 1)) (σ1 84 (5 * j + 2)) (σ1 84 (5 * j + 3)) F G
        rw [a1, a2, a3]; exact hk
      · exact opr_same (h6 j q1 (by omega)) (fun i i1 i2 => lo i (by omega))
    · have q : ¬ σ1 59 34 = 1 := q
      rw [oc 59 34 (by decide) (by decide)] at q
      exact q
theorem emit_wz {N n : Nat} {σ0 σ : Sg} {f F G S t R : Nat} (h : WR σ0 σ f F G S t R) {k : Nat} {kk a b c d : Int32} (ek : kk = nI k) (hk : OK4 k a b c F G) : Ok (f_X12_emit N n σ kk a b c d) (Wz σ0 σ f F G S t R (fun _ => True)) :=
  ok_mono (emit_wr h ek hk) (fun y ⟨t', a1, a2, a3⟩ => ⟨trivial, t', a1, a2, fun q => (a3 q).1⟩)
theorem wr_fr {σ0 σ : Sg} {f F G S t R : Nat} (h : WR σ0 σ f F G S t R) : ∀ c j, c ≤ 83 → c ≠ 59 → σ c j = σ0 c j := fun c j q q2 => h.2.2.2.2.2.2.2 c j (by omega) (by omega) (by omega) (by omega)
theorem wr_hm {σ0 σ : Sg} {f F G S t R v : Nat} (h : WR σ0 σ f F G S t R) (k : HMr σ0 f R v) : HMr σ f R v := by
  unfold HMr
  rw [wr_fr h 80 _ (by decide) (by decide), wr_fr h 79 _ (by decide) (by decide)]
  exact k
theorem rslot_eq {N n : Nat} {σ : Sg} {f v : Nat} (h : σ 59 35 = nI f) (hf : f < 12) (hv : v < 24) : f_X12_slotOf N n σ (nI v) = some (σ 80 (24 * f + v), σ) := by
  unfold f_X12_slotOf
  rw [h, ml_ln f 24, ad_nn]
  have e : OfNat.ofNat 24 * f + v = 24 * f + v := rfl
  rw [e, gb_nI (show 24 * f + v < 288 by omega) (by decide), ix_nI (by omega)]
theorem rreg_eq {N n : Nat} {σ : Sg} {f v : Nat} (h : σ 59 35 = nI f) (hf : f < 12) (hv : v < 24) : f_X12_registerOf N n σ (nI v) = some (σ 79 (24 * f + v), σ) := by
  unfold f_X12_registerOf
  rw [h, ml_ln f 24, ad_nn]
  have e : OfNat.ofNat 24 * f + v = 24 * f + v := rfl
  rw [e, gb_nI (show 24 * f + v < 288 by omega) (by decide), ix_nI (by omega)]
/-- a home by the sign of its SLOT -/
theorem hmr_reg {σ : Sg} {f R v : Nat} (h : HMr σ f R v) (hR : R ≤ 14) (e : σ 80 (24 * f + v) < 0) : Bl (σ 79 (24 * f + v)) 16 := by
  rcases h with ⟨-, a⟩ | ⟨k, a, b⟩
  · exact bl_le a (by omega)
  · rw [b] at e; exact absurd e (nI_pos (by omega))
theorem hmr_slot {σ : Sg} {f R v : Nat} (h : HMr σ f R v) (e : ¬ σ 80 (24 * f + v) < 0) : Bl (σ 80 (24 * f + v)) 24 := by
  rcases h with ⟨a, -⟩ | a
  · rw [a] at e; exact absurd (by decide) e
  · exact a
theorem wr_a {σ0 σ : Sg} {f F G S t R : Nat} (h : WR σ0 σ f F G S t R) (hR : R ≤ 14) : Bl (σ 59 22 - 2) 16 := by
  rw [h.2.1]
  exact ⟨R, by omega, (sb_nl (k := 2) (show 2 ≤ R + 2 by omega)).trans (congrArg nI (show R + 2 - 2 = R by omega))⟩
theorem wr_b {σ0 σ : Sg} {f F G S t R : Nat} (h : WR σ0 σ f F G S t R) (hR : R ≤ 14) : Bl (σ 59 22 - 1) 16 := by
  rw [h.2.1]
  exact ⟨R + 1, by omega, (sb_nl (k := 1) (show 1 ≤ R + 2 by omega)).trans (congrArg nI (show R + 2 - 1 = R + 1 by omega))⟩
theorem nlt {x : Int32} (h : 0 ≤ x) : ¬ x < 0 := Int32.not_lt.mpr h
theorem nle {x : Int32} (h : ¬ 0 ≤ x) : x < 0 := Int32.not_le.mp h
section WRR
variable {N n : Nat} {σ0 σ : Sg} {f F G S t R v w : Nat}
theorem rread_wz (hf : f < 12) (hR : R ≤ 14) (h : WR σ0 σ f F G S t R) (hv : v < 22) (hm : HMr σ0 f R v) {sp : Int32} (hs : Bl sp 16) : Ok (f_X12_read N n σ (nI v) sp) (Wz σ0 σ f F G S t R (fun r => Bl r 16)) := by
  have hm1 := wr_hm h hm
  unfold f_X12_read
  simp only [rslot_eq h.1 hf (show v < 24 by omega), rreg_eq h.1 hf (show v < 24 by omega), bd_s]
  refine ok_if (fun c => ?_) (fun c => ok_ret ⟨hmr_reg hm1 hR (nle c), t, Nat.le_refl _, h, fun q => q⟩)
  refine ok_bd (emit_wz h (k := 9) (kk := 9) rfl (o4_load hs (hmr_slot hm1 (nlt c)))) (fun r σ1 _ h1 => ok_ret ?_)
  exact ⟨hs, h1.2⟩
theorem written_ok (hf : f < 12) (hR : R ≤ 14) (h : WR σ0 σ f F G S t R) (hv : v < 22) (hm : HMr σ0 f R v) : Ok (f_X12_written N n σ (nI v)) (fun y => y.2 = σ ∧ Bl y.1 16) := by
  have hm1 := wr_hm h hm
  unfold f_X12_written
  simp only [rslot_eq h.1 hf (show v < 24 by omega), rreg_eq h.1 hf (show v < 24 by omega), bd_s]
  exact ok_if (fun c => ok_ret ⟨rfl, wr_a h hR⟩) (fun c => ok_ret ⟨rfl, hmr_reg hm1 hR (nle c)⟩)
theorem saved_wz (hf : f < 12) (hR : R ≤ 14) (h : WR σ0 σ f F G S t R) (hv : v < 22) (hm : HMr σ0 f R v) : Ok (f_X12_saved N n σ (nI v)) (Wz σ0 σ f F G S t R (fun _ => True)) := by
  have hm1 := wr_hm h hm
  unfold f_X12_saved
  simp only [rslot_eq h.1 hf (show v < 24 by omega), bd_s]
  refine ok_if (fun c => ok_ret ⟨trivial, t, Nat.le_refl _, h, fun q => q⟩) (fun c => ?_)
  exact ok_bd (emit_wz h (k := 10) (kk := 10) rfl (o4_save (hmr_slot hm1 c) (wr_a h hR))) (fun r σ1 _ h1 => ok_ret ⟨trivial, h1.2⟩)
theorem into_wz (hf : f < 12) (hR : R ≤ 14) (h : WR σ0 σ f F G S t R) (hv : v < 22) (hm : HMr σ0 f R v) {x : Int32} (hx : Bl x 16) : Ok (f_X12_into N n σ x (nI v)) (Wz σ0 σ f F G S t R (fun _ => True)) := by
  have hm1 := wr_hm h hm
  unfold f_X12_into
  simp only [rslot_eq h.1 hf (show v < 24 by omega), rreg_eq h.1 hf (show v < 24 by omega), bd_s]
  exact ok_if (fun c => ok_bd (emit_wz h (k := 9) (kk := 9) rfl (o4_load hx (hmr_slot hm1 (nlt c)))) (fun r σ1 _ h1 => ok_ret ⟨trivial, h1.2⟩)) (fun c => ok_bd (emit_wz h (k := 1) (kk := 1) rfl (o4_move hx (hmr_reg hm1 hR (nle c)))) (fun r σ1 _ h1 => ok_ret ⟨trivial, h1.2⟩))
theorem outOf_wz (hf : f < 12) (hR : R ≤ 14) (h : WR σ0 σ f F G S t R) (hv : v < 22) (hm : HMr σ0 f R v) {x : Int32} (hx : Bl x 16) : Ok (f_X12_outOf N n σ (nI v) x) (Wz σ0 σ f F G S t R (fun _ => True)) := by
  have hm1 := wr_hm h hm
  unfold f_X12_outOf
  simp only [rslot_eq h.1 hf (show v < 24 by omega), rreg_eq h.1 hf (show v < 24 by omega), bd_s]
  exact ok_if (fun c => ok_bd (emit_wz h (k := 10) (kk := 10) rfl (o4_save (hmr_slot hm1 (nlt c)) hx)) (fun r σ1 _ h1 => ok_ret ⟨trivial, h1.2⟩)) (fun c => ok_bd (emit_wz h (k := 1) (kk := 1) rfl (o4_move (hmr_reg hm1 hR (nle c)) hx)) (fun r σ1 _ h1 => ok_ret ⟨trivial, h1.2⟩))
/-- one after the other -/
theorem wz_bd {x : Option (Int32 × Sg)} {k : Int32 → Sg → Option (Int32 × Sg)} {Q Q' : Int32 → Prop} (h : Ok x (Wz σ0 σ f F G S t R Q)) (hk : ∀ (r : Int32) (σ1 : Sg) (t1 : Nat), Q r → t ≤ t1 → WR σ0 σ1 f F G S t1 R → Ok (k r σ1) (Wz σ0 σ1 f F G S t1 R Q')) : Ok (bd x k) (Wz σ0 σ f F G S t R Q') := by
  refine ok_bd h (fun r σ1 _ h1 => ?_)
  obtain ⟨q, t1, a1, w1, f1⟩ := h1
  refine ok_mono (hk r σ1 t1 q a1 w1) (fun y hy => ?_)
  obtain ⟨q2, t2, a2, w2, f2⟩ := hy
  exact ⟨q2, t2, by omega, w2, fun z => f1 (f2 z)⟩
theorem wz_ret {r : Int32} {Q : Int32 → Prop} (h : WR σ0 σ f F G S t R) (q : Q r) : Ok (some (r, σ)) (Wz σ0 σ f F G S t R Q) := ok_ret ⟨q, t, Nat.le_refl _, h, fun z => z⟩
theorem moves_wz (hf : f < 12) (hR : R ≤ 14) (h : WR σ0 σ f F G S t R) (hv : v < 22) (hm : HMr σ0 f R v) (hw : w < 22) (hmw : HMr σ0 f R w) : Ok (f_X12_moves N n σ (nI v) (nI w)) (Wz σ0 σ f F G S t R (fun _ => True)) := by
  have hm1 := wr_hm h hm
  have hm2 := wr_hm h hmw
  unfold f_X12_moves
  simp only [rslot_eq h.1 hf (show v < 24 by omega), rreg_eq h.1 hf (show v < 24 by omega), rslot_eq h.1 hf (show w < 24 by omega), rreg_eq h.1 hf (show w < 24 by omega), bd_s]
  have two : ∀ (c1 : ¬ σ 80 (24 * f + v) < 0) (c2 : ¬ σ 80 (24 * f + w) < 0), Ok (bd (f_X12_emit N n σ 9 (σ 59 22 - 2) (σ 80 (24 * f + w)) 0 0) (fun _ σ24 => bd (f_X12_slotOf N n σ24 (nI v)) (fun r26 σ27 => bd (f_X12_emit N n σ27 10 r26 (σ27 59 22 - 2) 0 0) (fun _ σ30 => some ((0 : Int32), σ30))))) (Wz σ0 σ f F G S t R (fun _ => True)) := fun c1 c2 => by
    refine wz_bd (emit_wz h (k := 9) (kk := 9) rfl (o4_load (wr_a h hR) (hmr_slot hm2 c2))) (fun r σ1 t1 _ _ w1 => ?_)
    have hm3 := wr_hm w1 hm
    rw [rslot_eq w1.1 hf (show v < 24 by omega), bd_s]
    have c3 : ¬ σ1 80 (24 * f + v) < 0 := by
      rw [wr_fr w1 80 _ (by decide) (by decide), ← wr_fr h 80 _ (by decide) (by decide)]; exact c1
    exact wz_bd (emit_wz w1 (k := 10) (kk := 10) rfl (o4_save (hmr_slot hm3 c3) (wr_a w1 hR))) (fun r2 σ2 t2 _ _ w2 => wz_ret w2 trivial)
  have sv : ∀ (c1 : ¬ σ 80 (24 * f + v) < 0) (c2 : σ 80 (24 * f + w) < 0), Ok (bd (f_X12_emit N n σ 10 (σ 80 (24 * f + v)) (σ 79 (24 * f + w)) 0 0) (fun _ σ39 => some ((0 : Int32), σ39))) (Wz σ0 σ f F G S t R (fun _ => True)) := fun c1 c2 => wz_bd (emit_wz h (k := 10) (kk := 10) rfl (o4_save (hmr_slot hm1 c1) (hmr_reg hm2 hR c2))) (fun r2 σ2 t2 _ _ w2 => wz_ret w2 trivial)
  have ld : ∀ (c1 : σ 80 (24 * f + v) < 0) (c2 : ¬ σ 80 (24 * f + w) < 0), Ok (bd (f_X12_emit N n σ 9 (σ 79 (24 * f + v)) (σ 80 (24 * f + w)) 0 0) (fun _ σ48 => some ((0 : Int32), σ48))) (Wz σ0 σ f F G S t R (fun _ => True)) := fun c1 c2 => wz_bd (emit_wz h (k := 9) (kk := 9) rfl (o4_load (hmr_reg hm1 hR c1) (hmr_slot hm2 c2))) (fun r2 σ2 t2 _ _ w2 => wz_ret w2 trivial)
  refine ok_if (fun c1 => ok_if (fun _ => ok_if (fun c2 => ok_if (fun _ => wz_ret h trivial) (fun _ => two (nlt c1) (nlt c2))) (fun c2 => sv (nlt c1) (nle c2))) (fun z => absurd c1 z)) (fun c1 => ok_if (fun c2 => ok_if (fun z => absurd z c1) (fun _ => ld (nle c1) (nlt c2))) (fun c2 => ok_if (fun _ => wz_ret h trivial) (fun _ => ?_)))
  exact wz_bd (emit_wz h (k := 1) (kk := 1) rfl (o4_move (hmr_reg hm1 hR (nle c1)) (hmr_reg hm2 hR (nle c2)))) (fun r2 σ2 t2 _ _ w2 => wz_ret w2 trivial)
theorem swaps_wz (hf : f < 12) (hR : R ≤ 14) (h : WR σ0 σ f F G S t R) (hv : v < 22) (hm : HMr σ0 f R v) (hw : w < 22) (hmw : HMr σ0 f R w) {a b : Int32} (ha : Bl a 16) (hb : Bl b 16) : Ok (f_X12_swaps N n σ (nI v) (nI w) a b) (Wz σ0 σ f F G S t R (fun _ => True)) := by
  have hm1 := wr_hm h hm
  have hm2 := wr_hm h hmw
  have s4 : Ok (bd (f_X12_into N n σ a (nI v)) (fun _ σ6 => bd (f_X12_into N n σ6 b (nI w)) (fun _ σ9 => bd (f_X12_outOf N n σ9 (nI v) b) (fun _ σ12 => bd (f_X12_outOf N n σ12 (nI w) a) (fun _ σ15 => some ((0 : Int32), σ15)))))) (Wz σ0 σ f F G S t R (fun _ => True)) :=
    wz_bd (into_wz hf hR h hv hm ha) (fun _ σ1 t1 _ _ w1 => wz_bd (into_wz hf hR w1 hw hmw hb) (fun _ σ2 t2 _ _ w2 => wz_bd (outOf_wz hf hR w2 hv hm hb) (fun _ σ3 t3 _ _ w3 => wz_bd (outOf_wz hf hR w3 hw hmw ha) (fun _ σ4 t4 _ _ w4 => wz_ret w4 trivial))))
  unfold f_X12_swaps
  simp only [rslot_eq h.1 hf (show v < 24 by omega), rreg_eq h.1 hf (show v < 24 by omega), rslot_eq h.1 hf (show w < 24 by omega), rreg_eq h.1 hf (show w < 24 by omega), bd_s]
  refine ok_if (fun _ => s4) (fun c1 => ok_if (fun _ => s4) (fun c2 => ?_))
  exact wz_bd (emit_wz h (k := 3) (kk := 3) rfl (o4_swap (hmr_reg hm1 hR (nle c1)) (hmr_reg hm2 hR (nle c2)))) (fun r2 σ2 t2 _ _ w2 => wz_ret w2 trivial)
end WRR
