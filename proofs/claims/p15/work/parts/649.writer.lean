/-- the parts of an op, by its kind: registers below 16, SLOTS below 22, goals below G -/
def OK3 (k : Nat) (a b c : Int32) (F G : Nat) : Prop := k ≤ 14 ∧ ((k = 0 ∨ k = 1 ∨ k = 2 ∨ k = 3 ∨ k = 5 ∨ k = 6 ∨ k = 7 ∨ k = 8 ∨ k = 9 ∨ k = 11 ∨ k = 14) → Bl a 16) ∧ (k = 4 → Bl a G) ∧ (k = 10 → Bl a 22) ∧ (k = 12 → Bl a 6) ∧ (k = 13 → Bl a F) ∧
  ((k = 1 ∨ k = 2 ∨ k = 3 ∨ k = 7 ∨ k = 8 ∨ k = 10 ∨ k = 12) → Bl b 16) ∧ (k = 5 → Bl b G) ∧ (k = 9 → Bl b 22) ∧ (k = 11 → Bl b 6) ∧ (k = 2 → Bl c 16)
theorem o3_set {a b c : Int32} {F G : Nat} (ha : Bl a 16) : OK3 0 a b c F G := by
  refine ⟨by decide, ?_, ?_, ?_, ?_, ?_, ?_, ?_, ?_, ?_, ?_⟩ <;> intro q <;> first | omega | exact ha
theorem o3_move {a b c : Int32} {F G : Nat} (ha : Bl a 16) (hb : Bl b 16) : OK3 1 a b c F G := by
  refine ⟨by decide, ?_, ?_, ?_, ?_, ?_, ?_, ?_, ?_, ?_, ?_⟩ <;> intro q <;> first | omega | exact ha | exact hb
theorem o3_swap {a b c : Int32} {F G : Nat} (ha : Bl a 16) (hb : Bl b 16) : OK3 3 a b c F G := by
  refine ⟨by decide, ?_, ?_, ?_, ?_, ?_, ?_, ?_, ?_, ?_, ?_⟩ <;> intro q <;> first | omega | exact ha | exact hb
theorem o3_go {a b c : Int32} {F G : Nat} (ha : Bl a G) : OK3 4 a b c F G := by
  refine ⟨by decide, ?_, ?_, ?_, ?_, ?_, ?_, ?_, ?_, ?_, ?_⟩ <;> intro q <;> first | omega | exact ha
theorem o3_ifn {a b c : Int32} {F G : Nat} (ha : Bl a 16) (hb : Bl b G) : OK3 5 a b c F G := by
  refine ⟨by decide, ?_, ?_, ?_, ?_, ?_, ?_, ?_, ?_, ?_, ?_⟩ <;> intro q <;> first | omega | exact ha | exact hb
theorem o3_tell {a b c : Int32} {F G : Nat} (ha : Bl a 16) : OK3 6 a b c F G := by
  refine ⟨by decide, ?_, ?_, ?_, ?_, ?_, ?_, ?_, ?_, ?_, ?_⟩ <;> intro q <;> first | omega | exact ha
theorem o3_read {a b c : Int32} {F G : Nat} (ha : Bl a 16) (hb : Bl b 16) : OK3 7 a b c F G := by
  refine ⟨by decide, ?_, ?_, ?_, ?_, ?_, ?_, ?_, ?_, ?_, ?_⟩ <;> intro q <;> first | omega | exact ha | exact hb
theorem o3_write {a b c : Int32} {F G : Nat} (ha : Bl a 16) (hb : Bl b 16) : OK3 8 a b c F G := by
  refine ⟨by decide, ?_, ?_, ?_, ?_, ?_, ?_, ?_, ?_, ?_, ?_⟩ <;> intro q <;> first | omega | exact ha | exact hb
theorem o3_load {a b c : Int32} {F G : Nat} (ha : Bl a 16) (hb : Bl b 22) : OK3 9 a b c F G := by
  refine ⟨by decide, ?_, ?_, ?_, ?_, ?_, ?_, ?_, ?_, ?_, ?_⟩ <;> intro q <;> first | omega | exact ha | exact hb
theorem o3_save {a b c : Int32} {F G : Nat} (ha : Bl a 22) (hb : Bl b 16) : OK3 10 a b c F G := by
  refine ⟨by decide, ?_, ?_, ?_, ?_, ?_, ?_, ?_, ?_, ?_, ?_⟩ <;> intro q <;> first | omega | exact ha | exact hb
theorem o3_take {a b c : Int32} {F G : Nat} (ha : Bl a 16) (hb : Bl b 6) : OK3 11 a b c F G := by
  refine ⟨by decide, ?_, ?_, ?_, ?_, ?_, ?_, ?_, ?_, ?_, ?_⟩ <;> intro q <;> first | omega | exact ha | exact hb
theorem o3_pass {a b c : Int32} {F G : Nat} (ha : Bl a 6) (hb : Bl b 16) : OK3 12 a b c F G := by
  refine ⟨by decide, ?_, ?_, ?_, ?_, ?_, ?_, ?_, ?_, ?_, ?_⟩ <;> intro q <;> first | omega | exact ha | exact hb
theorem o3_call {a b c : Int32} {F G : Nat} (ha : Bl a F) : OK3 13 a b c F G := by
  refine ⟨by decide, ?_, ?_, ?_, ?_, ?_, ?_, ?_, ?_, ?_, ?_⟩ <;> intro q <;> first | omega | exact ha
theorem o3_get {a b c : Int32} {F G : Nat} (ha : Bl a 16) : OK3 14 a b c F G := by
  refine ⟨by decide, ?_, ?_, ?_, ?_, ?_, ?_, ?_, ?_, ?_, ?_⟩ <;> intro q <;> first | omega | exact ha
theorem o3_work {a b c : Int32} {F G : Nat} (ha : Bl a 16) (hb : Bl b 16) (hc : Bl c 16) : OK3 2 a b c F G := by
  refine ⟨by decide, ?_, ?_, ?_, ?_, ?_, ?_, ?_, ?_, ?_, ?_⟩ <;> intro q <;> first | omega | exact ha | exact hb | exact hc
def Op (σ : Sg) (F G j : Nat) : Prop := ∃ k, σ 42 (j * 5) = nI k ∧ OK3 k (σ 42 (j * 5 + 1)) (σ 42 (j * 5 + 2)) (σ 42 (j * 5 + 3)) F G
theorem op_same {σ σ' : Sg} {F G j : Nat} (h : Op σ F G j) (e : ∀ i, i < j * 5 + 5 → j * 5 ≤ i → σ' 42 i = σ 42 i) : Op σ' F G j := by
  obtain ⟨k, h1, h2⟩ := h
  refine ⟨k, (e _ (by omega) (by omega)).trans h1, ?_⟩
  rw [e _ (by omega) (by omega), e _ (by omega) (by omega), e _ (by omega) (by omega)]
  exact h2
/-- FUNC f's ops are written from S on, and t is the total -/
def WT (σ0 σ : Sg) (f F G S t R : Nat) : Prop :=
  σ 43 4 = nI f ∧ σ 43 5 = nI R ∧ σ 43 6 = nI (R + 1) ∧ σ 39 2 = nI t ∧ σ 41 f = nI (t - S) ∧ S ≤ t ∧ (∀ j, S ≤ j → j < t → Op σ F G j) ∧ (∀ i, i < S * 5 → σ 42 i = σ0 42 i) ∧ ∀ c j, c ≠ 42 → c ≠ 44 → ¬ (c = 39 ∧ j = 2) → ¬ (c = 41 ∧ j = f) → σ c j = σ0 c j
theorem add_wt {N n : Nat} {σ0 σ : Sg} {f F G S t R : Nat} (hf : f < 12) (hn2 : n ≤ 100000000) (h : WT σ0 σ f F G S t R) (hn : t * 5 + 5 ≤ n) {k : Nat} {kk a b : Int32} (ek : kk = nI k) (hk : OK3 k a b 0 F G) :
    ∃ σ', f_X1_add N n σ (nI f) kk a b = some (0, σ') ∧ WT σ0 σ' f F G S (t + 1) R ∧ σ' 42 (t * 5) = nI k ∧ ∀ i, i < t * 5 → σ' 42 i = σ 42 i := by
  subst ek
  obtain ⟨h1, h2, h3, h4, h5, h6, h7, h8, h9⟩ := h
  unfold f_X1_add
  rw [h4, ml_nl t 5, ix_nI (k := f) (by omega), h5]
  have e5 : t * OfNat.ofNat 5 = t * 5 := rfl
  rw [e5, ad_nl (t * 5) 1, ad_nl (t * 5) 2, ad_nl (t * 5) 3, ad_nl (t * 5) 4, ad_nl t 1, ad_nl (t - S) 1]
  have o1 : t * 5 + OfNat.ofNat 1 = t * 5 + 1 := rfl
  have o2 : t * 5 + OfNat.ofNat 2 = t * 5 + 2 := rfl
  have o3 : t * 5 + OfNat.ofNat 3 = t * 5 + 3 := rfl
  have o4 : t * 5 + OfNat.ofNat 4 = t * 5 + 4 := rfl
  have o5 : t + OfNat.ofNat 1 = t + 1 := rfl
  have o6 : t - S + OfNat.ofNat 1 = t + 1 - S := by show t - S + 1 = _; omega
  rw [o1, o2, o3, o4, o5, o6, gb_nI (show t * 5 < n by omega) (by omega), gb_nI (show t * 5 + 1 < n by omega) (by omega), gb_nI (show t * 5 + 2 < n by omega) (by omega), gb_nI (show t * 5 + 3 < n by omega) (by omega), gb_nI (show t * 5 + 4 < n by omega) (by omega), gb_nI hf (by decide), gb_nI hf (by decide), ix_nI (k := t * 5) (by omega), ix_nI (k := t * 5 + 1) (by omega), ix_nI (k := t * 5 + 2) (by omega), ix_nI (k := t * 5 + 3) (by omega), ix_nI (k := t * 5 + 4) (by omega)]
  obtain ⟨σ1, e1⟩ : ∃ z, z = sg (sg (sg (sg (sg (sg (sg σ 42 (t * 5) (nI k)) 42 (t * 5 + 1) a) 42 (t * 5 + 2) b) 42 (t * 5 + 3) 0) 42 (t * 5 + 4) 0) 39 2 (nI (t + 1))) 41 f (nI (t + 1 - S)) := ⟨_, rfl⟩
  rw [← e1]
  have o42 : ∀ i, σ1 42 i = if i = t * 5 + 4 then 0 else if i = t * 5 + 3 then 0 else if i = t * 5 + 2 then b else if i = t * 5 + 1 then a else if i = t * 5 then nI k else σ 42 i := fun i => by
    rw [e1, sg_c (by decide), sg_c (by decide), sg_if, sg_if, sg_if, sg_if, sg_if]
  have lo : ∀ i, i < t * 5 → σ1 42 i = σ 42 i := fun i hi => by
    rw [o42, if_neg (by omega), if_neg (by omega), if_neg (by omega), if_neg (by omega), if_neg (by omega)]
  have k0 : σ1 42 (t * 5) = nI k := by rw [o42, if_neg (by omega), if_neg (by omega), if_neg (by omega), if_neg (by omega), if_pos rfl]
  have oc : ∀ c j, c ≠ 42 → ¬ (c = 39 ∧ j = 2) → ¬ (c = 41 ∧ j = f) → σ1 c j = σ c j := fun c j q1 q2 q3 => by
    rw [e1, sg_o (by omega), sg_o (by omega), sg_c q1, sg_c q1, sg_c q1, sg_c q1, sg_c q1]
  refine ⟨σ1, rfl, ⟨(oc 43 4 (by decide) (by decide) (by omega)).trans h1, (oc 43 5 (by decide) (by decide) (by omega)).trans h2, (oc 43 6 (by decide) (by decide) (by omega)).trans h3, ?_, ?_, by omega, fun j q1 q2 => ?_, fun i hi => ?_, fun c j q1 q2 q3 q4 => (oc c j q1 q3 q4).trans (h9 c j q1 q2 q3 q4)⟩, k0, lo⟩
  · rw [e1, sg_c (by decide)]; exact sg_at _ _ _ _
  · rw [e1]; exact sg_at _ _ _ _
  · by_cases e : j = t
    · subst e
      refine ⟨k, k0, ?_⟩
      have a1 : σ1 42 (j * 5 + 1) = a := by rw [o42, if_neg (by omega), if_neg (by omega), if_neg (by omega), if_pos rfl]
      have a2 : σ1 42 (j * 5 + 2) = b := by rw [o42, if_neg (by omega), if_neg (by omega), if_pos rfl]
      have a3 : σ1 42 (j * 5 + 3) = 0 := by rw [o42, if_neg (by omega), if_pos rfl]
      rw [a1, a2, a3]; exact hk
    · exact op_same (h7 j q1 (by omega)) (fun i i1 i2 => lo i (by omega))
  · exact (lo i (by omega)).trans (h8 i hi)
theorem slotOf_eq {N n : Nat} {σ : Sg} {f v : Nat} (hf : f < 12) (hv : v < 22) : f_X2_slotOf N n σ (nI f) (nI v) = some (σ 36 (f * 22 + v), σ) := by
  unfold f_X2_slotOf
  rw [ml_nl f 22, ad_nn]
  have e : f * OfNat.ofNat 22 = f * 22 := rfl
  rw [e, gb_nI (show f * 22 + v < 264 by omega) (by decide), ix_nI (by omega)]
theorem registerOf_eq {N n : Nat} {σ : Sg} {f v : Nat} (hf : f < 12) (hv : v < 22) : f_X2_registerOf N n σ (nI f) (nI v) = some (σ 35 (f * 22 + v), σ) := by
  unfold f_X2_registerOf
  rw [ml_nl f 22, ad_nn]
  have e : f * OfNat.ofNat 22 = f * 22 := rfl
  rw [e, gb_nI (show f * 22 + v < 264 by omega) (by decide), ix_nI (by omega)]
theorem bl_le {x : Int32} {m m' : Nat} (h : Bl x m) (hm : m ≤ m') : Bl x m' := by
  obtain ⟨k, h1, h2⟩ := h
  exact ⟨k, by omega, h2⟩
theorem hm_reg {σ : Sg} {f R v : Nat} (h : HM σ f R v) (hR : R ≤ 14) (e : σ 36 (f * 22 + v) = (-1)) : Bl (σ 35 (f * 22 + v)) 16 := by
  rcases h with ⟨-, a⟩ | ⟨k, a, b⟩
  · exact bl_le a (by omega)
  · exact absurd (b.symm.trans e) (n1_ne (by omega))
theorem hm_slot {σ : Sg} {f R v : Nat} (h : HM σ f R v) (e : ¬ σ 36 (f * 22 + v) = (-1)) : Bl (σ 36 (f * 22 + v)) 22 := by
  rcases h with ⟨a, -⟩ | a
  · exact absurd a e
  · exact a
theorem wt_hm {σ0 σ : Sg} {f F G S t R v : Nat} (h : WT σ0 σ f F G S t R) (k : HM σ0 f R v) : HM σ f R v := by
  have e := h.2.2.2.2.2.2.2.2
  unfold HM
  rw [e 36 _ (by decide) (by decide) (by omega) (by omega), e 35 _ (by decide) (by decide) (by omega) (by omega)]
  exact k
/-- what a method that writes at most m ops gives -/
def Wq (σ0 : Sg) (f F G S t R m : Nat) (Q : Int32 → Prop) (y : Int32 × Sg) : Prop := Q y.1 ∧ ∃ t', t ≤ t' ∧ t' ≤ t + m ∧ WT σ0 y.2 f F G S t' R
theorem wq_0 {σ0 σ : Sg} {f F G S t R m : Nat} {Q : Int32 → Prop} {r : Int32} (h : WT σ0 σ f F G S t R) (q : Q r) : Wq σ0 f F G S t R m Q (r, σ) := ⟨q, t, Nat.le_refl _, by omega, h⟩
theorem wq_1 {σ0 σ : Sg} {f F G S t R m : Nat} {Q : Int32 → Prop} {r : Int32} (hm : 1 ≤ m) (h : WT σ0 σ f F G S (t + 1) R) (q : Q r) : Wq σ0 f F G S t R m Q (r, σ) := ⟨q, t + 1, by omega, by omega, h⟩
theorem wt_a {σ0 σ : Sg} {f F G S t R : Nat} (h : WT σ0 σ f F G S t R) (hR : R ≤ 14) : Bl (σ 43 5) 16 := by rw [h.2.1]; exact bl_n (by omega)
theorem wt_b {σ0 σ : Sg} {f F G S t R : Nat} (h : WT σ0 σ f F G S t R) (hR : R ≤ 14) : Bl (σ 43 6) 16 := by rw [h.2.2.1]; exact bl_n (by omega)
section WTR
variable {N n : Nat} {σ0 σ : Sg} {f F G S t R : Nat} (hf : f < 12) (hn2 : n ≤ 100000000) (hR : R ≤ 14) (h : WT σ0 σ f F G S t R)
theorem loaded_wt {v : Nat} (hf : f < 12) (hn2 : n ≤ 100000000) (hR : R ≤ 14) (h : WT σ0 σ f F G S t R) (hv : v < 22) (hm : HM σ0 f R v) {sp : Int32} (hs : Bl sp 16) (hn : (t + 1) * 5 ≤ n) : Ok (f_X10_loaded N n σ (nI v) sp) (Wq σ0 f F G S t R 1 (fun r => Bl r 16)) := by
  have e4 := h.1
  have hm1 := wt_hm h hm
  unfold f_X10_loaded
  simp only [e4, slotOf_eq hf hv, registerOf_eq hf hv, bd_s]
  refine ok_if (fun c => ok_ret (wq_0 h (hm_reg hm1 hR c))) (fun c => ?_)
  obtain ⟨σ1, f1, w1, -⟩ := add_wt (N := N) hf hn2 h (by omega) (k := 9) (kk := 9) rfl (o3_load hs (hm_slot hm1 c))
  rw [f1, bd_s]
  exact ok_ret (wq_1 (by decide) w1 hs)
theorem target_wt {v : Nat} (hf : f < 12) (hR : R ≤ 14) (h : WT σ0 σ f F G S t R) (hv : v < 22) (hm : HM σ0 f R v) : Ok (f_X10_target N n σ (nI v)) (fun y => y.2 = σ ∧ Bl y.1 16) := by
  have e4 := h.1
  have hm1 := wt_hm h hm
  unfold f_X10_target
  simp only [e4, slotOf_eq hf hv, registerOf_eq hf hv, bd_s]
  exact ok_if (fun c => ok_ret ⟨rfl, hm_reg hm1 hR c⟩) (fun c => ok_ret ⟨rfl, by rw [h.2.1]; exact bl_n (by omega)⟩)
theorem saveTarget_wt {v : Nat} (hf : f < 12) (hn2 : n ≤ 100000000) (hR : R ≤ 14) (h : WT σ0 σ f F G S t R) (hv : v < 22) (hm : HM σ0 f R v) (hn : (t + 1) * 5 ≤ n) : Ok (f_X10_saveTarget N n σ (nI v)) (Wq σ0 f F G S t R 1 (fun _ => True)) := by
  have e4 := h.1
  have hm1 := wt_hm h hm
  unfold f_X10_saveTarget
  simp only [e4, slotOf_eq hf hv, bd_s]
  refine ok_if (fun c => ok_ret (wq_0 h trivial)) (fun c => ?_)
  obtain ⟨σ1, f1, w1, -⟩ := add_wt (N := N) hf hn2 h (by omega) (k := 10) (kk := 10) rfl (o3_save (hm_slot hm1 c) (wt_a h hR))
  rw [f1, bd_s]
  exact ok_ret (wq_1 (by decide) w1 trivial)
theorem moveInto_wt {v : Nat} (hf : f < 12) (hn2 : n ≤ 100000000) (hR : R ≤ 14) (h : WT σ0 σ f F G S t R) (hv : v < 22) (hm : HM σ0 f R v) {x : Int32} (hx : Bl x 16) (hn : (t + 1) * 5 ≤ n) : Ok (f_X10_moveInto N n σ x (nI v)) (Wq σ0 f F G S t R 1 (fun _ => True)) := by
  have e4 := h.1
  have hm1 := wt_hm h hm
  unfold f_X10_moveInto
  simp only [e4, slotOf_eq hf hv, registerOf_eq hf hv, bd_s]
  refine ok_if (fun c => ok_if (fun _ => ok_ret (wq_0 h trivial)) (fun _ => ?_)) (fun c => ?_)
  · obtain ⟨σ1, f1, w1, -⟩ := add_wt (N := N) hf hn2 h (by omega) (k := 1) (kk := 1) rfl (o3_move hx (hm_reg hm1 hR c))
    rw [f1, bd_s]
    exact ok_ret (wq_1 (by decide) w1 trivial)
  · obtain ⟨σ1, f1, w1, -⟩ := add_wt (N := N) hf hn2 h (by omega) (k := 9) (kk := 9) rfl (o3_load hx (hm_slot hm1 c))
    rw [f1, bd_s]
    exact ok_ret (wq_1 (by decide) w1 trivial)
theorem moveFrom_wt {v : Nat} (hf : f < 12) (hn2 : n ≤ 100000000) (hR : R ≤ 14) (h : WT σ0 σ f F G S t R) (hv : v < 22) (hm : HM σ0 f R v) {x : Int32} (hx : Bl x 16) (hn : (t + 1) * 5 ≤ n) : Ok (f_X10_moveFrom N n σ (nI v) x) (Wq σ0 f F G S t R 1 (fun _ => True)) := by
  have e4 := h.1
  have hm1 := wt_hm h hm
  unfold f_X10_moveFrom
  simp only [e4, slotOf_eq hf hv, registerOf_eq hf hv, bd_s]
  refine ok_if (fun c => ?_) (fun c => ?_)
  · obtain ⟨σ1, f1, w1, -⟩ := add_wt (N := N) hf hn2 h (by omega) (k := 1) (kk := 1) rfl (o3_move (hm_reg hm1 hR c) hx)
    rw [f1, bd_s]
    exact ok_ret (wq_1 (by decide) w1 trivial)
  · obtain ⟨σ1, f1, w1, -⟩ := add_wt (N := N) hf hn2 h (by omega) (k := 10) (kk := 10) rfl (o3_save (hm_slot hm1 c) hx)
    rw [f1, bd_s]
    exact ok_ret (wq_1 (by decide) w1 trivial)
theorem writeMove_wt {v w : Nat} (hf : f < 12) (hn2 : n ≤ 100000000) (hR : R ≤ 14) (h : WT σ0 σ f F G S t R) (hv : v < 22) (hm : HM σ0 f R v) (hw : w < 22) (hmw : HM σ0 f R w) (hn : (t + 2) * 5 ≤ n) : Ok (f_X10_writeMove N n σ (nI v) (nI w)) (Wq σ0 f F G S t R 2 (fun _ => True)) := by
  have e4 := h.1
  have hm1 := wt_hm h hm
  have hm2 := wt_hm h hmw
  unfold f_X10_writeMove
  simp only [e4, slotOf_eq hf hv, registerOf_eq hf hv, slotOf_eq hf hw, registerOf_eq hf hw, bd_s]
  refine ok_if (fun c => ?_) (fun c => ok_if (fun c2 => ?_) (fun c2 => ok_if (fun _ => ok_ret (wq_0 h trivial)) (fun _ => ?_)))
  · refine ok_bd (moveInto_wt hf hn2 hR h hw hmw (hm_reg hm1 hR c) (by omega)) (fun r σ1 _ h1 => ok_ret ?_)
    obtain ⟨-, t', t1, t2, t3⟩ := h1
    exact ⟨trivial, t', t1, by omega, t3⟩
  · obtain ⟨σ1, f1, w1, -⟩ := add_wt (N := N) hf hn2 h (by omega) (k := 10) (kk := 10) rfl (o3_save (hm_slot hm1 c) (hm_reg hm2 hR c2))
    rw [f1, bd_s]
    exact ok_ret (wq_1 (by decide) w1 trivial)
  · obtain ⟨σ1, f1, w1, -⟩ := add_wt (N := N) hf hn2 h (by omega) (k := 9) (kk := 9) rfl (o3_load (wt_a h hR) (hm_slot hm2 c2))
    rw [f1, bd_s, w1.1]
    obtain ⟨σ2, f2, w2, -⟩ := add_wt (N := N) hf hn2 w1 (by omega) (k := 10) (kk := 10) rfl (o3_save (hm_slot hm1 c) (wt_a w1 hR))
    rw [f2, bd_s]
    exact ok_ret ⟨trivial, t + 1 + 1, by omega, by omega, w2⟩
theorem swap4_wt {v w : Nat} (hf : f < 12) (hn2 : n ≤ 100000000) (hR : R ≤ 14) (h : WT σ0 σ f F G S t R) (hv : v < 22) (hm : HM σ0 f R v) (hw : w < 22) (hmw : HM σ0 f R w) (hn : (t + 4) * 5 ≤ n) :
    Ok (bd (f_X10_moveInto N n σ (σ 43 5) (nI v)) (fun _ σ6 => bd (f_X10_moveInto N n σ6 (σ6 43 6) (nI w)) (fun _ σ9 => bd (f_X10_moveFrom N n σ9 (nI v) (σ9 43 6)) (fun _ σ12 => bd (f_X10_moveFrom N n σ12 (nI w) (σ12 43 5)) (fun _ σ15 => some ((0 : Int32), σ15)))))) (Wq σ0 f F G S t R 4 (fun _ => True)) := by
  refine ok_bd (moveInto_wt hf hn2 hR h hv hm (wt_a h hR) (by omega)) (fun r1 σ1 _ h1 => ?_)
  obtain ⟨-, t1, a1, b1, w1⟩ := h1
  have w1 : WT σ0 σ1 f F G S t1 R := w1
  refine ok_bd (moveInto_wt hf hn2 hR w1 hw hmw (wt_b w1 hR) (by omega)) (fun r2 σ2 _ h2 => ?_)
  obtain ⟨-, t2, a2, b2, w2⟩ := h2
  have w2 : WT σ0 σ2 f F G S t2 R := w2
  refine ok_bd (moveFrom_wt hf hn2 hR w2 hv hm (wt_b w2 hR) (by omega)) (fun r3 σ3 _ h3 => ?_)
  obtain ⟨-, t3, a3, b3, w3⟩ := h3
  have w3 : WT σ0 σ3 f F G S t3 R := w3
  refine ok_bd (moveFrom_wt hf hn2 hR w3 hw hmw (wt_a w3 hR) (by omega)) (fun r4 σ4 _ h4 => ok_ret ?_)
  obtain ⟨-, t4, a4, b4, w4⟩ := h4
  exact ⟨trivial, t4, by omega, by omega, w4⟩
theorem writeSwap_wt {v w : Nat} (hf : f < 12) (hn2 : n ≤ 100000000) (hR : R ≤ 14) (h : WT σ0 σ f F G S t R) (hv : v < 22) (hm : HM σ0 f R v) (hw : w < 22) (hmw : HM σ0 f R w) (hn : (t + 4) * 5 ≤ n) : Ok (f_X10_writeSwap N n σ (nI v) (nI w)) (Wq σ0 f F G S t R 4 (fun _ => True)) := by
  have e4 := h.1
  have hm1 := wt_hm h hm
  have hm2 := wt_hm h hmw
  have s4 := swap4_wt (N := N) hf hn2 hR h hv hm hw hmw hn
  unfold f_X10_writeSwap
  simp only [e4, slotOf_eq hf hv, registerOf_eq hf hv, slotOf_eq hf hw, registerOf_eq hf hw, bd_s]
  refine ok_if (fun c => ok_if (fun c2 => ?_) (fun _ => s4)) (fun _ => s4)
  obtain ⟨σ1, f1, w1, -⟩ := add_wt (N := N) hf hn2 h (by omega) (k := 3) (kk := 3) rfl (o3_swap (hm_reg hm1 hR c) (hm_reg hm2 hR c2))
  rw [f1, bd_s]
  exact ok_ret (wq_1 (by decide) w1 trivial)
theorem writeRead_wt {v w : Nat} (hf : f < 12) (hn2 : n ≤ 100000000) (hR : R ≤ 14) (h : WT σ0 σ f F G S t R) (hv : v < 22) (hm : HM σ0 f R v) (hw : w < 22) (hmw : HM σ0 f R w) (hn : (t + 3) * 5 ≤ n) : Ok (f_X10_writeRead N n σ (nI v) (nI w)) (Wq σ0 f F G S t R 3 (fun _ => True)) := by
  unfold f_X10_writeRead
  refine ok_bd (loaded_wt hf hn2 hR h hw hmw (wt_a h hR) (by omega)) (fun r1 σ1 _ h1 => ?_)
  obtain ⟨q1, t1, a1, b1, w1⟩ := h1
  have w1 : WT σ0 σ1 f F G S t1 R := w1
  refine ok_bd (target_wt hf hR w1 hv hm) (fun r2 σ2 _ h2 => ?_)
  obtain ⟨hs, q2⟩ := h2
  have hs : σ2 = σ1 := hs
  subst hs
  rw [w1.1]
  obtain ⟨σ3, f3, w3, -⟩ := add_wt (N := N) hf hn2 w1 (by omega) (k := 7) (kk := 7) rfl (o3_read q2 q1)
  rw [f3, bd_s]
  refine ok_bd (saveTarget_wt hf hn2 hR w3 hv hm (by omega)) (fun r4 σ4 _ h4 => ok_ret ?_)
  obtain ⟨-, t4, a4, b4, w4⟩ := h4
  exact ⟨trivial, t4, by omega, by omega, w4⟩
theorem writeWrite_wt {v w : Nat} (hf : f < 12) (hn2 : n ≤ 100000000) (hR : R ≤ 14) (h : WT σ0 σ f F G S t R) (hv : v < 22) (hm : HM σ0 f R v) (hw : w < 22) (hmw : HM σ0 f R w) (hn : (t + 3) * 5 ≤ n) : Ok (f_X10_writeWrite N n σ (nI v) (nI w)) (Wq σ0 f F G S t R 3 (fun _ => True)) := by
  unfold f_X10_writeWrite
  refine ok_bd (loaded_wt hf hn2 hR h hv hm (wt_a h hR) (by omega)) (fun r1 σ1 _ h1 => ?_)
  obtain ⟨q1, t1, a1, b1, w1⟩ := h1
  have w1 : WT σ0 σ1 f F G S t1 R := w1
  refine ok_bd (loaded_wt hf hn2 hR w1 hw hmw (wt_b w1 hR) (by omega)) (fun r2 σ2 _ h2 => ?_)
  obtain ⟨q2, t2, a2, b2, w2⟩ := h2
  have w2 : WT σ0 σ2 f F G S t2 R := w2
  rw [w2.1]
  obtain ⟨σ3, f3, w3, -⟩ := add_wt (N := N) hf hn2 w2 (by omega) (k := 8) (kk := 8) rfl (o3_write q1 q2)
  rw [f3, bd_s]
  exact ok_ret ⟨trivial, t2 + 1, by omega, by omega, w3⟩
theorem addWork_wt {a b c : Int32} (hf : f < 12) (hn2 : n ≤ 100000000) (h : WT σ0 σ f F G S t R) (ha : Bl a 16) (hb : Bl b 16) (hc : Bl c 16) (o : Int32) (hn : (t + 1) * 5 ≤ n) : Ok (f_X1_addWork N n σ (nI f) a b c o) (fun y => WT σ0 y.2 f F G S (t + 1) R) := by
  unfold f_X1_addWork
  obtain ⟨σ1, f1, w1, k1, -⟩ := add_wt (N := N) hf hn2 h (by omega) (k := 2) (kk := 2) (a := a) (b := b) rfl (o3_work ha hb (bl_n (k := 0) (by decide)))
  rw [f1, bd_s]
  have hS := h.2.2.2.2.2.1
  obtain ⟨h1, h2, h3, h4, h5, h6, h7, h8, h9⟩ := w1
  have et : σ1 39 2 - 1 = nI t := by
    rw [h4, sb_nl (k := 1) (show 1 ≤ t + 1 by omega)]
    exact congrArg nI (show t + 1 - 1 = t by omega)
  rw [et, ml_nl t 5]
  have e5 : t * OfNat.ofNat 5 = t * 5 := rfl
  rw [e5, ad_nl (t * 5) 3, ad_nl (t * 5) 4]
  have o3 : t * 5 + OfNat.ofNat 3 = t * 5 + 3 := rfl
  have o4 : t * 5 + OfNat.ofNat 4 = t * 5 + 4 := rfl
  rw [o3, o4, gb_nI (show t * 5 + 3 < n by omega) (by omega), gb_nI (show t * 5 + 4 < n by omega) (by omega), ix_nI (k := t * 5 + 3) (by omega), ix_nI (k := t * 5 + 4) (by omega)]
  have o42 : ∀ i, (sg (sg σ1 42 (t * 5 + 3) c) 42 (t * 5 + 4) o) 42 i = if i = t * 5 + 4 then o else if i = t * 5 + 3 then c else σ1 42 i := fun i => by rw [sg_if, sg_if]
  have oc : ∀ d j, d ≠ 42 → (sg (sg σ1 42 (t * 5 + 3) c) 42 (t * 5 + 4) o) d j = σ1 d j := fun d j q => by rw [sg_c q, sg_c q]
  refine ok_ret ⟨(oc 43 4 (by decide)).trans h1, (oc 43 5 (by decide)).trans h2, (oc 43 6 (by decide)).trans h3, (oc 39 2 (by decide)).trans h4, (oc 41 f (by decide)).trans h5, h6, fun j q1 q2 => ?_, fun i hi => ?_, fun d j q1 q2 q3 q4 => (oc d j q1).trans (h9 d j q1 q2 q3 q4)⟩
  · show Op (sg (sg σ1 42 (t * 5 + 3) c) 42 (t * 5 + 4) o) F G j
    by_cases e : j = t
    · subst e
      obtain ⟨k, z1, z2⟩ := h7 j q1 q2
      have ek : k = 2 := (nI_eq (by have := z2.1; omega) (by decide)).mp (z1.symm.trans k1)
      subst ek
      refine ⟨2, ?_, ?_⟩
      · rw [o42, if_neg (by omega), if_neg (by omega)]; exact z1
      · rw [o42, o42, o42, if_neg (by omega), if_neg (by omega), if_neg (by omega), if_neg (by omega), if_neg (by omega), if_pos rfl]
        exact o3_work (z2.2.1 (by decide)) (z2.2.2.2.2.2.2.1 (by decide)) hc
    · exact op_same (h7 j q1 q2) (fun i i1 i2 => by rw [o42, if_neg (by omega), if_neg (by omega)])
  · show (sg (sg σ1 42 (t * 5 + 3) c) 42 (t * 5 + 4) o) 42 i = _
    rw [o42, if_neg (by omega), if_neg (by omega)]; exact h8 i hi
end WTR
