/-! Places: what is added, and what holds of each place -/
theorem nt_hi {T : List Nat} {Fs : List (Nat × Nat)} {m c j : Nat} (h1 : ∀ d ∈ T, m < d) (h2 : ∀ p ∈ Fs, m < p.1) (hc : c ≤ m) : nt T Fs c j = true := by
  unfold nt
  rw [Bool.and_eq_true]
  refine ⟨List.all_eq_true.mpr fun d hd => ?_, List.all_eq_true.mpr fun p hp => ?_⟩
  · have := h1 d hd
    cases hb : Nat.beq c d with
    | false => rfl
    | true => have := Nat.eq_of_beq_eq_true hb; omega
  · have := h2 p hp
    cases hb : Nat.beq c p.1 with
    | false => rfl
    | true => have := Nat.eq_of_beq_eq_true hb; omega
theorem sg_o {σ : Sg} {c d i j : Nat} {v : Int32} (h : c ≠ d ∨ j ≠ i) : sg σ d i v c j = σ c j := by
  by_cases e : c = d
  · subst e
    exact sg_ne (h.resolve_left (fun q => q rfl))
  · exact sg_c e
/-- a natural number below m -/
def Bl (x : Int32) (m : Nat) : Prop := ∃ k, k < m ∧ x = nI k
theorem bl_gb {β : Type} {x : Int32} {m : Nat} {y : Option β} (h : Bl x m) (hm : m < 2147483648) : gb x m y = y := by
  obtain ⟨k, hk, rfl⟩ := h
  exact gb_nI hk hm
theorem bl_n {k m : Nat} (h : k < m) : Bl (nI k) m := ⟨k, h, rfl⟩
/-- σ' is σ with the place T added: kind, written, number, goal, how many it reads -/
def Ad (σ σ' : Sg) (T : Nat) (k w m g : Int32) (c : Nat) : Prop :=
  σ' 13 6 = nI (T + 1) ∧ σ' 14 T = k ∧ σ' 17 T = w ∧ σ' 15 T = m ∧ σ' 16 T = g ∧ σ' 18 T = nI c ∧ (∀ i, i < c → Bl (σ' 19 (T * 6 + i)) 22) ∧ (∀ d j, d ≠ 13 → d ≠ 19 → j ≠ T → σ' d j = σ d j) ∧ ∀ p i, p ≠ T → i < 6 → σ' 19 (p * 6 + i) = σ 19 (p * 6 + i)
theorem add_ad {N n : Nat} {σ : Sg} {T : Nat} (h : σ 13 6 = nI T) (ht : T < 300) (k v x : Int32) : ∃ σ', f_X5_add N n σ k v x = some (0, σ') ∧ Ad σ σ' T k v x 0 0 := by
  refine ⟨_, add_eq h ht k v x, sg_at _ _ _ _, ?_, ?_, ?_, ?_, ?_, fun i hi => absurd hi (Nat.not_lt_zero _), fun d j q1 q2 q3 => ?_, fun p i q1 q2 => ?_⟩
  · simp (disch := decide) only [sg_at, sg_c]
  · simp (disch := decide) only [sg_at, sg_c]
  · simp (disch := decide) only [sg_at, sg_c]
  · simp (disch := decide) only [sg_at, sg_c]
  · simp (disch := decide) only [sg_at, sg_c]
    rfl
  · rw [sg_c q1, sg_o (Or.inr q3), sg_o (Or.inr q3), sg_o (Or.inr q3), sg_o (Or.inr q3), sg_o (Or.inr q3)]
  · simp (disch := decide) only [sg_c]
theorem addRead_ad {N n : Nat} {σ σ1 : Sg} {T : Nat} {k w m g : Int32} {c : Nat} (h : Ad σ σ1 T k w m g c) (ht : T < 300) (hc : c < 6) {v : Int32} (hv : Bl v 22) : ∃ σ', f_X5_addRead N n σ1 v = some (0, σ') ∧ Ad σ σ' T k w m g (c + 1) := by
  obtain ⟨h1, h2, h3, h4, h5, h6, h7, h8, h9⟩ := h
  refine ⟨_, addRead_eq h1 ht h6 hc v, ?_, ?_, ?_, ?_, ?_, sg_at _ _ _ _, fun i hi => ?_, fun d j q1 q2 q3 => ?_, fun p i q1 q2 => ?_⟩
  · simp (disch := decide) only [sg_c]; exact h1
  · simp (disch := decide) only [sg_c]; exact h2
  · simp (disch := decide) only [sg_c]; exact h3
  · simp (disch := decide) only [sg_c]; exact h4
  · simp (disch := decide) only [sg_c]; exact h5
  · rw [sg_c (by decide)]
    by_cases e : i = c
    · rw [e, sg_at]; exact hv
    · rw [sg_ne (by omega)]; exact h7 i (by omega)
  · rw [sg_o (Or.inr q3), sg_c q2]; exact h8 d j q1 q2 q3
  · rw [sg_c (by decide), sg_ne (by omega)]; exact h9 p i q1 q2
theorem addReading_ad {N n : Nat} {σ : Sg} {T : Nat} (h : σ 13 6 = nI T) (ht : T < 300) (k v : Int32) {x : Int32} (hx : Bl x 22) : ∃ σ', f_X5_addReading N n σ k v x = some (0, σ') ∧ Ad σ σ' T k v 0 0 1 := by
  unfold f_X5_addReading
  obtain ⟨σ1, e1, a1⟩ := add_ad (N := N) (n := n) h ht k v 0
  obtain ⟨σ2, e2, a2⟩ := addRead_ad (N := N) (n := n) a1 ht (by omega) hx
  rw [e1, bd_s, e2, bd_s]
  exact ⟨σ2, rfl, a2⟩
theorem goal_ad {σ σ1 : Sg} {T : Nat} {k w m g : Int32} {c : Nat} (h : Ad σ σ1 T k w m g c) (ht : T < 300) (x : Int32) : ∃ σ', gb ((σ1 13 6) - 1) 300 (some ((0 : Int32), sg σ1 16 (ix ((σ1 13 6) - 1)) x)) = some (0, σ') ∧ Ad σ σ' T k w m x c := by
  obtain ⟨h1, h2, h3, h4, h5, h6, h7, h8, h9⟩ := h
  have e : σ1 13 6 - 1 = nI T := by
    rw [h1, sb_nl (k := 1) (show 1 ≤ T + 1 by omega)]
    exact congrArg nI (show T + 1 - 1 = T by omega)
  rw [e, ix_nI (k := T) (by omega), gb_nI ht (by decide)]
  refine ⟨_, rfl, ?_, ?_, ?_, ?_, sg_at _ _ _ _, ?_, fun i hi => ?_, fun d j q1 q2 q3 => ?_, fun p i q1 q2 => ?_⟩
  · rw [sg_c (by decide)]; exact h1
  · rw [sg_c (by decide)]; exact h2
  · rw [sg_c (by decide)]; exact h3
  · rw [sg_c (by decide)]; exact h4
  · rw [sg_c (by decide)]; exact h6
  · rw [sg_c (by decide)]; exact h7 i hi
  · rw [sg_o (Or.inr q3)]; exact h8 d j q1 q2 q3
  · rw [sg_c (by decide)]; exact h9 p i q1 q2
theorem addCall_loop {N n : Nat} {σ : Sg} {T tp na : Nat} {kk w m g : Int32} (ht : T < 300) (hna : na ≤ 6) (hle : na ≤ tp) (htp : tp ≤ 22) :
    ∀ (k v : Nat) (σ1 : Sg), v ≤ na → na < v + k → Ad σ σ1 T kk w m g v → ∃ σ', lf_X5_addCall_13 N n (nI tp) (nI na) (fun σ8 _ => some (0, σ8)) k σ1 (nI v) = some (0, σ') ∧ Ad σ σ' T kk w m g na := by
  intro k
  induction k with
  | zero => intro v σ1 h1 h2; omega
  | succ k ih =>
    intro v σ1 h1 h2 hA
    show ∃ σ', lb_X5_addCall_13 N n (nI tp) (nI na) _ (lf_X5_addCall_13 N n (nI tp) (nI na) _ k) σ1 (nI v) = some (0, σ') ∧ _
    unfold lb_X5_addCall_13
    by_cases c : nI na ≤ nI v
    · rw [if_pos c]
      rw [le_nn (by omega) (by omega)] at c
      obtain rfl : v = na := by omega
      exact ⟨σ1, rfl, hA⟩
    · rw [if_neg c]
      rw [le_nn (by omega) (by omega)] at c
      rw [sb_nn hle, ad_nn, ad_nl v 1]
      obtain ⟨σ2, e2, a2⟩ := addRead_ad (N := N) (n := n) hA ht (by omega) (v := nI (tp - na + v)) (bl_n (by omega))
      rw [e2, bd_s]
      exact ih (v + 1) σ2 (by omega) (by omega) a2
theorem addCall_ad {N n : Nat} (hN : 1000 ≤ N) {σ : Sg} {T tp na : Nat} (h : σ 13 6 = nI T) (ht : T < 300) (hna : na ≤ 6) (hle : na ≤ tp) (htp : tp ≤ 22) (x : Int32) : ∃ σ', f_X5_addCall N n σ x (nI tp) (nI na) = some (0, σ') ∧ Ad σ σ' T 13 (nI (tp - na)) x 0 na := by
  unfold f_X5_addCall
  rw [sb_nn hle]
  obtain ⟨σ1, e1, a1⟩ := add_ad (N := N) (n := n) h ht 13 (nI (tp - na)) x
  rw [e1, bd_s]
  exact addCall_loop ht hna hle htp N 0 σ1 (by omega) (by omega) a1
/-- what a place's parts are, by its kind; Gp: where it may go -/
def PK (k c : Nat) (w m g : Int32) (F : Nat) (Gp : Nat → Prop) : Prop :=
  (((k = 0 ∨ k = 1 ∨ k = 2 ∨ k = 7 ∨ k = 13) ∧ Bl w 22) ∨ ((k = 3 ∨ k = 4 ∨ k = 5 ∨ k = 6 ∨ k = 8) ∧ w = (-1))) ∧ c ≤ 6 ∧
  (k = 1 ∨ k = 5 ∨ k = 6 ∨ k = 7 → 1 ≤ c) ∧ (k = 2 ∨ k = 3 ∨ k = 8 → 2 ≤ c) ∧ (k = 4 ∨ k = 5 → ∃ v, Gp v ∧ g = nI v) ∧ (k = 13 → Bl m F)
def Pp (σ : Sg) (F : Nat) (Gp : Nat → Prop) (p : Nat) : Prop :=
  ∃ k c, σ 14 p = nI k ∧ σ 18 p = nI c ∧ (∀ i, i < c → Bl (σ 19 (p * 6 + i)) 22) ∧ PK k c (σ 17 p) (σ 15 p) (σ 16 p) F Gp
theorem pk_k {k c : Nat} {w m g : Int32} {F : Nat} {Gp : Nat → Prop} (h : PK k c w m g F Gp) : k ≤ 13 := by
  rcases h.1 with ⟨a, -⟩ | ⟨a, -⟩ <;> omega
theorem pk_G {k c : Nat} {w m g : Int32} {F : Nat} {Gp Gq : Nat → Prop} (h : PK k c w m g F Gp) (hG : ∀ v, Gp v → Gq v) : PK k c w m g F Gq := by
  obtain ⟨h1, h2, h3, h4, h5, h6⟩ := h
  refine ⟨h1, h2, h3, h4, fun q => ?_, h6⟩
  obtain ⟨v, a, b⟩ := h5 q
  exact ⟨v, hG v a, b⟩
theorem pp_G {σ : Sg} {F : Nat} {Gp Gq : Nat → Prop} {p : Nat} (h : Pp σ F Gp p) (hG : ∀ v, Gp v → Gq v) : Pp σ F Gq p := by
  obtain ⟨k, c, h1, h2, h3, h4⟩ := h
  exact ⟨k, c, h1, h2, h3, pk_G h4 hG⟩
/-- the same place in another state -/
theorem pp_same {σ σ' : Sg} {F : Nat} {Gp : Nat → Prop} {p p' : Nat} (h : Pp σ F Gp p) (e14 : σ' 14 p' = σ 14 p) (e15 : σ' 15 p' = σ 15 p) (e16 : σ' 16 p' = σ 16 p) (e17 : σ' 17 p' = σ 17 p) (e18 : σ' 18 p' = σ 18 p) (e19 : ∀ i, i < 6 → σ' 19 (p' * 6 + i) = σ 19 (p * 6 + i)) : Pp σ' F Gp p' := by
  obtain ⟨k, c, h1, h2, h3, h4⟩ := h
  refine ⟨k, c, e14.trans h1, e18.trans h2, fun i hi => ?_, ?_⟩
  · rw [e19 i (by have := h4.2.1; omega)]; exact h3 i hi
  · rw [e15, e16, e17]; exact h4
theorem ad_pp {σ σ' : Sg} {T k c : Nat} {w m g : Int32} {F : Nat} {Gp : Nat → Prop} (h : Ad σ σ' T (nI k) w m g c) (hk : PK k c w m g F Gp) : Pp σ' F Gp T := by
  obtain ⟨h1, h2, h3, h4, h5, h6, h7, h8, h9⟩ := h
  exact ⟨k, c, h2, h6, h7, by rw [h3, h4, h5]; exact hk⟩
theorem ad_old {σ σ' : Sg} {T c : Nat} {k w m g : Int32} {F : Nat} {Gp : Nat → Prop} (h : Ad σ σ' T k w m g c) {p : Nat} (hp : p ≠ T) (hk : Pp σ F Gp p) : Pp σ' F Gp p := by
  obtain ⟨h1, h2, h3, h4, h5, h6, h7, h8, h9⟩ := h
  exact pp_same hk (h8 _ _ (by decide) (by decide) hp) (h8 _ _ (by decide) (by decide) hp) (h8 _ _ (by decide) (by decide) hp) (h8 _ _ (by decide) (by decide) hp) (h8 _ _ (by decide) (by decide) hp) (fun i hi => h9 p i hp hi)
