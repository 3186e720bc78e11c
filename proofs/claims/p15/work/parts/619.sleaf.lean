/-! the class's stack machine: its leaves. σ 45 12: the top; σ 45 3: the end; σ 45 7: how many calls are within one another -/
theorem push_ok {N n : Nat} {σ : Sg} {tp : Nat} (h : σ 45 12 = nI tp) (ht : tp < 360) (x : Int32) : Ok (f_X8_push N n σ x) (fun y => y.2 45 12 = nI (tp + 1)) := by
  unfold f_X8_push
  rw [h, gb_nI ht (by decide), ad_nl tp 1]
  exact ok_ret (show sg (sg σ 50 (ix (nI tp)) x) 45 12 (nI (tp + 1)) 45 12 = nI (tp + 1) from sg_at _ _ _ _)
theorem pop_ok {N n : Nat} {σ : Sg} {tp : Nat} (h : σ 45 12 = nI tp) (h0 : 0 < tp) (ht : tp ≤ 360) : Ok (f_X8_pop N n σ) (fun y => y.2 45 12 = nI (tp - 1)) := by
  unfold f_X8_pop
  rw [h, sb_nl (k := 1) (show 1 ≤ tp from h0), gb_nI (show tp - 1 < 360 by omega) (by decide)]
  exact ok_ret (show sg σ 45 12 (nI (tp - 1)) 45 12 = nI (tp - 1) from sg_at _ _ _ _)
theorem flip_ok {N n : Nat} {σ : Sg} {tp : Nat} (h : σ 45 12 = nI tp) (h0 : 1 < tp) (ht : tp ≤ 360) : Ok (f_X8_flip N n σ) (fun y => y.2 45 12 = nI tp) := by
  unfold f_X8_flip
  refine ok_bd (pop_ok h (by omega) ht) (fun r1 σ1 _ h1 => ok_bd (pop_ok (tp := tp - 1) h1 (by omega) (by omega)) (fun r2 σ2 _ h2 => ok_bd (push_ok (tp := tp - 1 - 1) h2 (by omega) _) (fun r3 σ3 _ h3 => ok_bd (push_ok (tp := tp - 1 - 1 + 1) h3 (by omega) _) (fun r4 σ4 _ h4 => ok_ret ?_))))
  have h4 : σ4 45 12 = nI (tp - 1 - 1 + 1 + 1) := h4
  rw [show tp - 1 - 1 + 1 + 1 = tp by omega] at h4
  exact h4
theorem room_eq {N n : Nat} {σ : Sg} {h : Nat} (e : σ 45 7 = nI h) (h0 : 0 < h) : f_X4_room_X8 N n σ = some (nI (h - 1), σ) := by
  unfold f_X4_room_X8
  rw [e, sb_nl (k := 1) (show 1 ≤ h from h0)]
theorem jump_ok {N n : Nat} {σ : Sg} {h : Nat} (e : σ 45 7 = nI h) (h0 : 0 < h) (h30 : h ≤ 30) (x : Int32) : f_X4_jump_X8 N n σ x = some (0, sg σ 48 (h - 1) x) := by
  unfold f_X4_jump_X8
  rw [room_eq e h0, bd_s, gb_nI (show h - 1 < 30 by omega) (by decide), ix_nI (by omega)]
theorem finish_eq {N n : Nat} {σ : Sg} (x : Int32) : f_X4_finish_X8 N n σ x = some (0, sg (sg σ 45 3 x) 45 7 0) := rfl
theorem fin_end (σ : Sg) (x : Int32) : (sg (sg σ 45 3 x) 45 7 0) 45 3 = x := by
  rw [sg_ne (by decide)]
  exact sg_at _ _ _ _
/-- a cell there is, or the run has ended -/
theorem hasCell_ok {N n : Nat} {σ : Sg} (x : Int32) : (∃ k, k < 64 ∧ x = nI k ∧ f_X4_hasCell_X8 N n σ x = some (1, σ)) ∨ f_X4_hasCell_X8 N n σ x = some (0, sg (sg σ 45 3 3) 45 7 0) := by
  unfold f_X4_hasCell_X8
  rcases cs_n x with q | ⟨k, hk, rfl⟩
  · exact Or.inr (by rw [if_pos q, finish_eq, bd_s])
  · rw [if_neg (nI_pos hk)]
    have f64 : ((64 : Int32) ≤ nI k) = (64 ≤ k) := le_ln (k := 64) (by omega) (by decide)
    by_cases c : k < 64
    · exact Or.inl ⟨k, c, rfl, by rw [if_neg (show ¬ (64 : Int32) ≤ nI k by rw [f64]; omega)]⟩
    · exact Or.inr (by rw [if_pos (show (64 : Int32) ≤ nI k by rw [f64]; omega), finish_eq, bd_s])
theorem canReckon_ok {N n : Nat} {σ : Sg} (o x : Int32) : f_X4_canReckon_X8 N n σ o x = some (1, σ) ∨ f_X4_canReckon_X8 N n σ o x = some (0, sg (sg σ 45 3 2) 45 7 0) := by
  unfold f_X4_canReckon_X8
  by_cases c : o = 6
  · rw [if_pos c]
    by_cases c2 : x = 0
    · exact Or.inr (by rw [if_pos c2, finish_eq, bd_s])
    · exact Or.inl (by rw [if_neg c2])
  · exact Or.inl (by rw [if_neg c])
theorem reckon_ok {N n : Nat} {σ : Sg} (o x y : Int32) : Ok (f_X11_reckon N n σ o x y) (fun z => z.2 = σ) := by
  unfold f_X11_reckon
  exact ok_if (fun _ => ok_ret rfl) (fun _ => ok_if (fun _ => ok_ret rfl) (fun _ => ok_if (fun _ => ok_ret rfl) (fun _ => ok_if (fun _ => ok_if (fun _ => ok_ret rfl) (fun c => ok_gdz c (ok_ret rfl))) (fun _ => ok_if (fun _ => ok_if (fun _ => ok_ret rfl) (fun _ => ok_ret rfl)) (fun _ => ok_if (fun _ => ok_ret rfl) (fun _ => ok_ret rfl))))))
/-- the run has ended, or the top is at tp and it goes on -/
def Ed (σ : Sg) (tp : Nat) (σ' : Sg) : Prop := (¬ σ' 45 3 = 0) ∨ (σ' 45 12 = nI tp ∧ σ' 45 3 = σ 45 3 ∧ σ' 45 7 = σ 45 7)
theorem fetch_ok {N n : Nat} {σ : Sg} {tp : Nat} (h : σ 45 12 = nI tp) (ht : tp < 360) (x : Int32) : Ok (f_X8_fetch N n σ x) (fun y => Ed σ (tp + 1) y.2) := by
  unfold f_X8_fetch
  rcases hasCell_ok (N := N) (n := n) (σ := σ) x with ⟨k, hk, rfl, e⟩ | e
  · rw [e, bd_s, if_neg (by decide), gb_nI hk (by decide)]
    refine ok_bd (push_ok h ht _) (fun r σ1 e1 h1 => ok_ret (Or.inr ⟨h1, fr_X8_push rfl e1, fr_X8_push rfl e1⟩))
  · rw [e, bd_s, if_pos rfl]
    exact ok_ret (Or.inl (by
      show ¬ (sg (sg σ 45 3 3) 45 7 0) 45 3 = 0
      rw [fin_end]; decide))
theorem store_ok {N n : Nat} {σ : Sg} {tp : Nat} (h : σ 45 12 = nI tp) (x v : Int32) : Ok (f_X8_store N n σ x v) (fun y => Ed σ tp y.2) := by
  unfold f_X8_store
  rcases hasCell_ok (N := N) (n := n) (σ := σ) x with ⟨k, hk, rfl, e⟩ | e
  · rw [e, bd_s, if_neg (by decide), gb_nI hk (by decide)]
    exact ok_ret (Or.inr ⟨show sg σ 46 (ix (nI k)) v 45 12 = nI tp from (sg_c (by decide)).trans h, show sg σ 46 (ix (nI k)) v 45 3 = _ from sg_c (by decide), show sg σ 46 (ix (nI k)) v 45 7 = _ from sg_c (by decide)⟩)
  · rw [e, bd_s, if_pos rfl]
    exact ok_ret (Or.inl (by
      show ¬ (sg (sg σ 45 3 3) 45 7 0) 45 3 = 0
      rw [fin_end]; decide))
theorem work_ok {N n : Nat} {σ : Sg} {tp : Nat} (h : σ 45 12 = nI tp) (ht : tp < 360) (o s t : Int32) : Ok (f_X8_work N n σ o s t) (fun y => Ed σ (tp + 1) y.2) := by
  unfold f_X8_work
  rcases canReckon_ok (N := N) (n := n) (σ := σ) o s with e | e
  · rw [e, bd_s, if_neg (by decide)]
    refine ok_bd (reckon_ok o t s) (fun r σ1 _ h1 => ?_)
    have h1 : σ1 = σ := h1
    subst h1
    exact ok_bd (push_ok h ht _) (fun r σ2 e1 h2 => ok_ret (Or.inr ⟨h2, fr_X8_push rfl e1, fr_X8_push rfl e1⟩))
  · rw [e, bd_s, if_pos rfl]
    exact ok_ret (Or.inl (by
      show ¬ (sg (sg σ 45 3 2) 45 7 0) 45 3 = 0
      rw [fin_end]; decide))
theorem open_loop {N n : Nat} {u2 : Int32} {rm na tp : Nat} {K : Sg → Int32 → Option (Int32 × Sg)} {P : Int32 × Sg → Prop} (hr : rm < 30) (hn : na ≤ 6) (ht : tp + na ≤ 360) {σ0 : Sg} (hK : ∀ (σ : Sg) (x : Int32), (∀ c j, c ≠ 49 → σ c j = σ0 c j) → Ok (K σ x) P) (h0 : σ0 45 12 = nI tp) :
    ∀ (k v : Nat) (σ : Sg), v ≤ 10 → 10 < v + k → (∀ c j, c ≠ 49 → σ c j = σ0 c j) → Ok (lf_X8_openRoom_38 N n u2 (nI (rm * 10)) (nI na) K k σ (nI v)) P := by
  intro k
  induction k with
  | zero => intro v σ h1 h2; omega
  | succ k ih =>
    intro v σ h1 h2 hs
    show Ok (lb_X8_openRoom_38 N n u2 (nI (rm * 10)) (nI na) K (lf_X8_openRoom_38 N n u2 (nI (rm * 10)) (nI na) K k) σ (nI v)) P
    unfold lb_X8_openRoom_38
    have e10 : ((10 : Int32) ≤ nI v) = (10 ≤ v) := le_ln (k := 10) (by omega) (by decide)
    have nxt : ∀ x, ∀ c j, c ≠ 49 → sg σ 49 (rm * 10 + v) x c j = σ0 c j := fun x c j q => (sg_c q).trans (hs c j q)
    refine ok_if (fun c => hK σ _ hs) (fun c => ?_)
    rw [e10] at c
    rw [(hs 45 12 (by decide)).trans h0, ad_nn, ad_nn, ix_nI (k := rm * 10 + v) (by omega), ad_nl v 1, gb_nI (k := rm * 10 + v) (by omega) (by omega)]
    refine ok_if (fun c2 => ih (v + 1) _ (by omega) (by omega) (nxt _)) (fun c2 => ?_)
    rw [le_nn (by omega) (by omega)] at c2
    rw [gb_nI (k := tp + v) (by omega) (by omega), gb_nI (k := rm * 10 + v) (by omega) (by omega)]
    exact ih (v + 1) _ (by omega) (by omega) (nxt _)
theorem openRoom_ok {N n : Nat} (hN : 1000 ≤ N) {σ : Sg} {F Wd : Nat} {ar lo st le : Nat → Nat} (hp : PI σ F Wd ar lo st le) {f rm tp : Nat} (hf : f < F) (hr : rm < 30) (ht : tp ≤ 360) (h : σ 45 12 = nI tp) (ha : rm = 0 ∨ ar f ≤ tp) :
    Ok (f_X8_openRoom N n σ (nI f) (nI rm)) (fun y => y.2 45 12 = nI (if rm = 0 then tp else tp - ar f) ∧ y.2 51 rm = nI (if rm = 0 then tp else tp - ar f) ∧ (∀ c j, c ≠ 49 → c ≠ 51 → ¬ (c = 45 ∧ j = 12) → y.2 c j = σ c j) ∧ ∀ j, j ≠ rm → y.2 51 j = σ 51 j) := by
  obtain ⟨g1, g2, g3, g4, g5, g6, g7, g8, g9, g10, g11⟩ := hp
  have q9 := g9 f hf
  have fin : ∀ (t : Nat) (σ1 : Sg), (∀ c j, c ≠ 49 → σ1 c j = (sg σ 45 12 (nI t)) c j) → Ok (gb (nI rm) 30 (some ((0 : Int32), sg σ1 51 (ix (nI rm)) (σ1 45 12)))) (fun y => y.2 45 12 = nI t ∧ y.2 51 rm = nI t ∧ (∀ c j, c ≠ 49 → c ≠ 51 → ¬ (c = 45 ∧ j = 12) → y.2 c j = σ c j) ∧ ∀ j, j ≠ rm → y.2 51 j = σ 51 j) := by
    intro t σ1 hs
    have e1 : σ1 45 12 = nI t := (hs 45 12 (by decide)).trans (sg_at _ _ _ _)
    rw [gb_nI hr (by decide), ix_nI (by omega), e1]
    refine ok_ret ⟨?_, ?_, fun c j q1 q2 q3 => ?_, fun j q => ?_⟩
    · show sg σ1 51 rm (nI t) 45 12 = nI t
      rw [sg_c (by decide)]; exact e1
    · show sg σ1 51 rm (nI t) 51 rm = nI t
      exact sg_at _ _ _ _
    · show sg σ1 51 rm (nI t) c j = σ c j
      rw [sg_c q2, hs c j q1]
      by_cases e : c = 45
      · subst e; exact sg_ne (fun z => q3 ⟨rfl, z⟩)
      · exact sg_c e
    · show sg σ1 51 rm (nI t) 51 j = σ 51 j
      rw [sg_ne q, hs 51 j (by decide)]
      exact sg_c (by decide)
  unfold f_X8_openRoom
  rw [h, ix_nI (k := f) (by omega), g5 f hf, ml_nl rm 10]
  refine ok_if (fun c => ?_) (fun c => ?_)
  · have c : rm = 0 := (nI_eq (a := rm) (b := 0) (by omega) (by decide)).mp c
    rw [if_pos c]
    have e0 : nI tp - 0 = nI tp := sb_nl (k := 0) (Nat.zero_le _)
    rw [e0]
    exact open_loop (na := 0) (tp := tp) hr (by omega) (by omega) (σ0 := sg σ 45 12 (nI tp)) (fun σ1 x hs => fin tp σ1 hs) (sg_at _ _ _ _) N 0 _ (by omega) (by omega) (fun _ _ _ => rfl)
  · have c : ¬ rm = 0 := fun x => c (by rw [x]; rfl)
    have ha : ar f ≤ tp := ha.resolve_left c
    rw [if_neg c, gb_nI (by omega) (by omega), sb_nn ha]
    exact open_loop (na := ar f) (tp := tp - ar f) hr (by omega) (by omega) (σ0 := sg σ 45 12 (nI (tp - ar f))) (fun σ1 x hs => fin (tp - ar f) σ1 hs) (sg_at _ _ _ _) N 0 _ (by omega) (by omega) (fun _ _ _ => rfl)
