/-! the class's register machine: 52 (3 end, 7 nested, 12 answered), 53 memory, 54 funcs, 55 nexts, 56 registers, 57 slots, 58 passed -/
/-- the call r is in a FUNC g, at an op of it -/
def RF (σ : Sg) (F r : Nat) : Prop := ∃ g a z, g < F ∧ σ 54 r = nI g ∧ σ 55 r = nI a ∧ σ 41 g = nI z ∧ a < z ∧ z ≤ 100000
def RI (σ : Sg) (F h : Nat) : Prop := σ 52 7 = nI h ∧ h ≤ 30 ∧ ∀ r, r < h → RF σ F r
def RE (σ : Sg) (F : Nat) : Prop := (¬ σ 52 3 = 0) ∨ ∃ h, RI σ F h
theorem rf_same {σ σ' : Sg} {F r : Nat} (h : RF σ F r) (e54 : σ' 54 r = σ 54 r) (e55 : σ' 55 r = σ 55 r) (e41 : ∀ j, σ' 41 j = σ 41 j) : RF σ' F r := by
  obtain ⟨g, a, z, h1, h2, h3, h4, h5⟩ := h
  exact ⟨g, a, z, h1, e54.trans h2, e55.trans h3, (e41 g).trans h4, h5⟩
theorem part_eq {N n : Nat} {σ : Sg} {f S a w : Nat} {ww : Int32} (ew : ww = nI w) (hf : f < 12) (h40 : σ 40 f = nI S) (hb : (S + a) * 5 + w < n) (hn : n ≤ 95200) : f_X1_part N n σ (nI f) (nI a) ww = some (σ 42 ((S + a) * 5 + w), σ) := by
  subst ew
  unfold f_X1_part
  rw [gb_nI hf (by decide), ix_nI (k := f) (by omega), h40, ad_nn, ml_nl (S + a) 5, ad_nn]
  have e : (S + a) * OfNat.ofNat 5 + w = (S + a) * 5 + w := rfl
  rw [e, gb_nI hb (by omega), ix_nI (by omega)]
theorem room7_eq {N n : Nat} {σ : Sg} {h : Nat} (e : σ 52 7 = nI (h + 1)) : f_X4_room_X7 N n σ = some (nI h, σ) := by
  unfold f_X4_room_X7
  rw [e, sb_nl (k := 1) (show 1 ≤ h + 1 by omega)]
  exact congrArg (fun q => some (nI q, σ)) (show h + 1 - 1 = h by omega)
theorem jump7_eq {N n : Nat} {σ : Sg} {h : Nat} (e : σ 52 7 = nI (h + 1)) (h30 : h < 30) (x : Int32) : f_X4_jump_X7 N n σ x = some (0, sg σ 55 h x) := by
  unfold f_X4_jump_X7
  rw [room7_eq e, bd_s, gb_nI h30 (by decide), ix_nI (by omega)]
theorem fin7_end (σ : Sg) (x : Int32) : (sg (sg σ 52 3 x) 52 7 0) 52 3 = x := by
  rw [sg_ne (by decide)]
  exact sg_at _ _ _ _
theorem hasCell7_ok {N n : Nat} {σ : Sg} (x : Int32) : (∃ k, k < 64 ∧ x = nI k ∧ f_X4_hasCell_X7 N n σ x = some (1, σ)) ∨ f_X4_hasCell_X7 N n σ x = some (0, sg (sg σ 52 3 3) 52 7 0) := by
  unfold f_X4_hasCell_X7 f_X4_finish_X7
  rcases cs_n x with q | ⟨k, hk, rfl⟩
  · exact Or.inr (by rw [if_pos q, bd_s])
  · rw [if_neg (nI_pos hk)]
    have f64 : ((64 : Int32) ≤ nI k) = (64 ≤ k) := le_ln (k := 64) (by omega) (by decide)
    by_cases c : k < 64
    · exact Or.inl ⟨k, c, rfl, by rw [if_neg (show ¬ (64 : Int32) ≤ nI k by rw [f64]; omega)]⟩
    · exact Or.inr (by rw [if_pos (show (64 : Int32) ≤ nI k by rw [f64]; omega), bd_s])
theorem canReckon7_ok {N n : Nat} {σ : Sg} (o x : Int32) : f_X4_canReckon_X7 N n σ o x = some (1, σ) ∨ f_X4_canReckon_X7 N n σ o x = some (0, sg (sg σ 52 3 2) 52 7 0) := by
  unfold f_X4_canReckon_X7 f_X4_finish_X7
  by_cases c : o = 6
  · rw [if_pos c]
    by_cases c2 : x = 0
    · exact Or.inr (by rw [if_pos c2, bd_s])
    · exact Or.inl (by rw [if_neg c2])
  · exact Or.inl (by rw [if_neg c])
theorem room8_loop {N n : Nat} {σ0 : Sg} {u : Int32} {rm : Nat} (hr : rm < 30) {K : Sg → Int32 → Option (Int32 × Sg)} {P : Int32 × Sg → Prop} (hK : ∀ (σ : Sg) (x : Int32), (∀ c j, c ≠ 56 → σ c j = σ0 c j) → Ok (K σ x) P) :
    ∀ (k v : Nat) (σ : Sg), v ≤ 16 → 16 < v + k → (∀ c j, c ≠ 56 → σ c j = σ0 c j) → Ok (lf_X7_openRoom_8 N n u (nI (rm * 16)) K k σ (nI v)) P := by
  intro k
  induction k with
  | zero => intro v σ h1 h2; omega
  | succ k ih =>
    intro v σ h1 h2 hs
    show Ok (lb_X7_openRoom_8 N n u (nI (rm * 16)) K (lf_X7_openRoom_8 N n u (nI (rm * 16)) K k) σ (nI v)) P
    unfold lb_X7_openRoom_8
    have e0 : ((16 : Int32) ≤ nI v) = (16 ≤ v) := le_ln (k := 16) (by omega) (by decide)
    refine ok_if (fun _ => hK σ _ hs) (fun c => ?_)
    rw [e0] at c
    rw [ad_nn, gb_nI (show rm * 16 + v < 480 by omega) (by decide), ad_nl v 1]
    exact ih (v + 1) _ (by omega) (by omega) (fun c j q => (sg_c q).trans (hs c j q))
theorem room40_loop {N n : Nat} {σ0 : Sg} {rm : Nat} (hr : rm < 30) :
    ∀ (k v : Nat) (σ : Sg), v ≤ 22 → 22 < v + k → (∀ c j, c ≠ 56 → c ≠ 57 → σ c j = σ0 c j) → Ok (lf_X7_openRoom_40 N n (nI (rm * 22)) (fun σ7 _ => some (0, σ7)) k σ (nI v)) (fun y => ∀ c j, c ≠ 56 → c ≠ 57 → y.2 c j = σ0 c j) := by
  intro k
  induction k with
  | zero => intro v σ h1 h2; omega
  | succ k ih =>
    intro v σ h1 h2 hs
    show Ok (lb_X7_openRoom_40 N n (nI (rm * 22)) _ (lf_X7_openRoom_40 N n (nI (rm * 22)) _ k) σ (nI v)) _
    unfold lb_X7_openRoom_40
    have e0 : ((22 : Int32) ≤ nI v) = (22 ≤ v) := le_ln (k := 22) (by omega) (by decide)
    refine ok_if (fun _ => ok_ret hs) (fun c => ?_)
    rw [e0] at c
    rw [ad_nn, gb_nI (show rm * 22 + v < 660 by omega) (by decide), ad_nl v 1]
    exact ih (v + 1) _ (by omega) (by omega) (fun c j q1 q2 => (sg_c q2).trans (hs c j q1 q2))
theorem enter7_ok {N n : Nat} (hN : 1000 ≤ N) {σ : Sg} {F h g z : Nat} (hI : RI σ F h) (hg : g < F) (hF : F ≤ 12) (h41 : σ 41 g = nI z) (hz : 0 < z) (hz2 : z ≤ 100000) :
    Ok (f_X4_enter_X7 N n σ (nI g)) (fun y => RE y.2 F ∧ (h < 30 → y.2 52 3 = σ 52 3 ∧ RI y.2 F (h + 1))) := by
  obtain ⟨i1, i2, i3⟩ := hI
  unfold f_X4_enter_X7
  rw [i1]
  have e30 : (nI h < 30) = (h < 30) := lt_nl (k := 30) (by omega) (by decide)
  refine ok_if (fun c => ?_) (fun c => ?_)
  · rw [e30] at c
    unfold f_X7_openRoom
    rw [ml_nl h 16, ml_nl h 22]
    refine ok_bd (room8_loop (σ0 := σ) (rm := h) (P := fun y => ∀ c j, c ≠ 56 → c ≠ 57 → y.2 c j = σ c j) c (fun σ1 x hs => room40_loop (rm := h) c N 0 σ1 (by omega) (by omega) (fun c j q _ => hs c j q)) N 0 σ (by omega) (by omega) (fun _ _ _ => rfl)) (fun r σ1 _ hs => ?_)
    have hs : ∀ c j, c ≠ 56 → c ≠ 57 → σ1 c j = σ c j := hs
    have e7 : σ1 52 7 = nI h := (hs 52 7 (by decide) (by decide)).trans i1
    rw [e7, gb_nI c (by decide), gb_nI c (by decide), ix_nI (k := h) (by omega), ad_nl h 1]
    obtain ⟨σ2, e2⟩ : ∃ q, q = sg (sg (sg (sg σ1 54 h (nI g)) 55 h 0) 52 7 (nI (h + 1))) 52 6 (σ1 52 6 + 1) := ⟨_, rfl⟩
    have o7 : σ2 52 7 = nI (h + 1) := by rw [e2, sg_ne (by decide)]; exact sg_at _ _ _ _
    have o3 : σ2 52 3 = σ 52 3 := by rw [e2, sg_ne (by decide), sg_ne (by decide), sg_c (by decide), sg_c (by decide)]; exact hs 52 3 (by decide) (by decide)
    have o54 : ∀ j, σ2 54 j = if j = h then nI g else σ 54 j := fun j => by
      rw [e2, sg_c (by decide), sg_c (by decide), sg_c (by decide), sg_if, hs 54 j (by decide) (by decide)]
    have o55 : ∀ j, σ2 55 j = if j = h then nI 0 else σ 55 j := fun j => by
      rw [e2, sg_c (by decide), sg_c (by decide), sg_if, sg_c (by decide), hs 55 j (by decide) (by decide)]; rfl
    have o41 : ∀ j, σ2 41 j = σ 41 j := fun j => by
      rw [e2, sg_c (by decide), sg_c (by decide), sg_c (by decide), sg_c (by decide), hs 41 j (by decide) (by decide)]
    have fin : RI σ2 F (h + 1) := ⟨o7, by omega, fun r hr => by
      by_cases e : r = h
      · exact ⟨g, 0, z, hg, by rw [o54, if_pos e], by rw [o55, if_pos e], (o41 g).trans h41, hz, hz2⟩
      · exact rf_same (i3 r (by omega)) (by rw [o54, if_neg e]) (by rw [o55, if_neg e]) o41⟩
    exact ⟨(0, σ2), by rw [e2], Or.inr ⟨h + 1, fin⟩, fun _ => ⟨o3, fin⟩⟩
  · rw [e30] at c
    unfold f_X4_finish_X7
    rw [bd_s]
    exact ok_ret ⟨Or.inl (by
      show ¬ (sg (sg σ 52 3 4) 52 7 0) 52 3 = 0
      rw [fin7_end]; decide), fun q => absurd q c⟩
theorem step7_ok {N n : Nat} (hN : 1000 ≤ N) {σ : Sg} {F h f a z S : Nat} (hF : F ≤ 12) (hcode : ∀ g, g < F → ∃ S z, FC σ n F g S z) (hn : n ≤ 95200) (h7 : σ 52 7 = nI (h + 1)) (h30 : h < 30) (hr : ∀ r, r < h → RF σ F r) (hf : f < F) (h54 : σ 54 h = nI f) (h55 : σ 55 h = nI (a + 1)) (hfc : FC σ n F f S z) (ha : a < z) :
    Ok (f_X7_step N n σ (nI f) (nI a)) (fun y => RE y.2 F) := by
  obtain ⟨c40, c41, cz, cn, cop, clast⟩ := hfc
  obtain ⟨k, hk, ho⟩ := cop a ha
  have kk : ∀ (m : Nat), m < 2147483648 → nI k = nI m → k = m := fun m hm q => (nI_eq (by have := ho.1; omega) hm).mp q
  have p1 : ∀ σ', σ' 40 f = nI S → f_X1_part N n σ' (nI f) (nI a) 1 = some (σ' 42 ((S + a) * 5 + 1), σ') := fun σ' q => part_eq (w := 1) rfl (by omega) q (by omega) hn
  have p2 : ∀ σ', σ' 40 f = nI S → f_X1_part N n σ' (nI f) (nI a) 2 = some (σ' 42 ((S + a) * 5 + 2), σ') := fun σ' q => part_eq (w := 2) rfl (by omega) q (by omega) hn
  have p3 : ∀ σ', σ' 40 f = nI S → f_X1_part N n σ' (nI f) (nI a) 3 = some (σ' 42 ((S + a) * 5 + 3), σ') := fun σ' q => part_eq (w := 3) rfl (by omega) q (by omega) hn
  have p4 : ∀ σ', σ' 40 f = nI S → f_X1_part N n σ' (nI f) (nI a) 4 = some (σ' 42 ((S + a) * 5 + 4), σ') := fun σ' q => part_eq (w := 4) rfl (by omega) q (by omega) hn
  have p0 : f_X1_part N n σ (nI f) (nI a) 0 = some (nI k, σ) := (part_eq (S := S) (a := a) (w := 0) (ww := 0) rfl (by omega) c40 (by omega) hn).trans (by rw [Nat.add_zero, hk])
  have nx : k ≠ 4 → k ≠ 6 → a + 1 < z := fun n4 n6 => by
    by_cases e : a + 1 < z
    · exact e
    · have ea : S + z - 1 = S + a := by omega
      rw [ea, hk] at clast
      rcases clast with q | q
      · exact absurd (kk 4 (by decide) q) n4
      · exact absurd (kk 6 (by decide) q) n6
  -- it goes on in the same call
  have stay : ∀ σ' : Sg, k ≠ 4 → k ≠ 6 → σ' 52 7 = σ 52 7 → (∀ j, σ' 54 j = σ 54 j) → (∀ j, σ' 55 j = σ 55 j) → (∀ j, σ' 41 j = σ 41 j) → RE σ' F := by
    intro σ' n4 n6 e7 e54 e55 e41
    refine Or.inr ⟨h + 1, e7.trans h7, by omega, fun r hr2 => ?_⟩
    by_cases e : r = h
    · rw [e]
      exact ⟨f, a + 1, z, hf, (e54 h).trans h54, (e55 h).trans h55, (e41 f).trans c41, nx n4 n6, by omega⟩
    · exact rf_same (hr r (by omega)) (e54 r) (e55 r) e41
  have goes : ∀ y, y < z → RE (sg σ 55 h (nI y)) F := by
    intro y hy
    refine Or.inr ⟨h + 1, (sg_c (by decide)).trans h7, by omega, fun r hr2 => ?_⟩
    by_cases e : r = h
    · rw [e]
      exact ⟨f, y, z, hf, (sg_c (by decide)).trans h54, sg_at _ _ _ _, (sg_c (by decide)).trans c41, hy, by omega⟩
    · exact rf_same (hr r (by omega)) (sg_c (by decide)) (sg_ne e) (fun j => sg_c (by decide))
  have s56 : ∀ (i : Nat) (x : Int32), k ≠ 4 → k ≠ 6 → RE (sg σ 56 i x) F := fun i x n4 n6 => stay _ n4 n6 (sg_c (by decide)) (fun _ => sg_c (by decide)) (fun _ => sg_c (by decide)) (fun _ => sg_c (by decide))
  have ended : ∀ x : Int32, ¬ x = 0 → RE (sg (sg σ 52 3 x) 52 7 0) F := fun x hx => Or.inl (by rw [fin7_end]; exact hx)
  have idx : ∀ {x : Int32} {β : Type} {y : Option β}, Bl x 16 → gb (nI (h * 16) + x) 480 y = y := by
    intro x β y hx
    obtain ⟨w, hw, rfl⟩ := hx
    rw [ad_nn, gb_nI (show h * 16 + w < 480 by omega) (by decide)]
  have ids : ∀ {x : Int32} {β : Type} {y : Option β}, Bl x 22 → gb (nI (h * 22) + x) 660 y = y := by
    intro x β y hx
    obtain ⟨w, hw, rfl⟩ := hx
    rw [ad_nn, gb_nI (show h * 22 + w < 660 by omega) (by decide)]
  unfold f_X7_step
  rw [p1 σ c40, bd_s, p2 σ c40, bd_s, room7_eq h7, bd_s, p0, bd_s, ml_nl h 16]
  have e16 : h * OfNat.ofNat 16 = h * 16 := rfl
  rw [e16]
  obtain ⟨o0, oa, og, os, op6, oc, ob, obg, obs, obt, ow⟩ := ho
  refine ok_if (fun c => ?_) (fun n0 => ?_)
  · obtain rfl : k = 0 := kk 0 (by decide) c
    rw [idx (oa (by decide))]
    exact ok_ret (s56 _ _ (by decide) (by decide))
  refine ok_if (fun c => ?_) (fun n1 => ?_)
  · obtain rfl : k = 1 := kk 1 (by decide) c
    rw [idx (ob (by decide)), idx (oa (by decide))]
    exact ok_ret (s56 _ _ (by decide) (by decide))
  refine ok_if (fun c => ?_) (fun n2 => ?_)
  · obtain rfl : k = 2 := kk 2 (by decide) c
    unfold f_X7_work
    rw [p4 σ c40, bd_s, p2 σ c40, bd_s, idx (ob (by decide)), p3 σ c40, bd_s, idx (ow rfl)]
    rcases canReckon7_ok (N := N) (n := n) (σ := σ) (σ 42 ((S + a) * 5 + 4)) (σ 56 (ix (nI (h * 16) + σ 42 ((S + a) * 5 + 3)))) with e | e
    · rw [e, bd_s, if_neg (by decide), p1 σ c40, bd_s]
      refine ok_bd (P1 := fun y => RE y.2 F) (ok_bd (reckon_ok _ _ _) (fun r1 σ1 _ h1 => ?_)) (fun r σ2 _ h2 => ok_ret h2)
      have h1 : σ1 = σ := h1
      subst h1
      rw [idx (oa (by decide))]
      exact ok_ret (s56 _ _ (by decide) (by decide))
    · rw [e, bd_s, if_pos rfl, bd_s]
      exact ok_ret (ended 2 (by decide))
  refine ok_if (fun c => ?_) (fun n3 => ?_)
  · obtain rfl : k = 3 := kk 3 (by decide) c
    unfold f_X7_swap
    rw [idx (oa (by decide)), idx (ob (by decide)), idx (oa (by decide)), idx (ob (by decide)), bd_s]
    refine ok_ret (stay _ (by decide) (by decide) ?_ (fun _ => ?_) (fun _ => ?_) (fun _ => ?_)) <;> simp (disch := decide) only [sg_c]
  refine ok_if (fun c => ?_) (fun n4 => ?_)
  · obtain rfl : k = 4 := kk 4 (by decide) c
    obtain ⟨y, y1, y2⟩ := og rfl
    rw [y2, jump7_eq h7 h30, bd_s]
    exact ok_ret (goes y y1)
  refine ok_if (fun c => ?_) (fun n5 => ?_)
  · obtain rfl : k = 5 := kk 5 (by decide) c
    obtain ⟨y, y1, y2⟩ := obg rfl
    rw [idx (oa (by decide))]
    refine ok_if (fun _ => ?_) (fun _ => ok_ret (stay σ (by decide) (by decide) rfl (fun _ => rfl) (fun _ => rfl) (fun _ => rfl)))
    rw [y2, jump7_eq h7 h30, bd_s]
    exact ok_ret (goes y y1)
  refine ok_if (fun c => ?_) (fun n6 => ?_)
  · obtain rfl : k = 6 := kk 6 (by decide) c
    rw [idx (oa (by decide))]
    unfold f_X4_leave_X7
    rw [h7]
    have e1 : ((1 : Int32) < nI (h + 1)) = (1 < h + 1) := lt_ln (k := 1) (by omega) (by decide)
    have e2 : nI (h + 1) - 1 = nI h := (sb_nl (k := 1) (show 1 ≤ h + 1 by omega)).trans (congrArg nI (show h + 1 - 1 = h by omega))
    refine ok_bd (P1 := fun y => RE y.2 F) (ok_if (fun c2 => ?_) (fun c2 => ?_)) (fun r σ1 _ h1 => ok_ret h1)
    · rw [e2]
      unfold f_X7_takeAnswer
      rw [bd_s]
      refine ok_ret (Or.inr ⟨h, ?_, by omega, fun r hr2 => rf_same (hr r hr2) ?_ ?_ (fun _ => ?_)⟩)
      · simp (disch := decide) only [sg_ne, sg_at]
      · simp (disch := decide) only [sg_c]
      · simp (disch := decide) only [sg_c]
      · simp (disch := decide) only [sg_c]
    · unfold f_X4_finish_X7
      rw [bd_s]
      exact ok_ret (Or.inl (by
        show ¬ (sg (sg (sg σ 52 4 (σ 56 (ix (nI (h * 16) + σ 42 ((S + a) * 5 + 1))))) 52 3 1) 52 7 0) 52 3 = 0
        rw [fin7_end]; decide))
  refine ok_if (fun c => ?_) (fun n7 => ?_)
  · obtain rfl : k = 7 := kk 7 (by decide) c
    rw [idx (ob (by decide))]
    unfold f_X7_fetch
    rcases hasCell7_ok (N := N) (n := n) (σ := σ) (σ 56 (ix (nI (h * 16) + σ 42 ((S + a) * 5 + 2)))) with ⟨w, hw, ew, e⟩ | e
    · rw [e, bd_s, if_neg (by decide), ew, gb_nI hw (by decide), idx (oa (by decide)), bd_s]
      exact ok_ret (s56 _ _ (by decide) (by decide))
    · rw [e, bd_s, if_pos rfl, bd_s]
      exact ok_ret (ended 3 (by decide))
  refine ok_if (fun c => ?_) (fun n8 => ?_)
  · obtain rfl : k = 8 := kk 8 (by decide) c
    rw [idx (oa (by decide)), idx (ob (by decide))]
    unfold f_X7_store
    rcases hasCell7_ok (N := N) (n := n) (σ := σ) (σ 56 (ix (nI (h * 16) + σ 42 ((S + a) * 5 + 1)))) with ⟨w, hw, ew, e⟩ | e
    · rw [e, bd_s, if_neg (by decide), ew, gb_nI hw (by decide), bd_s]
      refine ok_ret (stay _ (by decide) (by decide) ?_ (fun _ => ?_) (fun _ => ?_) (fun _ => ?_)) <;> simp (disch := decide) only [sg_c]
    · rw [e, bd_s, if_pos rfl, bd_s]
      exact ok_ret (ended 3 (by decide))
  refine ok_if (fun c => ?_) (fun n9 => ?_)
  · obtain rfl : k = 9 := kk 9 (by decide) c
    rw [room7_eq h7, bd_s, ml_nl h 22]
    have e22 : h * OfNat.ofNat 22 = h * 22 := rfl
    rw [e22, ids (obs rfl), idx (oa (by decide))]
    exact ok_ret (s56 _ _ (by decide) (by decide))
  refine ok_if (fun c => ?_) (fun n10 => ?_)
  · obtain rfl : k = 10 := kk 10 (by decide) c
    rw [room7_eq h7, bd_s, ml_nl h 22]
    have e22 : h * OfNat.ofNat 22 = h * 22 := rfl
    rw [e22, idx (ob (by decide)), ids (os rfl)]
    refine ok_ret (stay _ (by decide) (by decide) ?_ (fun _ => ?_) (fun _ => ?_) (fun _ => ?_)) <;> simp (disch := decide) only [sg_c]
  refine ok_if (fun c => ?_) (fun n11 => ?_)
  · obtain rfl : k = 11 := kk 11 (by decide) c
    rw [bl_gb (obt rfl) (by decide), idx (oa (by decide))]
    exact ok_ret (s56 _ _ (by decide) (by decide))
  refine ok_if (fun c => ?_) (fun n12 => ?_)
  · obtain rfl : k = 12 := kk 12 (by decide) c
    rw [idx (ob (by decide)), bl_gb (op6 rfl) (by decide)]
    refine ok_ret (stay _ (by decide) (by decide) ?_ (fun _ => ?_) (fun _ => ?_) (fun _ => ?_)) <;> simp (disch := decide) only [sg_c]
  refine ok_if (fun c => ?_) (fun n13 => ?_)
  · obtain rfl : k = 13 := kk 13 (by decide) c
    obtain ⟨g, g1, g2⟩ := oc rfl
    rw [g2]
    obtain ⟨Sg2, zg, fg⟩ := hcode g g1
    have hI : RI σ F (h + 1) := ⟨h7, by omega, fun r hr2 => by
      by_cases e : r = h
      · rw [e]
        exact ⟨f, a + 1, z, hf, h54, h55, c41, nx (by decide) (by decide), by omega⟩
      · exact hr r (by omega)⟩
    exact ok_bd (enter7_ok hN hI g1 hF fg.2.1 fg.2.2.1 (by have := fg.2.2.2.1; omega)) (fun r σ1 _ h1 => ok_ret h1.1)
  have e14 : k = 14 := by
    have z0 : k ≠ 0 := fun q => n0 (by rw [q]; rfl)
    have z1 : k ≠ 1 := fun q => n1 (by rw [q]; rfl)
    have z2 : k ≠ 2 := fun q => n2 (by rw [q]; rfl)
    have z3 : k ≠ 3 := fun q => n3 (by rw [q]; rfl)
    have z4 : k ≠ 4 := fun q => n4 (by rw [q]; rfl)
    have z5 : k ≠ 5 := fun q => n5 (by rw [q]; rfl)
    have z6 : k ≠ 6 := fun q => n6 (by rw [q]; rfl)
    have z7 : k ≠ 7 := fun q => n7 (by rw [q]; rfl)
    have z8 : k ≠ 8 := fun q => n8 (by rw [q]; rfl)
    have z9 : k ≠ 9 := fun q => n9 (by rw [q]; rfl)
    have z10 : k ≠ 10 := fun q => n10 (by rw [q]; rfl)
    have z11 : k ≠ 11 := fun q => n11 (by rw [q]; rfl)
    have z12 : k ≠ 12 := fun q => n12 (by rw [q]; rfl)
    have z13 : k ≠ 13 := fun q => n13 (by rw [q]; rfl)
    omega
  subst e14
  rw [idx (oa (by decide))]
  exact ok_ret (s56 _ _ (by decide) (by decide))
theorem fc_eq {σ σ' : Sg} {n F f S z : Nat} (h : FC σ n F f S z) (e : ∀ c j, 40 ≤ c → c ≤ 42 → σ' c j = σ c j) : FC σ' n F f S z := fc_same h (e _ _ (by decide) (by decide)) (e _ _ (by decide) (by decide)) (Nat.le_refl _) (fun i _ => e _ _ (by decide) (by decide))
theorem goOn7_ok {N n : Nat} (hN : 1000 ≤ N) {F : Nat} (hF0 : 0 < F) (hF : F ≤ 12) (hn : n ≤ 95200) {m : Nat} (hm : m ≤ 20000) :
    ∀ (k v : Nat) (σ : Sg), v ≤ m → m < v + k → (∀ g, g < F → ∃ S z, FC σ n F g S z) → RE σ F → Ok (lf_X4_goOn_X7_2 N n (nI m) (fun σ27 _ => some (σ27 52 3, σ27)) k σ (nI v)) (fun y => RE y.2 F) := by
  intro k
  induction k with
  | zero => intro v σ h1 h2; omega
  | succ k ih =>
    intro v σ h1 h2 hc hE
    show Ok (lb_X4_goOn_X7_2 N n (nI m) _ (lf_X4_goOn_X7_2 N n (nI m) _ k) σ (nI v)) _
    unfold lb_X4_goOn_X7_2
    refine ok_if (fun _ => ok_ret hE) (fun c => ok_if (fun c2 => ?_) (fun _ => ok_ret hE))
    rw [le_nn (by omega) (by omega)] at c
    rw [ad_nl v 1]
    -- one STEP of the innermost call
    have one : ∀ (σ1 : Sg) (h : Nat), (∀ c j, 40 ≤ c → c ≤ 42 → σ1 c j = σ c j) → RI σ1 F (h + 1) → Ok (bd (f_X4_room_X7 N n σ1) (fun r17 σ18 => gb r17 30 (gb r17 30 (gb r17 30 (gb r17 30 (bd (f_X7_step N n (sg (sg σ18 52 5 ((σ18 52 5) + 1)) 55 (ix r17) ((σ18 55 (ix r17)) + 1)) (σ18 54 (ix r17)) (((σ18 55 (ix r17)) + 1) - 1)) (fun _ σ25 => lf_X4_goOn_X7_2 N n (nI m) (fun σ27 _ => some (σ27 52 3, σ27)) k σ25 (nI (v + 1))))))))) (fun y => RE y.2 F) := by
      intro σ1 h hs hI
      obtain ⟨i1, i2, i3⟩ := hI
      have hc1 : ∀ g, g < F → ∃ S z, FC σ1 n F g S z := fun g hg => by
        obtain ⟨S, z, q⟩ := hc g hg
        exact ⟨S, z, fc_eq q hs⟩
      obtain ⟨g, a, z, g1, g2, g3, g4, g5, g6⟩ := i3 h (by omega)
      obtain ⟨S, z', q⟩ := hc1 g g1
      have ez : z' = z := (nI_eq (by have := q.2.2.2.1; omega) (by omega)).mp (q.2.1.symm.trans g4)
      subst ez
      rw [room7_eq i1, bd_s, gb_nI (show h < 30 by omega) (by decide), gb_nI (show h < 30 by omega) (by decide), gb_nI (show h < 30 by omega) (by decide), gb_nI (show h < 30 by omega) (by decide), ix_nI (k := h) (by omega), g2, g3, ad_nl a 1]
      have ea : nI (a + OfNat.ofNat 1) - 1 = nI a := (sb_nl (k := 1) (show 1 ≤ a + 1 by omega)).trans (congrArg nI (show a + 1 - 1 = a by omega))
      rw [ea]
      obtain ⟨σ2, e2⟩ : ∃ w, w = sg (sg σ1 52 5 (σ1 52 5 + 1)) 55 h (nI (a + 1)) := ⟨_, rfl⟩
      have o : ∀ c j, c ≠ 52 → c ≠ 55 → σ2 c j = σ1 c j := fun c j a b => by rw [e2, sg_c b, sg_c a]
      have o55 : ∀ j, σ2 55 j = if j = h then nI (a + 1) else σ1 55 j := fun j => by rw [e2, sg_if, sg_c (by decide)]
      have o7 : σ2 52 7 = nI (h + 1) := by rw [e2, sg_c (by decide), sg_ne (by decide)]; exact i1
      have hc2 : ∀ g, g < F → ∃ S z, FC σ2 n F g S z := fun g hg => by
        obtain ⟨S, z, q⟩ := hc1 g hg
        exact ⟨S, z, fc_eq q (fun c j _ _ => o c j (by omega) (by omega))⟩
      have main := step7_ok (N := N) (n := n) (σ := σ2) (F := F) (h := h) (f := g) (a := a) hN hF hc2 hn o7 (by omega) (fun r hr => rf_same (i3 r (by omega)) (o 54 r (by decide) (by decide)) (by rw [o55, if_neg (by omega)]) (fun j => o 41 j (by decide) (by decide))) g1 ((o 54 h (by decide) (by decide)).trans g2) (by rw [o55, if_pos rfl]) (fc_eq q (fun c j _ _ => o c j (by omega) (by omega))) g5
      rw [show sg (sg σ1 52 5 (σ1 52 5 + 1)) 55 h (nI (a + OfNat.ofNat 1)) = σ2 from e2.symm]
      refine ok_bd main (fun r σ3 e h3 => ih (v + 1) σ3 (by omega) (by omega) (fun g hg => ?_) h3)
      obtain ⟨S, z, q⟩ := hc2 g hg
      exact ⟨S, z, fc_eq q (fun c j _ b => fr_X7_step (nt_hi (m := 42) (by decide) (by decide) b) e)⟩
    obtain ⟨h, hI⟩ := hE.resolve_left (fun q => q c2)
    have hI0 := hI
    obtain ⟨i1, i2, i3⟩ := hI
    refine ok_if (fun c3 => ?_) (fun c3 => ?_)
    · have hz : h = 0 := by rw [i1] at c3; exact (nI_eq (a := h) (b := 0) (by omega) (by decide)).mp c3
      obtain ⟨S, z, q⟩ := hc 0 hF0
      refine ok_bd (enter7_ok (g := 0) hN hI0 hF0 hF q.2.1 q.2.2.1 (by have := q.2.2.2.1; omega)) (fun r σ1 e h1 => ?_)
      exact one σ1 h (fun c j _ b => fr_X4_enter_X7 (nt_hi (m := 42) (by decide) (by decide) b) e) (h1.2 (by omega)).2
    · have hz : 0 < h := Nat.pos_of_ne_zero (fun q => c3 (by rw [i1, q]; rfl))
      obtain ⟨h', rfl⟩ : ∃ h', h = h' + 1 := ⟨h - 1, by omega⟩
      exact one σ h' (fun _ _ _ _ => rfl) hI0
theorem begin7_ok {N n : Nat} (hN : 1000 ≤ N) {σ : Sg} (F : Nat) : Ok (f_X7_begin N n σ) (fun y => RE y.2 F) := by
  unfold f_X7_begin f_X4_begin_X7
  rw [bd_s]
  refine ok_bd (fill58_ok hN 0) (fun r σ1 _ h1 => ok_ret (Or.inr ⟨0, ?_, by omega, fun r hr => by omega⟩))
  have h1 : ∀ c j, c ≠ 58 → σ1 c j = _ := h1.1
  show σ1 52 7 = nI 0
  rw [h1 52 7 (by decide), sg_ne (by decide)]
  exact sg_at _ _ _ _
