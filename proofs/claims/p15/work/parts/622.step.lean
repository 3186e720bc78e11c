/-- what the innermost call's own work leaves -/
def Kp (σ σ' : Sg) : Prop := (∀ j, σ' 47 j = σ 47 j) ∧ (∀ j, σ' 51 j = σ 51 j) ∧ (∀ j, σ' 8 j = σ 8 j) ∧ (∀ j, σ' 48 j = σ 48 j)
theorem kp_trans {σ σ1 σ2 : Sg} (h : Kp σ σ1) (k : Kp σ1 σ2) : Kp σ σ2 := ⟨fun j => (k.1 j).trans (h.1 j), fun j => (k.2.1 j).trans (h.2.1 j), fun j => (k.2.2.1 j).trans (h.2.2.1 j), fun j => (k.2.2.2 j).trans (h.2.2.2 j)⟩
theorem kp_push {N n : Nat} {σ σ' : Sg} {x r : Int32} (e : f_X8_push N n σ x = some (r, σ')) : Kp σ σ' := ⟨fun _ => fr_X8_push rfl e, fun _ => fr_X8_push rfl e, fun _ => fr_X8_push rfl e, fun _ => fr_X8_push rfl e⟩
theorem kp_pop {N n : Nat} {σ σ' : Sg} {r : Int32} (e : f_X8_pop N n σ = some (r, σ')) : Kp σ σ' := ⟨fun _ => fr_X8_pop rfl e, fun _ => fr_X8_pop rfl e, fun _ => fr_X8_pop rfl e, fun _ => fr_X8_pop rfl e⟩
theorem kp_flip {N n : Nat} {σ σ' : Sg} {r : Int32} (e : f_X8_flip N n σ = some (r, σ')) : Kp σ σ' := ⟨fun _ => fr_X8_flip rfl e, fun _ => fr_X8_flip rfl e, fun _ => fr_X8_flip rfl e, fun _ => fr_X8_flip rfl e⟩
theorem kp_fetch {N n : Nat} {σ σ' : Sg} {x r : Int32} (e : f_X8_fetch N n σ x = some (r, σ')) : Kp σ σ' := ⟨fun _ => fr_X8_fetch rfl e, fun _ => fr_X8_fetch rfl e, fun _ => fr_X8_fetch rfl e, fun _ => fr_X8_fetch rfl e⟩
theorem kp_store {N n : Nat} {σ σ' : Sg} {x y r : Int32} (e : f_X8_store N n σ x y = some (r, σ')) : Kp σ σ' := ⟨fun _ => fr_X8_store rfl e, fun _ => fr_X8_store rfl e, fun _ => fr_X8_store rfl e, fun _ => fr_X8_store rfl e⟩
theorem kp_work {N n : Nat} {σ σ' : Sg} {x y z r : Int32} (e : f_X8_work N n σ x y z = some (r, σ')) : Kp σ σ' := ⟨fun _ => fr_X8_work rfl e, fun _ => fr_X8_work rfl e, fun _ => fr_X8_work rfl e, fun _ => fr_X8_work rfl e⟩
theorem step_ok {N n : Nat} (hN : 1000 ≤ N) {σ : Sg} {F Wd : Nat} {ar lo st le : Nat → Nat} (hp : PI σ F Wd ar lo st le) (hle : ∀ f, f < F → 0 < le f) (hW : ∀ f, f < F → WF σ F ar lo st le f) {h : Nat} {fn nx bt : Nat → Nat} {f w tp : Nat} (hJ : SJ σ F st le h fn nx bt f w tp) :
    Ok (f_X8_step N n σ (nI f) (nI w)) (fun y => SE F st le y.2) := by
  have hJ0 := hJ
  obtain ⟨j1, j2, j3, j4, j5, j6, j7, j8, j9, j10, j11, j12⟩ := hJ
  have hf : f < F := by have := (j6 (h - 1) (by omega)).1; rw [j5] at this; exact this
  have hbt := (j6 (h - 1) (by omega)).2.2.2
  have hp0 := hp
  obtain ⟨g1, g2, g3, g4, g5, g6, g7, g8, g9, g10, g11⟩ := hp
  have q9 := g9 f hf
  obtain ⟨k, y, d, hk, hd, ho, hdw, ht, hb, c1, c2, c3, c4⟩ := ((hW f hf).2 w j8).resolve_left (fun q => n1_ne (show tp - bt (h - 1) < 2147483648 by omega) (j10.symm.trans q))
  have ed : d = tp - bt (h - 1) := (nI_eq (by omega) (by omega)).mp (hdw.symm.trans j10)
  obtain ⟨B, eB⟩ : ∃ B, B = bt (h - 1) := ⟨_, rfl⟩
  rw [← eB] at ed hbt j9
  have hp2 := ptN_le hk
  have stay : ∀ (σ' : Sg) (tp' : Nat), Kp σ σ' → σ' 45 7 = σ 45 7 → σ' 45 12 = nI tp' → tp' = B + (d - tkN ar k y + ptN k) → k ≠ 12 → k ≠ 15 → SE F st le σ' := by
    intro σ' tp' hk1 e7 et etp n12 n15
    obtain ⟨z1, z2⟩ := c4 n12 n15
    obtain ⟨nx', hS⟩ := cont_ok hJ0 hk1.1 hk1.2.1 hk1.2.2.1 (fun j _ => hk1.2.2.2 j) e7 et ((hk1.2.2.2 _).trans j11) z1 (by omega) (z2.trans (congrArg nI (by omega))) (by omega)
    exact Or.inr ⟨h, fn, nx', bt, tp', hS⟩
  have kr : Kp σ σ := ⟨fun _ => rfl, fun _ => rfl, fun _ => rfl, fun _ => rfl⟩
  unfold f_X8_step
  rw [ix_nI (k := f) (by omega), g7 f hf, ad_nn, ix_nI (k := st f + w) (by omega), gb_nI (by omega) (by omega), gb_nI (by omega) (by omega), gb_nI (by omega) (by omega), gb_nI (by omega) (by omega), ho]
  have kk : ∀ (m : Nat), m < 2147483648 → nI k = nI m → k = m := fun m hm q => (nI_eq (by omega) hm).mp q
  refine ok_if (fun c => ?_) (fun n0 => ?_)
  · obtain rfl : k = 0 := kk 0 (by decide) c
    have e1 : tkN ar 0 y = 0 := rfl
    have e2 : ptN 0 = 1 := rfl
    exact ok_bd (push_ok j4 (by omega) _) (fun r σ1 e h1 => ok_ret (stay σ1 (tp + 1) (kp_push e) (fr_X8_push rfl e) h1 (by omega) (by omega) (by omega)))
  refine ok_if (fun c => ?_) (fun n1 => ?_)
  · obtain rfl : k = 1 := kk 1 (by decide) c
    have e1 : tkN ar 1 y = 0 := rfl
    have e2 : ptN 1 = 1 := rfl
    obtain ⟨y1, y2⟩ := c1 (Or.inl rfl)
    rw [room_eq j1 j2, bd_s, y2, ml_nl (h - 1) 10, ad_nn, gb_nI (show (h - 1) * 10 + y < 300 by omega) (by decide)]
    exact ok_bd (push_ok j4 (by omega) _) (fun r σ1 e h1 => ok_ret (stay σ1 (tp + 1) (kp_push e) (fr_X8_push rfl e) h1 (by omega) (by omega) (by omega)))
  refine ok_if (fun c => ?_) (fun n2 => ?_)
  · obtain rfl : k = 2 := kk 2 (by decide) c
    have e1 : tkN ar 2 y = 1 := rfl
    have e2 : ptN 2 = 0 := rfl
    obtain ⟨y1, y2⟩ := c1 (Or.inr rfl)
    rw [room_eq j1 j2, bd_s, y2, ml_nl (h - 1) 10, ad_nn]
    refine ok_bd (pop_ok j4 (by omega) (by omega)) (fun r σ1 e h1 => ?_)
    rw [gb_nI (show (h - 1) * 10 + y < 300 by omega) (by decide)]
    exact ok_ret (stay (sg σ1 49 _ r) (tp - 1) (kp_trans (kp_pop e) ⟨fun _ => sg_c (by decide), fun _ => sg_c (by decide), fun _ => sg_c (by decide), fun _ => sg_c (by decide)⟩) ((sg_c (by decide)).trans (fr_X8_pop rfl e)) ((sg_c (by decide)).trans h1) (by omega) (by omega) (by omega))
  refine ok_if (fun c => ?_) (fun n9 => ?_)
  · obtain rfl : k = 9 := kk 9 (by decide) c
    have e1 : tkN ar 9 y = 1 := rfl
    have e2 : ptN 9 = 2 := rfl
    rw [j4, sb_nl (k := 1) (show 1 ≤ tp by omega), gb_nI (show tp - 1 < 360 by omega) (by decide)]
    exact ok_bd (push_ok j4 (by omega) _) (fun r σ1 e h1 => ok_ret (stay σ1 (tp + 1) (kp_push e) (fr_X8_push rfl e) h1 (by omega) (by omega) (by omega)))
  refine ok_if (fun c => ?_) (fun n10 => ?_)
  · obtain rfl : k = 10 := kk 10 (by decide) c
    have e1 : tkN ar 10 y = 2 := rfl
    have e2 : ptN 10 = 2 := rfl
    exact ok_bd (flip_ok j4 (by omega) (by omega)) (fun r σ1 e h1 => ok_ret (stay σ1 tp (kp_flip e) (fr_X8_flip rfl e) h1 (by omega) (by omega) (by omega)))
  refine ok_if (fun c => ?_) (fun n11 => ?_)
  · obtain rfl : k = 11 := kk 11 (by decide) c
    have e1 : tkN ar 11 y = 1 := rfl
    have e2 : ptN 11 = 0 := rfl
    exact ok_bd (pop_ok j4 (by omega) (by omega)) (fun r σ1 e h1 => ok_ret (stay σ1 (tp - 1) (kp_pop e) (fr_X8_pop rfl e) h1 (by omega) (by omega) (by omega)))
  have jump : ∀ (σ1 : Sg) (tp' : Nat), Kp σ σ1 → σ1 45 7 = σ 45 7 → σ1 45 12 = nI tp' → tp' = B + (d - tkN ar k y + ptN k) → (k = 12 ∨ k = 13) → Ok (bd (f_X4_jump_X8 N n σ1 (nI y)) (fun _ σ2 => some ((0 : Int32), σ2))) (fun z => SE F st le z.2) := by
    intro σ1 tp' hk1 e7 et etp hkk
    obtain ⟨y1, -, y3⟩ := c2 hkk
    rw [jump_ok (e7.trans j1) j2 j3, bd_s]
    obtain ⟨nx', hS⟩ := cont_ok (σ' := sg σ1 48 (h - 1) (nI y)) (w' := y) (tp' := tp') hJ0 (fun j => (sg_c (by decide)).trans (hk1.1 j)) (fun j => (sg_c (by decide)).trans (hk1.2.1 j)) (fun j => (sg_c (by decide)).trans (hk1.2.2.1 j)) (fun j q => (sg_ne q).trans (hk1.2.2.2 j)) ((sg_c (by decide)).trans e7) ((sg_c (by decide)).trans et) (sg_at _ _ _ _) y1 (by omega) (y3.trans (congrArg nI (by omega))) (by omega)
    exact ok_ret (Or.inr ⟨h, fn, nx', bt, tp', hS⟩)
  refine ok_if (fun c => ?_) (fun n12 => ?_)
  · obtain rfl : k = 12 := kk 12 (by decide) c
    have e1 : tkN ar 12 y = 0 := rfl
    have e2 : ptN 12 = 0 := rfl
    rw [(c2 (Or.inl rfl)).2.1]
    exact jump σ tp kr rfl j4 (by omega) (Or.inl rfl)
  refine ok_if (fun c => ?_) (fun n13 => ?_)
  · obtain rfl : k = 13 := kk 13 (by decide) c
    have e1 : tkN ar 13 y = 1 := rfl
    have e2 : ptN 13 = 0 := rfl
    rw [(c2 (Or.inr rfl)).2.1]
    refine ok_bd (pop_ok j4 (by omega) (by omega)) (fun r σ1 e h1 => ?_)
    exact ok_if (fun _ => jump σ1 (tp - 1) (kp_pop e) (fr_X8_pop rfl e) h1 (by omega) (Or.inr rfl)) (fun _ => ok_ret (stay σ1 (tp - 1) (kp_pop e) (fr_X8_pop rfl e) h1 (by omega) (by omega) (by omega)))
  refine ok_if (fun c => ?_) (fun n14 => ?_)
  · obtain rfl : k = 14 := kk 14 (by decide) c
    have e1 : tkN ar 14 y = ar y := rfl
    have e2 : ptN 14 = 1 := rfl
    obtain ⟨y1, y2⟩ := c3 rfl
    obtain ⟨z1, z2⟩ := c4 (by omega) (by omega)
    rw [y2]
    refine ok_bd (enter_ok hN hp0 (h := h) (fn := fn) (nx := fun r => if r = h - 1 then w + 1 else nx r) (bt := bt) (tp := tp) y1 (hle y y1) (hW y y1).1 j1 j3 j4 j6 (fun r hr => ?_) (fun _ => ?_) (fun q => by omega)) (fun r σ1 _ h1 => ok_ret h1.1)
    · simp only [if_neg (show ¬ r = h - 1 by omega)]
      exact j7 r hr
    · simp only [if_true]
      rw [j5, ← eB]
      exact ⟨by omega, by omega, j11, z1, by omega, z2.trans (congrArg nI (by omega))⟩
  refine ok_if (fun c => ?_) (fun n15 => ?_)
  · obtain rfl : k = 15 := kk 15 (by decide) c
    have e1 : tkN ar 15 y = 1 := rfl
    refine ok_bd (pop_ok j4 (by omega) (by omega)) (fun r σ1 e h1 => ?_)
    have hk1 := kp_pop e
    exact ok_bd (leave_ok (F := F) (st := st) (le := le) (fn := fn) (nx := nx) (bt := bt) ((fr_X8_pop rfl e).trans j1) j2 j3 h1 (fun r hr => ⟨(j6 r hr).1, (hk1.1 r).trans (j6 r hr).2.1, (hk1.2.1 r).trans (j6 r hr).2.2.1, (j6 r hr).2.2.2⟩) (fun r hr => ⟨(hk1.2.2.2 r).trans (j7 r hr).1, (j7 r hr).2.1, (j7 r hr).2.2.1, (hk1.2.2.1 _).trans (j7 r hr).2.2.2⟩) _) (fun r2 σ2 _ h2 => ok_ret h2)
  refine ok_if (fun c => ?_) (fun n16 => ?_)
  · obtain rfl : k = 16 := kk 16 (by decide) c
    have e1 : tkN ar 16 y = 1 := rfl
    have e2 : ptN 16 = 1 := rfl
    refine ok_bd (pop_ok j4 (by omega) (by omega)) (fun r σ1 e h1 => ok_bd (fetch_ok (tp := tp - 1) h1 (by omega) _) (fun r2 σ2 e2' h2 => ok_ret ?_))
    rcases h2 with q | ⟨q1, q2, q3⟩
    · exact Or.inl q
    · exact stay σ2 (tp - 1 + 1) (kp_trans (kp_pop e) (kp_fetch e2')) (q3.trans (fr_X8_pop rfl e)) q1 (by omega) (by omega) (by omega)
  refine ok_if (fun c => ?_) (fun n17 => ?_)
  · obtain rfl : k = 17 := kk 17 (by decide) c
    have e1 : tkN ar 17 y = 2 := rfl
    have e2 : ptN 17 = 0 := rfl
    refine ok_bd (pop_ok j4 (by omega) (by omega)) (fun r σ1 e h1 => ok_bd (pop_ok (tp := tp - 1) h1 (by omega) (by omega)) (fun r2 σ2 e2' h2 => ok_bd (store_ok (tp := tp - 1 - 1) h2 _ _) (fun r3 σ3 e3 h3 => ok_ret ?_)))
    rcases h3 with q | ⟨q1, q2, q3⟩
    · exact Or.inl q
    · exact stay σ3 (tp - 1 - 1) (kp_trans (kp_trans (kp_pop e) (kp_pop e2')) (kp_store e3)) (q3.trans ((fr_X8_pop rfl e2').trans (fr_X8_pop rfl e))) q1 (by omega) (by omega) (by omega)
  have nk : ∀ m : Nat, ¬ nI k = nI m → k ≠ m := fun m q z => q (by rw [z])
  have m0 := nk 0 n0
  have m1 := nk 1 n1
  have m2 := nk 2 n2
  have m9 := nk 9 n9
  have m10 := nk 10 n10
  have m11 := nk 11 n11
  have m12 := nk 12 n12
  have m13 := nk 13 n13
  have m14 := nk 14 n14
  have m15 := nk 15 n15
  have m16 := nk 16 n16
  have m17 := nk 17 n17
  have e12 : tkN ar k y = 2 ∧ ptN k = 1 := by
    rcases (show k = 3 ∨ k = 4 ∨ k = 5 ∨ k = 6 ∨ k = 7 ∨ k = 8 by omega) with rfl | rfl | rfl | rfl | rfl | rfl <;> exact ⟨rfl, rfl⟩
  obtain ⟨e1, e2⟩ := e12
  refine ok_bd (pop_ok j4 (by omega) (by omega)) (fun r σ1 e h1 => ok_bd (pop_ok (tp := tp - 1) h1 (by omega) (by omega)) (fun r2 σ2 e2' h2 => ok_bd (work_ok (tp := tp - 1 - 1) h2 (by omega) _ _ _) (fun r3 σ3 e3 h3 => ok_ret ?_)))
  rcases h3 with q | ⟨q1, q2, q3⟩
  · exact Or.inl q
  · exact stay σ3 (tp - 1 - 1 + 1) (kp_trans (kp_trans (kp_pop e) (kp_pop e2')) (kp_work e3)) (q3.trans ((fr_X8_pop rfl e2').trans (fr_X8_pop rfl e))) q1 (by omega) (by omega) (by omega)
theorem si_SJ {σ : Sg} {F : Nat} {st le : Nat → Nat} {h : Nat} {fn nx bt : Nat → Nat} {tp : Nat} (hS : SI σ F st le h fn nx bt tp) (h0 : 0 < h) (x : Int32) :
    SJ (sg (sg σ 45 5 x) 48 (h - 1) (nI (nx (h - 1) + 1))) F st le h fn nx bt (fn (h - 1)) (nx (h - 1)) tp := by
  obtain ⟨s1, s2, s3, s4, s5, s6, s7, s8⟩ := hS
  obtain ⟨t1, t2, t3, t4⟩ := s6 h0
  refine ⟨(sg_c (by decide)).trans ((sg_ne (by decide)).trans s1), h0, s2, (sg_c (by decide)).trans ((sg_ne (by decide)).trans s3), rfl, fun r hr => ?_, fun r hr => ?_, t2, t3, ?_, sg_at _ _ _ _, s8⟩
  · obtain ⟨p1, p2, p3, p4⟩ := s4 r hr
    exact ⟨p1, (sg_c (by decide)).trans ((sg_c (by decide)).trans p2), (sg_c (by decide)).trans ((sg_c (by decide)).trans p3), p4⟩
  · obtain ⟨p1, p2, p3, p4⟩ := s5 r hr
    exact ⟨(sg_ne (by omega)).trans ((sg_c (by decide)).trans p1), p2, p3, (sg_c (by decide)).trans ((sg_c (by decide)).trans p4)⟩
  · exact (sg_c (by decide)).trans ((sg_c (by decide)).trans t4)
/-- the program's cells -/
def Pg (σ σ' : Sg) : Prop := (∀ c j, 1 ≤ c → c ≤ 8 → σ' c j = σ c j)
theorem pg_PI {σ σ' : Sg} {F Wd : Nat} {ar lo st le : Nat → Nat} (h : Pg σ σ') (k : PI σ F Wd ar lo st le) : PI σ' F Wd ar lo st le := by
  obtain ⟨h1, h2, h3, h4, h5, h6, h7, h8, h9⟩ := k
  exact ⟨(h 1 7 (by omega) (by omega)).trans h1, h2, (h 1 8 (by omega) (by omega)).trans h3, h4, fun f hf => (h 2 f (by omega) (by omega)).trans (h5 f hf), fun f hf => (h 3 f (by omega) (by omega)).trans (h6 f hf), fun f hf => (h 4 f (by omega) (by omega)).trans (h7 f hf), fun f hf => (h 5 f (by omega) (by omega)).trans (h8 f hf), h9⟩
theorem pg_WF {σ σ' : Sg} {F : Nat} {ar lo st le : Nat → Nat} {f : Nat} (h : Pg σ σ') (k : WF σ F ar lo st le f) : WF σ' F ar lo st le f := by
  refine ⟨(h 8 _ (by omega) (by omega)).trans k.1, fun w hw => ?_⟩
  rcases k.2 w hw with p | p
  · exact Or.inl ((h 8 _ (by omega) (by omega)).trans p)
  · exact Or.inr (WW_same (fun j => h 6 j (by omega) (by omega)) (fun j => h 7 j (by omega) (by omega)) (fun j => h 8 j (by omega) (by omega)) p)
