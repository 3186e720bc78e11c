theorem pg_mk {σ σ' : Sg} (h1 : ∀ j, σ' 1 j = σ 1 j) (h2 : ∀ j, σ' 2 j = σ 2 j) (h3 : ∀ j, σ' 3 j = σ 3 j) (h4 : ∀ j, σ' 4 j = σ 4 j) (h5 : ∀ j, σ' 5 j = σ 5 j) (h6 : ∀ j, σ' 6 j = σ 6 j) (h7 : ∀ j, σ' 7 j = σ 7 j) (h8 : ∀ j, σ' 8 j = σ 8 j) : Pg σ σ' := by
  intro c j a b
  rcases (show c = 1 ∨ c = 2 ∨ c = 3 ∨ c = 4 ∨ c = 5 ∨ c = 6 ∨ c = 7 ∨ c = 8 by omega) with rfl | rfl | rfl | rfl | rfl | rfl | rfl | rfl
  · exact h1 j
  · exact h2 j
  · exact h3 j
  · exact h4 j
  · exact h5 j
  · exact h6 j
  · exact h7 j
  · exact h8 j
theorem pg_trans {σ σ1 σ2 : Sg} (h : Pg σ σ1) (k : Pg σ1 σ2) : Pg σ σ2 := fun c j a b => (k c j a b).trans (h c j a b)
theorem turn1_ok {N n : Nat} (hN : 1000 ≤ N) {σ : Sg} {F Wd : Nat} {ar lo st le : Nat → Nat} (hp : PI σ F Wd ar lo st le) (hle : ∀ f, f < F → 0 < le f) (hW : ∀ f, f < F → WF σ F ar lo st le f) {h : Nat} {fn nx bt : Nat → Nat} {tp : Nat} (hS : SI σ F st le h fn nx bt tp) (h0 : 0 < h) {P : Int32 × Sg → Prop} {R : Sg → Option (Int32 × Sg)} (hR : ∀ σ1, SE F st le σ1 → Pg σ σ1 → Ok (R σ1) P) :
    Ok (bd (f_X4_room_X8 N n σ) (fun r4 σ5 => gb r4 30 (gb r4 30 (gb r4 30 (gb r4 30 (bd (f_X8_step N n (sg (sg σ5 45 5 ((σ5 45 5) + 1)) 48 (ix r4) ((σ5 48 (ix r4)) + 1)) (σ5 47 (ix r4)) (((σ5 48 (ix r4)) + 1) - 1)) (fun _ σ12 => R σ12))))))) P := by
  have hS0 := hS
  obtain ⟨s1, s2, s3, s4, s5, s6, s7, s8⟩ := hS
  obtain ⟨t1, t2, t3, t4⟩ := s6 h0
  obtain ⟨u1, u2, u3, u4⟩ := s4 (h - 1) (by omega)
  have hp' := hp
  obtain ⟨-, -, -, g4, -, -, -, -, g9, -⟩ := hp
  have q9 := g9 (fn (h - 1)) u1
  rw [room_eq s1 h0, bd_s, gb_nI (show h - 1 < 30 by omega) (by decide), gb_nI (show h - 1 < 30 by omega) (by decide), gb_nI (show h - 1 < 30 by omega) (by decide), gb_nI (show h - 1 < 30 by omega) (by decide), ix_nI (k := h - 1) (by omega), t1, u2, ad_nl (nx (h - 1)) 1]
  rw [show nI (nx (h - 1) + OfNat.ofNat 1) - 1 = nI (nx (h - 1)) from (sb_nl (k := 1) (show 1 ≤ nx (h - 1) + 1 by omega)).trans (congrArg nI (show nx (h - 1) + 1 - 1 = nx (h - 1) by omega))]
  have hG : Pg σ (sg (sg σ 45 5 (σ 45 5 + 1)) 48 (h - 1) (nI (nx (h - 1) + 1))) := fun c j a b => (sg_c (by omega)).trans (sg_c (by omega))
  refine ok_bd (step_ok hN (pg_PI hG hp') hle (fun f hf => pg_WF hG (hW f hf)) (si_SJ hS0 h0 (σ 45 5 + 1))) (fun r σ1 e h1 => hR σ1 h1 (pg_trans hG (pg_mk (fun _ => fr_X8_step rfl e) (fun _ => fr_X8_step rfl e) (fun _ => fr_X8_step rfl e) (fun _ => fr_X8_step rfl e) (fun _ => fr_X8_step rfl e) (fun _ => fr_X8_step rfl e) (fun _ => fr_X8_step rfl e) (fun _ => fr_X8_step rfl e))))
theorem goOn_ok {N n : Nat} (hN : 1000 ≤ N) {F Wd : Nat} {ar lo st le : Nat → Nat} (hF : 0 < F) (hle : ∀ f, f < F → 0 < le f) {m : Nat} (hm : m ≤ 20000) :
    ∀ (k v : Nat) (σ : Sg), v ≤ m → m < v + k → PI σ F Wd ar lo st le → (∀ f, f < F → WF σ F ar lo st le f) → SE F st le σ → Ok (lf_X4_goOn_X8_2 N n (nI m) (fun σ27 _ => some (σ27 45 3, σ27)) k σ (nI v)) (fun y => SE F st le y.2) := by
  intro k
  induction k with
  | zero => intro v σ h1 h2; omega
  | succ k ih =>
    intro v σ h1 h2 hp hW hE
    show Ok (lb_X4_goOn_X8_2 N n (nI m) _ (lf_X4_goOn_X8_2 N n (nI m) _ k) σ (nI v)) _
    unfold lb_X4_goOn_X8_2
    refine ok_if (fun c => ok_ret hE) (fun c => ok_if (fun c2 => ?_) (fun _ => ok_ret hE))
    rw [le_nn (by omega) (by omega)] at c
    rw [ad_nl v 1]
    have next : ∀ σ1, SE F st le σ1 → Pg σ σ1 → Ok (lf_X4_goOn_X8_2 N n (nI m) (fun σ27 _ => some (σ27 45 3, σ27)) k σ1 (nI (v + 1))) (fun y => SE F st le y.2) := fun σ1 hs hg => ih (v + 1) σ1 (by omega) (by omega) (pg_PI hg hp) (fun f hf => pg_WF hg (hW f hf)) hs
    obtain ⟨h, fn, nx, bt, tp, hS⟩ := hE.resolve_left (fun q => q c2)
    have hS0 := hS
    obtain ⟨s1, s2, s3, s4, s5, s6, s7, s8⟩ := hS
    refine ok_if (fun c3 => ?_) (fun c3 => ?_)
    · have hz : h = 0 := by rw [s1] at c3; exact (nI_eq (a := h) (b := 0) (by omega) (by decide)).mp c3
      refine ok_bd (enter_ok hN hp (g := 0) (h := h) (fn := fn) (nx := nx) (bt := bt) (tp := tp) hF (hle 0 hF) (hW 0 hF).1 s1 s2 s3 s4 s5 (fun q => by omega) s7) (fun r σ1 e h1 => ?_)
      obtain ⟨hE1, h30⟩ := h1
      obtain ⟨e3, e7⟩ := h30 (by omega)
      have e3 : σ1 45 3 = σ 45 3 := e3
      have e7 : σ1 45 7 = nI (h + 1) := e7
      have hE1 : SE F st le σ1 := hE1
      obtain ⟨h', fn', nx', bt', tp', hS1⟩ := hE1.resolve_left (fun q => q (e3.trans c2))
      have hh : h' = h + 1 := (nI_eq (by have := hS1.2.1; omega) (by omega)).mp (hS1.1.symm.trans e7)
      have hg : Pg σ σ1 := pg_mk (fun _ => fr_X4_enter_X8 rfl e) (fun _ => fr_X4_enter_X8 rfl e) (fun _ => fr_X4_enter_X8 rfl e) (fun _ => fr_X4_enter_X8 rfl e) (fun _ => fr_X4_enter_X8 rfl e) (fun _ => fr_X4_enter_X8 rfl e) (fun _ => fr_X4_enter_X8 rfl e) (fun _ => fr_X4_enter_X8 rfl e)
      exact turn1_ok hN (pg_PI hg hp) hle (fun f hf => pg_WF hg (hW f hf)) hS1 (by omega) (fun σ2 hs hg2 => next σ2 hs (pg_trans hg hg2))
    · have hz : 0 < h := Nat.pos_of_ne_zero (fun q => c3 (by rw [s1, q]; rfl))
      exact turn1_ok hN hp hle hW hS0 hz next
