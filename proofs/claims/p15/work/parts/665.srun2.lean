/-- main begins on both sides -/
theorem main_enter {N n : Nat} (hN : 1000 ≤ N) {σ τ : Sg} {F Wd : Nat} {ar lo st le : Nat → Nat} (hR : Rl σ τ F Wd ar lo st le) (hF : 0 < F) (hX : XS σ τ) (h7 : σ 45 7 = nI 0) (h12 : σ 45 12 = nI 0) (hz : ∀ k, k < 6 → τ 100 k = 0) :
    ∃ σ' τ', f_X4_enter_X8 N n σ 0 = some (0, σ') ∧ f_X12_enters N n τ 0 0 = some (0, τ') ∧ XS σ' τ' ∧ XC σ' τ' lo ∧ σ' 45 3 = σ 45 3 ∧ Pg σ σ' ∧ Rl σ' τ' F Wd ar lo st le := by
  have hp := hR.1
  have hp' := hp
  obtain ⟨g1, g2, g3, g4, g5, g6, g7, g8, g9, g10, g11⟩ := hp'
  have q9 := g9 0 hF
  obtain ⟨σ', ce, c7, c12, c6, c47, c48, c51, c49, c49n, cc⟩ := center_eq (N := N) (n := n) (σ := σ) hN hp (h := 0) (tp := 0) (A := 0) (g := 0) hF h7 (by omega) h12 (by omega) (by rw [if_pos rfl]) (by omega)
  obtain ⟨τ', re, r93, r92, r94, r95, r97, r96n, r96l, r96u, rc⟩ := enters_eq (N := N) (n := n) hN hR.2.1 (m := 0) (h := 0) (g := 0) (by decide) hF (hX.2.2.2.2.1.trans h7) (by omega)
  have rc2 : ∀ c j, c ≠ 96 → c ≠ 98 → c ≠ 99 → c ≠ 93 → c ≠ 92 → c ≠ 94 → c ≠ 95 → c ≠ 97 → τ' c j = τ c j := fun c j a1 a2 a3 a4 a5 a6 a7 a8 => rc c j a1 a2 a3 (by omega) (by omega) (by omega)
  obtain ⟨x1, x2, x3, x4, x5, x6⟩ := hX
  have hg : Pg σ σ' := fun c j _ b => cc c j (by omega) (by omega) (by omega) (by omega) (by omega)
  refine ⟨σ', τ', ce, re, ⟨?_, ?_, ?_, ?_, ?_, fun k hk => ?_⟩, ?_, cc 45 3 (by decide) (by decide) (by decide) (by decide) (by omega), hg, pg_PI hg hp, pr_same hR.2.1 (fun j _ => rc2 59 j (by decide) (by decide) (by decide) (by decide) (by decide) (by decide) (by decide) (by decide)) (fun c j _ b => rc2 c j (by omega) (by omega) (by omega) (by omega) (by omega) (by omega) (by omega) (by omega)), fun j hj => ?_⟩
  · rw [rc2 89 0 (by decide) (by decide) (by decide) (by decide) (by decide) (by decide) (by decide) (by decide), cc 45 3 (by decide) (by decide) (by decide) (by decide) (by omega)]; exact x1
  · rw [rc2 90 0 (by decide) (by decide) (by decide) (by decide) (by decide) (by decide) (by decide) (by decide), cc 45 4 (by decide) (by decide) (by decide) (by decide) (by omega)]; exact x2
  · rw [rc2 91 0 (by decide) (by decide) (by decide) (by decide) (by decide) (by decide) (by decide) (by decide), cc 45 5 (by decide) (by decide) (by decide) (by decide) (by omega)]; exact x3
  · rw [r92, c6, x4]
  · rw [r93, c7]
  · rw [rc2 88 k (by decide) (by decide) (by decide) (by decide) (by decide) (by decide) (by decide) (by decide), cc 46 k (by decide) (by decide) (by decide) (by decide) (by omega)]; exact x6 k hk
  · rw [xc_iff (h := 1) (fn := fun _ => 0) (bt := fun _ => 0) (tp := 0) c7 (by omega) c12 (by omega) (fun r hr => ?_)]
    · intro r hr
      obtain rfl : r = 0 := by omega
      rw [if_neg (by omega)]
      refine ⟨r94, ?_, r97, by omega, fun k hk => ?_, fun i hi => by omega⟩
      · rw [c48, if_pos rfl]; exact r95
      · have hk : k < lo 0 := hk
        have e1 := r96n rfl k (by omega)
        have e2 := c49n k (by omega)
        rw [if_neg (by omega)] at e2
        have e1 : τ' 96 (24 * 0 + k) = 0 := by
          rw [e1]
          by_cases z : k < ar 0
          · rw [if_pos z]; exact hz k (by omega)
          · rw [if_neg z]
        have e2 : σ' 49 (10 * 0 + k) = 0 := e2
        rw [e1, e2]
    · obtain rfl : r = 0 := by omega
      exact ⟨by rw [c47, if_pos rfl], by omega, by rw [c51, if_pos rfl], by omega⟩
  · rw [rc2 64 j (by decide) (by decide) (by decide) (by decide) (by decide) (by decide) (by decide) (by decide), rc2 65 j (by decide) (by decide) (by decide) (by decide) (by decide) (by decide) (by decide) (by decide), hg 6 j (by decide) (by decide), hg 7 j (by decide) (by decide)]
    exact hR.2.2 j hj
theorem rl_frames {σ σ' τ τ' : Sg} {F Wd : Nat} {ar lo st le : Nat → Nat} (h : Rl σ τ F Wd ar lo st le) (hg : Pg σ σ') (hr : ∀ c j, ¬ (c = 59 ∧ j = 0) → c ≤ 66 → 59 ≤ c → τ' c j = τ c j) : Rl σ' τ' F Wd ar lo st le := by
  refine ⟨pg_PI hg h.1, pr_same h.2.1 (fun j q => hr 59 j (by omega) (by decide) (by decide)) (fun c j a b => hr c j (by omega) (by omega) (by omega)), fun j hj => ?_⟩
  rw [hr 64 j (by omega) (by decide) (by decide), hr 65 j (by omega) (by decide) (by decide), hg 6 j (by decide) (by decide), hg 7 j (by decide) (by decide)]
  exact h.2.2 j hj
theorem run_rel {N n : Nat} (hN : 1000 ≤ N) {F Wd : Nat} {ar lo st le : Nat → Nat} (hF : 0 < F) (hle : ∀ f, f < F → 0 < le f) {m : Nat} (hm : m ≤ 20000) :
    ∀ (k v : Nat) (σ τ : Sg), v ≤ m → m < v + k → Rl σ τ F Wd ar lo st le → (∀ f, f < F → WF σ F ar lo st le f) → SE F st le σ → XR σ τ lo →
      Ok2 (lf_X4_goOn_X8_2 N n (nI m) (fun σ27 _ => some (σ27 45 3, σ27)) k σ (nI v)) (lf_X12_run_2 N n 0 (nI m) (fun σ11 _ => gb 0 2 (some (σ11 89 (ix 0), σ11))) k τ (nI v)) (fun a b => a.1 = b.1 ∧ XR a.2 b.2 lo) := by
  intro k
  induction k with
  | zero => intro v σ τ h1 h2; omega
  | succ k ih =>
    intro v σ τ h1 h2 hR hW hE hXR
    show Ok2 (lb_X4_goOn_X8_2 N n (nI m) _ (lf_X4_goOn_X8_2 N n (nI m) _ k) σ (nI v)) (lb_X12_run_2 N n 0 (nI m) _ (lf_X12_run_2 N n 0 (nI m) _ k) τ (nI v)) _
    unfold lb_X4_goOn_X8_2 lb_X12_run_2
    have hX := hXR.1
    have fin : Ok2 (some (σ 45 3, σ)) (gb 0 2 (some (τ 89 (ix 0), τ))) (fun a b => a.1 = b.1 ∧ XR a.2 b.2 lo) := by
      rw [g_02, i_0]
      exact o2_ret ⟨hX.1.symm, hXR⟩
    refine o2_if Iff.rfl (fun _ => fin) (fun c => ?_)
    rw [le_nn (by omega) (by omega)] at c
    rw [g_02, i_0, hX.1, ad_nl v 1]
    refine o2_if Iff.rfl (fun c2 => ?_) (fun _ => fin)
    rw [if_pos (show (0 : Int32) = 0 from rfl)]
    -- one STEP and then the rest
    have go : ∀ (σ1 τ1 : Sg) (q : Nat) (fn nx bt : Nat → Nat) (tp : Nat), Pg σ σ1 → Rl σ1 τ1 F Wd ar lo st le → SI σ1 F st le (q + 1) fn nx bt tp → XS σ1 τ1 → XC σ1 τ1 lo → σ1 45 3 = 0 →
        Ok2 (bd (f_X4_room_X8 N n σ1) (fun r17 σ18 => gb r17 30 (gb r17 30 (gb r17 30 (gb r17 30 (bd (f_X8_step N n (sg (sg σ18 45 5 ((σ18 45 5) + 1)) 48 (ix r17) ((σ18 48 (ix r17)) + 1)) (σ18 47 (ix r17)) (((σ18 48 (ix r17)) + 1) - 1)) (fun _ σ25 => lf_X4_goOn_X8_2 N n (nI m) (fun σ27 _ => some (σ27 45 3, σ27)) k σ25 (nI (v + 1))))))))) (bd (rS N n τ1) (fun _ σ9 => lf_X12_run_2 N n 0 (nI m) (fun σ11 _ => gb 0 2 (some (σ11 89 (ix 0), σ11))) k σ9 (nI (v + 1)))) (fun a b => a.1 = b.1 ∧ XR a.2 b.2 lo) := by
      intro σ1 τ1 q fn nx bt tp hg1 hR1 hS hX1 hC1 h31
      have hW1 := fun f hf => pg_WF hg1 (hW f hf)
      have hS0 := hS
      obtain ⟨s1, s2, s3, s4, s5, s6, s7, s8⟩ := hS
      obtain ⟨t1, t2, t3, t4⟩ := s6 (by omega)
      rw [show q + 1 - 1 = q by omega] at t1 t2 t3 t4
      obtain ⟨u1, u2, u3, u4⟩ := s4 q (by omega)
      have q9 := hR1.1.2.2.2.2.2.2.2.2.1 (fn q) u1
      have hWd := hR1.1.2.2.2.1
      rw [roomq s1, bd_s, gb_nI (show q < 30 by omega) (by decide), gb_nI (show q < 30 by omega) (by decide), gb_nI (show q < 30 by omega) (by decide), gb_nI (show q < 30 by omega) (by decide), ix_nI (k := q) (by omega), t1, u2, ad_nl (nx q) 1]
      have en' : nI (nx q + OfNat.ofNat 1) - 1 = nI (nx q) := (sb_nl (k := 1) (show 1 ≤ nx q + 1 by omega)).trans (congrArg nI (show nx q + 1 - 1 = nx q by omega))
      rw [en']
      obtain ⟨⟨ra, σ2⟩, ⟨rb, τ2⟩, z1, z2, hsp, hE2⟩ := one_rel (N := N) (n := n) hN hR1 hle hW1 hS0 hX1 hC1 h31
      have z1 : f_X8_step N n (sg (sg σ1 45 5 (σ1 45 5 + 1)) 48 q (nI (nx q + OfNat.ofNat 1))) (nI (fn q)) (nI (nx q)) = some (ra, σ2) := z1
      rw [z1, z2, bd_s, bd_s]
      have hg2 : Pg σ1 σ2 := fun c j a b => (fr_X8_step (nt_hi (m := 8) (by decide) (by decide) b) z1).trans ((sg_c (by omega)).trans (sg_c (by omega)))
      have hr2 : ∀ c j, ¬ (c = 59 ∧ j = 0) → c ≤ 66 → 59 ≤ c → τ2 c j = τ1 c j := fun c j _ b _ => by
        have e3 : f_X12_stepStack N n τ1 = some (rb, τ2) := by
          rw [rs_def, g_02, i_0, if_neg (show ¬ τ1 93 0 = 0 by rw [hX1.2.2.2.2.1, s1]; exact nI_ne0 (by omega) (by omega))]
          exact z2
        exact fr_X12_stepStack (nt_hi (m := 66) (by decide) (by decide) b) e3
      obtain ⟨hXS2, hsp2⟩ := hsp
      exact ih (v + 1) σ2 τ2 (by omega) (by omega) (rl_frames hR1 hg2 hr2) (fun f hf => pg_WF hg2 (hW1 f hf)) hE2 ⟨hXS2, fun q => ⟨(hsp2 q).1, fun z => absurd z (hsp2 q).2⟩⟩
    obtain ⟨hC, hpass⟩ := hXR.2 c2
    obtain ⟨h, fn, nx, bt, tp, hS⟩ := hE.resolve_left (fun q => q c2)
    have hS0 := hS
    obtain ⟨s1, s2, s3, s4, s5, s6, s7, s8⟩ := hS
    rw [rs_def, g_02, i_0, hX.2.2.2.2.1]
    by_cases c3 : σ 45 7 = 0
    · rw [if_pos c3, if_pos c3]
      have hz : h = 0 := by rw [s1] at c3; exact (nI_eq (a := h) (b := 0) (by omega) (by decide)).mp c3
      subst hz
      obtain ⟨σ1, τ1, e1, e2, hX1, hC1, h31, hg1, hR1⟩ := main_enter (N := N) (n := n) hN hR hF hX s1 (by rw [s3, s7 rfl]) (hpass c3)
      rw [e1, e2, bd_s, bd_s]
      obtain ⟨⟨rx, σx⟩, ex, hE1, h30⟩ := enter_ok (N := N) (n := n) hN hR.1 (g := 0) (h := 0) (fn := fn) (nx := nx) (bt := bt) (tp := tp) hF (hle 0 hF) (hW 0 hF).1 s1 s2 s3 s4 s5 (fun q => by omega) s7
      have ex : f_X4_enter_X8 N n σ 0 = some (rx, σx) := ex
      rw [e1] at ex
      cases ex
      obtain ⟨-, e7⟩ := h30 (by omega)
      have e7 : σ1 45 7 = nI 1 := e7
      have hE1 : SE F st le σ1 := hE1
      obtain ⟨h', fn', nx', bt', tp', hS1⟩ := hE1.resolve_left (fun q => q (h31.trans c2))
      have hh : h' = 0 + 1 := (nI_eq (by have := hS1.2.1; omega) (by omega)).mp (hS1.1.symm.trans e7)
      subst hh
      exact go σ1 τ1 0 fn' nx' bt' tp' hg1 hR1 hS1 hX1 hC1 (h31.trans c2)
    · rw [if_neg c3, if_neg c3]
      obtain ⟨q, rfl⟩ : ∃ q, h = q + 1 := ⟨h - 1, by
        have : h ≠ 0 := fun z => c3 (by rw [s1, z]; rfl)
        omega⟩
      exact go σ τ q fn nx bt tp (fun _ _ _ _ => rfl) hR hS0 hX hC c2
/-- the class's runStack and the reference's -/
theorem runStack_rel {N n : Nat} (hN : 30000 ≤ N) {σ τ : Sg} {F Wd : Nat} {ar lo st le : Nat → Nat} (hR : Rl σ τ F Wd ar lo st le) (hck : τ 59 10 = σ 1 9) (hW : σ 1 9 = 1 → 0 < F ∧ (∀ f, f < F → 0 < le f) ∧ ∀ f, f < F → WF σ F ar lo st le f) (h01 : σ 1 9 = 0 ∨ σ 1 9 = 1) (hE : σ 1 9 = 1 → SE F st le σ) (hX : XR σ τ lo) (x : Int32) :
    Ok2 (f_X11_runStack N n σ x) (f_X12_runStack N n τ x) (fun a b => a.1 = b.1 ∧ XR a.2 b.2 lo) := by
  have hX0 : XR σ (sg τ 59 0 0) lo := by
    obtain ⟨⟨x1, x2, x3, x4, x5, x6⟩, h2⟩ := hX
    refine ⟨⟨(sg_c (by decide)).trans x1, (sg_c (by decide)).trans x2, (sg_c (by decide)).trans x3, (sg_c (by decide)).trans x4, (sg_c (by decide)).trans x5, fun k hk => (sg_c (by decide)).trans (x6 k hk)⟩, fun q => ⟨fun r hr => ?_, fun z k hk => (sg_c (by decide)).trans ((h2 q).2 z k hk)⟩⟩
    obtain ⟨a1, a2, a3, a4, a5, a6⟩ := (h2 q).1 r hr
    exact ⟨(sg_c (by decide)).trans a1, (sg_c (by decide)).trans a2, (sg_c (by decide)).trans a3, a4, fun k hk => (sg_c (by decide)).trans (a5 k hk), fun i hi => (sg_c (by decide)).trans (a6 i hi)⟩
  unfold f_X11_runStack f_X12_runStack
  rw [hck]
  refine o2_if Iff.rfl (fun _ => o2_ret ⟨rfl, hX0⟩) (fun c1 => o2_if Iff.rfl (fun _ => o2_ret ⟨rfl, hX0⟩) (fun c2 => ?_))
  have q1 := h01.resolve_left c1
  obtain ⟨w1, w2, w3⟩ := hW q1
  rcases cs_n x with q | ⟨m, hm, rfl⟩
  · exact absurd (Int32.lt_iff_toInt_lt.mpr (by
      have q1 := Int32.lt_iff_toInt_lt.mp q
      have q2 : (0 : Int32).toInt = 0 := by decide
      have q3 : (1 : Int32).toInt = 1 := by decide
      omega)) c2
  · have e20 : (nI m ≤ 20000) = (m ≤ 20000) := le_nl (k := 20000) (by omega) (by decide)
    refine o2_if Iff.rfl (fun c3 => ?_) (fun _ => o2_ret ⟨rfl, hX0⟩)
    rw [e20] at c3
    unfold f_X4_goOn_X8 f_X12_run
    exact o2_bd (run_rel (by omega) w1 w2 c3 N 0 σ (sg τ 59 0 0) (by omega) (by omega) (rl_thrown hR 0) w3 (hE q1) hX0) (fun ra σ1 rb τ1 _ _ hh => o2_ret hh)
