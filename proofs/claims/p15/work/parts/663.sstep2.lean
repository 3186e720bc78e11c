theorem cell_rel {N n : Nat} (σ τ : Sg) (x : Int32) : (∃ j, j < 64 ∧ x = nI j ∧ f_X4_hasCell_X8 N n σ x = some (1, σ) ∧ f_X12_isCell N n τ x = some (1, τ)) ∨ (f_X4_hasCell_X8 N n σ x = some (0, sg (sg σ 45 3 3) 45 7 0) ∧ f_X12_isCell N n τ x = some (0, τ)) := by
  unfold f_X4_hasCell_X8 f_X12_isCell
  rcases cs_n x with q | ⟨k, hk, rfl⟩
  · exact Or.inr ⟨by rw [if_pos q, finish_eq, bd_s], if_pos q⟩
  · rw [if_neg (nI_pos hk), if_neg (nI_pos hk)]
    have f64 : ((64 : Int32) ≤ nI k) = (64 ≤ k) := le_ln (k := 64) (by omega) (by decide)
    by_cases c : k < 64
    · have z : ¬ (64 : Int32) ≤ nI k := by rw [f64]; omega
      exact Or.inl ⟨k, c, rfl, if_neg z, if_neg z⟩
    · have z : (64 : Int32) ≤ nI k := by rw [f64]; omega
      exact Or.inr ⟨by rw [if_pos z, finish_eq, bd_s], if_pos z⟩
theorem step_rel {N n : Nat} (hN : 1000 ≤ N) {σ τ τ1 : Sg} {F Wd : Nat} {ar lo st le : Nat → Nat} (hp : PI σ F Wd ar lo st le) (hr : PR τ1 F Wd ar lo st le) (hrow : ∀ j, j < Wd → τ1 64 j = σ 6 j ∧ τ1 65 j = σ 7 j) {q f w s : Nat} {fn bt : Nat → Nat} (hf : f < F) (hw : w < le f) (hW : WW σ F ar lo st le f w) (hs8 : σ 8 (st f + w) = nI s) (hs12 : s ≤ 12) (hfn : fn q = f) (hX : XS σ τ1) (h3 : σ 45 3 = 0) (h7 : σ 45 7 = nI (q + 1)) (hL : LFr σ τ1 lo q fn bt) (hT : TF σ τ1 q (lo f) (bt q) s) (h48 : σ 48 q = nI (w + 1)) (h95 : τ 95 q = nI w) (e1 : τ1 = sg (sg τ 95 q (nI (w + 1))) 91 0 (τ 91 0 + 1)) (hdep : ∀ r, r < q → bt (r + 1) - bt r + 1 ≤ 12) :
    Ok2 (f_X8_step N n σ (nI f) (nI w)) (rS N n τ) (SP lo) := by
  have hp0 := hp
  obtain ⟨g1, g2, g3, g4, g5, g6, g7, g8, g9, g10, g11⟩ := hp
  have q9 := g9 f hf
  have hT0 := hT
  obtain ⟨hfr, t2, t3, t4, t5, t6⟩ := hT
  obtain ⟨k, y, d, hk, hd, ho, hdw, ht, hb, c1, c2, c3, c4⟩ := hW
  have ed : d = s := (nI_eq (by omega) (by omega)).mp (hdw.symm.trans hs8)
  subst ed
  have hp2 := ptN_le hk
  have tc : ∀ c j, ¬ (c = 95 ∧ j = q) → ¬ (c = 91 ∧ j = 0) → τ c j = τ1 c j := fun c j a b => by rw [e1, sg_o (by omega), sg_o (by omega)]
  have h951 : τ1 95 q = nI (w + 1) := by rw [e1, sg_c (by decide)]; exact sg_at _ _ _ _
  obtain ⟨w64, w65⟩ := hrow (st f + w) (by omega)
  have t93 : τ 93 0 = nI (q + 1) := (tc 93 0 (by omega) (by omega)).trans t3
  have eq1 : nI (q + 1) - 1 = nI q := (sb_nl (k := 1) (show 1 ≤ q + 1 by omega)).trans (congrArg nI (show q + 1 - 1 = q by omega))
  have ixq : ix (nI q) = q := ix_nI (by omega)
  have ixf : ix (nI f) = f := ix_nI (by omega)
  have ixk : ix (nI (st f + w)) = st f + w := ix_nI (by omega)
  have t94 : τ 94 q = nI f := (tc 94 q (by omega) (by omega)).trans (by rw [← hfn]; exact (hL.1 q (Nat.le_refl _)).2.2.2.2.2)
  have t62 : τ 62 f = nI (st f) := (tc 62 f (by omega) (by omega)).trans (hr.2.2.2.2.2.2.1 f hf)
  have c4' : σ 4 f = nI (st f) := g7 f hf
  have t64 : τ 64 (st f + w) = nI k := (tc 64 _ (by omega) (by omega)).trans (w64.trans ho)
  have t65 : τ 65 (st f + w) = σ 7 (st f + w) := (tc 65 _ (by omega) (by omega)).trans w65
  have gq60 : ∀ z : Option (Int32 × Sg), gb (nI q) 60 z = z := fun z => gb_nI (show q < 60 by omega) (by decide)
  have gf12 : ∀ z : Option (Int32 × Sg), gb (nI f) 12 z = z := fun z => gb_nI (show f < 12 by omega) (by decide)
  have gk300 : ∀ z : Option (Int32 × Sg), gb (nI (st f + w)) 300 z = z := fun z => gb_nI (show st f + w < 300 by omega) (by decide)
  have e1' : sg (sg τ 95 q (nI w + 1)) 91 0 (τ 91 0 + 1) = τ1 := by rw [e1, ad_nl w 1]
  have kk : ∀ (m : Nat), m < 2147483648 → nI k = nI m → k = m := fun m hm q => (nI_eq (by omega) hm).mp q
  have stay : ∀ (σ' τ' : Sg) (s' : Nat) (r r' : Int32), Kq σ σ' τ1 τ' q (bt q) → TF σ' τ' q (lo f) (bt q) s' → SP lo (r, σ') (r', τ') := by
    intro σ' τ' s' r r' hK hT'
    have e27 : σ' 45 7 = nI (q + 1) := (hK.1 45 7 (by decide) (by decide) (by decide)).trans h7
    refine ⟨xs_kq hX hK, fun _ => ⟨xc_top hL (kq_w hK) (by rw [hfn]; exact hT'.1) hT'.2.1 e27 t4 ?_, ?_⟩⟩
    · show τ' 95 q = σ' 48 q
      rw [hK.2.2.2.1 95 q (by decide) (by decide), hK.1 48 q (by decide) (by decide) (by omega), h48, h951]
    · show ¬ σ' 45 7 = 0
      rw [e27]; exact nI_ne0 (by omega) (by omega)
  have goes : ∀ (σ' τ' : Sg) (s' : Nat) (r r' v : Int32), Kq σ σ' τ1 τ' q (bt q) → TF σ' τ' q (lo f) (bt q) s' → SP lo (r, sg σ' 48 q v) (r', sg τ' 95 q v) := by
    intro σ' τ' s' r r' v hK hT'
    have e27 : σ' 45 7 = nI (q + 1) := (hK.1 45 7 (by decide) (by decide) (by decide)).trans h7
    obtain ⟨x1, x2, x3, x4, x5, x6⟩ := xs_kq hX hK
    obtain ⟨k1, k2, k3, k4, k5, k6, k7, k8⟩ := kq_w hK
    refine ⟨⟨?_, ?_, ?_, ?_, ?_, fun i hi => ?_⟩, fun _ => ⟨xc_top (σ' := sg σ' 48 q v) (τ' := sg τ' 95 q v) hL ⟨fun j => (sg_c (by decide)).trans (k1 j), fun j => (sg_c (by decide)).trans (k2 j), fun j hj => (sg_ne (by omega)).trans (k3 j hj), fun j hj => (sg_c (by decide)).trans (k4 j hj), fun j hj => (sg_c (by decide)).trans (k5 j hj), fun j => (sg_c (by decide)).trans (k6 j), fun j hj => ⟨(sg_ne (by omega)).trans (k7 j hj).1, (sg_c (by decide)).trans (k7 j hj).2⟩, fun j hj => (sg_c (by decide)).trans (k8 j hj)⟩ (s := s') ?_ ((sg_c (by decide)).trans hT'.2.1) ((sg_c (by decide)).trans e27) t4 ?_, ?_⟩⟩
    · simp (disch := decide) only [sg_c]; exact x1
    · simp (disch := decide) only [sg_c]; exact x2
    · simp (disch := decide) only [sg_c]; exact x3
    · simp (disch := decide) only [sg_c]; exact x4
    · simp (disch := decide) only [sg_c]; exact x5
    · simp (disch := decide) only [sg_c]; exact x6 i hi
    · rw [hfn]
      exact frm_same hT'.1 t5 (sg_c (by decide)) (fun _ _ => sg_c (by decide)) (fun _ _ => sg_c (by decide)) (fun _ _ => sg_c (by decide))
    · rw [sg_at, sg_at]
    · show ¬ sg σ' 48 q v 45 7 = 0
      rw [sg_c (by decide), e27]; exact nI_ne0 (by omega) (by omega)
  have popd : ∀ s', d = s' + 1 → Ok2 (f_X8_pop N n σ) (f_X12_pop N n τ1) (fun a b => a.1 = b.1 ∧ TF a.2 b.2 q (lo f) (bt q) s' ∧ Kq σ a.2 τ1 b.2 q (bt q)) := fun s' e => tf_pop (by rw [← e]; exact hT0)
  unfold f_X8_step rS
  simp only [g_02, i_0, t93, eq1, ixq, t94, ixf, t62, c4', h95, ad_nn, ixk, gq60, gf12, gk300, t64, t65, ho, e1']
  refine o2_if Iff.rfl (fun c => ?_) (fun n0 => ?_)
  · obtain rfl : k = 0 := kk 0 (by decide) c
    have e1 : tkN ar 0 y = 0 := rfl
    have e2 : ptN 0 = 1 := rfl
    exact o2_bd (tf_push hT0 (by omega) rfl) (fun r σ2 r' τ2 _ _ hh => o2_ret (stay σ2 τ2 _ _ _ hh.2 hh.1))
  refine o2_if Iff.rfl (fun c => ?_) (fun n1 => ?_)
  · obtain rfl : k = 1 := kk 1 (by decide) c
    have e1 : tkN ar 1 y = 0 := rfl
    have e2 : ptN 1 = 1 := rfl
    obtain ⟨y1, y2⟩ := c1 (by decide)
    rw [y2, roomq h7, bd_s, ml_nl q 10, ml_ln q 24, ad_nn, ad_nn]
    have i1 : q * OfNat.ofNat 10 + y = q * 10 + y := rfl
    have i2 : OfNat.ofNat 24 * q + y = 24 * q + y := rfl
    rw [i1, i2, gb_nI (show q * 10 + y < 300 by omega) (by decide), gb_nI (show 24 * q + y < 1440 by omega) (by decide), ix_nI (k := q * 10 + y) (by omega), ix_nI (k := 24 * q + y) (by omega)]
    refine o2_bd (tf_push hT0 (by omega) ?_) (fun r σ2 r' τ2 _ _ hh => o2_ret (stay σ2 τ2 _ _ _ hh.2 hh.1))
    rw [tc 96 _ (by omega) (by omega), hfr.2.2.1 y y1, Nat.mul_comm q 10]
  refine o2_if Iff.rfl (fun c => ?_) (fun n2 => ?_)
  · obtain rfl : k = 2 := kk 2 (by decide) c
    have e1 : tkN ar 2 y = 1 := rfl
    have e2 : ptN 2 = 0 := rfl
    obtain ⟨y1, y2⟩ := c1 (by decide)
    rw [y2, roomq h7, bd_s, ml_nl q 10, ml_ln q 24, ad_nn, ad_nn]
    have i1 : q * OfNat.ofNat 10 + y = q * 10 + y := rfl
    have i2 : OfNat.ofNat 24 * q + y = 24 * q + y := rfl
    rw [i1, i2]
    refine o2_bd (popd (d - 1) (by omega)) (fun r σ2 r' τ2 _ _ hh => ?_)
    obtain ⟨hx, hT2, hK2⟩ := hh
    have hx : r = r' := hx
    have hT2 : TF σ2 τ2 q (lo f) (bt q) (d - 1) := hT2
    have hK2 : Kq σ σ2 τ1 τ2 q (bt q) := hK2
    rw [gb_nI (show q * 10 + y < 300 by omega) (by decide), gb_nI (show 24 * q + y < 1440 by omega) (by decide), ix_nI (k := q * 10 + y) (by omega), ix_nI (k := 24 * q + y) (by omega), ← hx]
    obtain ⟨⟨u1, u2, u3, u4⟩, u5, u6, u7, u8, u9⟩ := hT2
    refine o2_ret (stay _ _ (d - 1) _ _ (kq_trans hK2 ⟨fun c j a b _ => sg_c a, fun j a => sg_ne (by omega), fun j a => sg_c (by decide), fun c j a b => sg_c a, fun j a => sg_ne (by omega), fun j a => sg_c (by decide)⟩) ⟨⟨(sg_c (by decide)).trans u1, u2, fun i hi => ?_, fun i hi => ?_⟩, (sg_c (by decide)).trans u5, (sg_c (by decide)).trans u6, u7, u8, u9⟩)
    · rw [sg_if, sg_if]
      by_cases e : i = y
      · rw [if_pos (by omega), if_pos (by omega)]
      · rw [if_neg (by omega), if_neg (by omega)]; exact u3 i hi
    · rw [sg_ne (by omega), sg_c (by decide)]; exact u4 i hi
  refine o2_if Iff.rfl (fun c => ?_) (fun n9 => ?_)
  · obtain rfl : k = 9 := kk 9 (by decide) c
    have e1 : tkN ar 9 y = 1 := rfl
    have e2 : ptN 9 = 2 := rfl
    have m1 : nI (bt q + d) - 1 = nI (bt q + d - 1) := sb_nl (k := 1) (show 1 ≤ bt q + d by omega)
    have t97 : τ 97 q = nI (lo f + d) := (tc 97 q (by omega) (by omega)).trans hfr.1
    have i2 : OfNat.ofNat 24 * q + (lo f + d) = 24 * q + (lo f + d) := rfl
    have m2 : nI (24 * q + (lo f + d)) - 1 = nI (24 * q + (lo f + d) - 1) := sb_nl (k := 1) (show 1 ≤ 24 * q + (lo f + d) by omega)
    rw [t2, m1, t97, ml_ln q 24, ad_nn, i2, m2, gb_nI (show bt q + d - 1 < 360 by omega) (by decide), gb_nI (show 24 * q + (lo f + d) - 1 < 1440 by omega) (by decide), ix_nI (k := bt q + d - 1) (by omega), ix_nI (k := 24 * q + (lo f + d) - 1) (by omega)]
    refine o2_bd (tf_push hT0 (by omega) ?_) (fun r σ2 r' τ2 _ _ hh => o2_ret (stay σ2 τ2 _ _ _ hh.2 hh.1))
    rw [tc 96 _ (by omega) (by omega), show 24 * q + (lo f + d) - 1 = 24 * q + lo f + (d - 1) by omega, hfr.2.2.2 (d - 1) (by omega), show bt q + (d - 1) = bt q + d - 1 by omega]
  refine o2_if Iff.rfl (fun c => ?_) (fun n10 => ?_)
  · obtain rfl : k = 10 := kk 10 (by decide) c
    have e1 : tkN ar 10 y = 2 := rfl
    have e2 : ptN 10 = 2 := rfl
    unfold f_X8_flip f_X12_swapTop
    refine o2_bd (P1 := SP lo) (o2_bd (popd (d - 1) (by omega)) (fun ra σ2 rb τ2 _ _ hh => ?_)) (fun _ σ2 _ τ2 _ _ hh => o2_ret hh)
    obtain ⟨hx, hT2, hK2⟩ := hh
    have hx : ra = rb := hx
    have hT2 : TF σ2 τ2 q (lo f) (bt q) (d - 1) := hT2
    have hK2 : Kq σ σ2 τ1 τ2 q (bt q) := hK2
    refine o2_bd (tf_pop (s := d - 1 - 1) (by rw [show d - 1 - 1 + 1 = d - 1 by omega]; exact hT2)) (fun rc σ3 rd τ3 _ _ hh => ?_)
    obtain ⟨hy, hT3, hK3⟩ := hh
    have hy : rc = rd := hy
    have hT3 : TF σ3 τ3 q (lo f) (bt q) (d - 1 - 1) := hT3
    have hK3 : Kq σ2 σ3 τ2 τ3 q (bt q) := hK3
    refine o2_bd (tf_push hT3 (by omega) hx) (fun _ σ4 _ τ4 _ _ hh => ?_)
    obtain ⟨hT4, hK4⟩ := hh
    have hT4 : TF σ4 τ4 q (lo f) (bt q) (d - 1 - 1 + 1) := hT4
    have hK4 : Kq σ3 σ4 τ3 τ4 q (bt q) := hK4
    refine o2_bd (tf_push hT4 (by omega) hy) (fun _ σ5 _ τ5 _ _ hh => o2_ret ?_)
    exact stay σ5 τ5 _ _ _ (kq_trans (kq_trans hK2 hK3) (kq_trans hK4 hh.2)) hh.1
  refine o2_if Iff.rfl (fun c => ?_) (fun n11 => ?_)
  · obtain rfl : k = 11 := kk 11 (by decide) c
    have e1 : tkN ar 11 y = 1 := rfl
    have e2 : ptN 11 = 0 := rfl
    have t97 : τ 97 q = nI (lo f + d) := (tc 97 q (by omega) (by omega)).trans hfr.1
    have m2 : nI (lo f + d) - 1 = nI (lo f + (d - 1)) := (sb_nl (k := 1) (show 1 ≤ lo f + d by omega)).trans (congrArg nI (show lo f + d - 1 = lo f + (d - 1) by omega))
    rw [t97, m2]
    obtain ⟨⟨ra, σ2⟩, ⟨rb, τ2⟩, z1, z2, hx, hT2, hK2⟩ := popd (d - 1) (by omega)
    rw [rpop_eq (q := q) (t := lo f + (d - 1)) t3 t4 (by rw [hfr.1]; exact congrArg nI (by omega)) (by omega)] at z2
    cases z2
    rw [z1, bd_s]
    exact o2_ret (stay σ2 _ _ _ _ hK2 hT2)
  refine o2_if Iff.rfl (fun c => ?_) (fun n12 => ?_)
  · obtain rfl : k = 12 := kk 12 (by decide) c
    have e1 : tkN ar 12 y = 0 := rfl
    have e2 : ptN 12 = 0 := rfl
    obtain ⟨y1, y2, y3⟩ := c2 (by decide)
    rw [y2, jumpq h7 t4, bd_s]
    exact o2_ret (goes σ τ1 d _ _ _ (kq_refl _ _ _ _) hT0)
  refine o2_if Iff.rfl (fun c => ?_) (fun n13 => ?_)
  · obtain rfl : k = 13 := kk 13 (by decide) c
    have e1 : tkN ar 13 y = 1 := rfl
    have e2 : ptN 13 = 0 := rfl
    obtain ⟨y1, y2, y3⟩ := c2 (by decide)
    rw [y2]
    refine o2_bd (popd (d - 1) (by omega)) (fun ra σ2 rb τ2 _ _ hh => ?_)
    obtain ⟨hx, hT2, hK2⟩ := hh
    have hx : ra = rb := hx
    have hT2 : TF σ2 τ2 q (lo f) (bt q) (d - 1) := hT2
    have hK2 : Kq σ σ2 τ1 τ2 q (bt q) := hK2
    refine o2_if (by rw [hx]) (fun _ => ?_) (fun _ => ?_)
    · rw [jumpq ((hK2.1 45 7 (by decide) (by decide) (by decide)).trans h7) t4, bd_s]
      exact o2_ret (goes σ2 τ2 (d - 1) _ _ _ hK2 hT2)
    · have e95 : sg τ2 95 q (τ2 95 q) = τ2 := by
        funext c j
        by_cases z : c = 95
        · subst z
          rw [sg_if]
          by_cases z2 : j = q
          · rw [if_pos z2, z2]
          · rw [if_neg z2]
        · exact sg_c z
      rw [e95]
      exact o2_ret (stay σ2 τ2 (d - 1) _ _ hK2 hT2)
  refine o2_if Iff.rfl (fun c => ?_) (fun n14 => ?_)
  · obtain rfl : k = 14 := kk 14 (by decide) c
    obtain ⟨y1, y2⟩ := c3 rfl
    have e1 : tkN ar 14 y = ar y := rfl
    rw [y2]
    exact o2_bd (call_rel hN hp0 hr hX h3 h7 hL hfn hT0 (h951.trans h48.symm) y1 (by omega)) (fun _ σ2 _ τ2 _ _ hh => o2_ret hh)
  refine o2_if Iff.rfl (fun c => ?_) (fun n15 => ?_)
  · obtain rfl : k = 15 := kk 15 (by decide) c
    have e1 : tkN ar 15 y = 1 := rfl
    have e2 : ptN 15 = 0 := rfl
    refine o2_bd (popd (d - 1) (by omega)) (fun ra σ2 rb τ2 _ _ hh => ?_)
    obtain ⟨hx, hT2, hK2⟩ := hh
    have hx : ra = rb := hx
    have hT2 : TF σ2 τ2 q (lo f) (bt q) (d - 1) := hT2
    have hK2 : Kq σ σ2 τ1 τ2 q (bt q) := hK2
    have hK0 := hK2
    obtain ⟨k1, k2, k3, k4, k5, k6⟩ := hK2
    have hL2 : LFr σ2 τ2 lo q fn bt := by
      refine ⟨fun r hr => ?_, fun r hr => ?_⟩
      · obtain ⟨d1, d2, d3, d4, d5, d6⟩ := hL.1 r hr
        exact ⟨(k1 47 r (by decide) (by decide) (by omega)).trans d1, d2, d3, (k1 51 r (by decide) (by decide) (by omega)).trans d4, d5, (k4 94 r (by decide) (by decide)).trans d6⟩
      · obtain ⟨d1, d2, d3⟩ := hL.2 r hr
        have mono := bt_mono (fun r hr => (hL.2 r hr).1) (q - (r + 1)) (r + 1) (by omega)
        exact ⟨d1, ((k4 95 r (by decide) (by decide)).trans d2).trans (k1 48 r (by decide) (by decide) (by omega)).symm, frm_same d3 (hL.1 r (by omega)).2.2.1 (k6 r (by omega)) (fun k hk => k5 _ (by omega)) (fun k hk => k2 _ (by omega)) (fun i hi => k3 _ (by omega))⟩
    exact o2_bd (leave_rel hx (xs_kq hX hK0) ((k1 45 3 (by decide) (by decide) (by decide)).trans h3) ((k1 45 7 (by decide) (by decide) (by decide)).trans h7) t4 hL2 hdep) (fun _ σ3 _ τ3 _ _ hh => o2_ret hh)
  have memo : ∀ (σ' τ' : Sg) (s' : Nat) (r r' v : Int32) (j : Nat), Kq σ σ' τ1 τ' q (bt q) → TF σ' τ' q (lo f) (bt q) s' → SP lo (r, sg σ' 46 j v) (r', sg τ' 88 j v) := by
    intro σ' τ' s' r r' v j hK hT'
    have e27 : σ' 45 7 = nI (q + 1) := (hK.1 45 7 (by decide) (by decide) (by decide)).trans h7
    obtain ⟨x1, x2, x3, x4, x5, x6⟩ := xs_kq hX hK
    obtain ⟨k1, k2, k3, k4, k5, k6, k7, k8⟩ := kq_w hK
    refine ⟨⟨?_, ?_, ?_, ?_, ?_, fun i hi => ?_⟩, fun _ => ⟨xc_top (σ' := sg σ' 46 j v) (τ' := sg τ' 88 j v) hL ⟨fun j => (sg_c (by decide)).trans (k1 j), fun j => (sg_c (by decide)).trans (k2 j), fun j hj => (sg_c (by decide)).trans (k3 j hj), fun j hj => (sg_c (by decide)).trans (k4 j hj), fun j hj => (sg_c (by decide)).trans (k5 j hj), fun j => (sg_c (by decide)).trans (k6 j), fun j hj => ⟨(sg_c (by decide)).trans (k7 j hj).1, (sg_c (by decide)).trans (k7 j hj).2⟩, fun j hj => (sg_c (by decide)).trans (k8 j hj)⟩ (s := s') ?_ ((sg_c (by decide)).trans hT'.2.1) ((sg_c (by decide)).trans e27) t4 ?_, ?_⟩⟩
    · simp (disch := decide) only [sg_c]; exact x1
    · simp (disch := decide) only [sg_c]; exact x2
    · simp (disch := decide) only [sg_c]; exact x3
    · simp (disch := decide) only [sg_c]; exact x4
    · simp (disch := decide) only [sg_c]; exact x5
    · show sg τ' 88 j v 88 i = sg σ' 46 j v 46 i
      rw [sg_if, sg_if]
      by_cases z : i = j
      · rw [if_pos z, if_pos z]
      · rw [if_neg z, if_neg z]; exact x6 i hi
    · rw [hfn]
      exact frm_same hT'.1 t5 (sg_c (by decide)) (fun _ _ => sg_c (by decide)) (fun _ _ => sg_c (by decide)) (fun _ _ => sg_c (by decide))
    · rw [sg_c (by decide), sg_c (by decide), hK.2.2.2.1 95 q (by decide) (by decide), hK.1 48 q (by decide) (by decide) (by omega), h48, h951]
    · show ¬ sg σ' 46 j v 45 7 = 0
      rw [sg_c (by decide), e27]; exact nI_ne0 (by omega) (by omega)
  refine o2_if Iff.rfl (fun c => ?_) (fun n16 => ?_)
  · obtain rfl : k = 16 := kk 16 (by decide) c
    have e1 : tkN ar 16 y = 1 := rfl
    have e2 : ptN 16 = 1 := rfl
    obtain ⟨⟨ra, σ2⟩, ⟨rb, τ2⟩, z1, z2, hx, hT2, hK2⟩ := popd (d - 1) (by omega)
    have hx : ra = rb := hx
    subst hx
    have hT2 : TF σ2 τ2 q (lo f) (bt q) (d - 1) := hT2
    have hK2 : Kq σ σ2 τ1 τ2 q (bt q) := hK2
    unfold f_X12_readStack f_X8_fetch
    rw [z1, z2, bd_s, bd_s]
    have hX2 := xs_kq hX hK2
    rcases cell_rel (N := N) (n := n) σ2 τ2 ra with ⟨j, hj, rfl, e, e'⟩ | ⟨e, e'⟩
    · rw [e, e', bd_s, bd_s, if_neg (by decide), if_neg (by decide), gb_nI hj (by decide), gb_nI (show j < 128 by omega) (by decide), ix_nI (k := j) (by omega)]
      exact o2_bd (P1 := SP lo) (o2_bd (tf_push hT2 (by omega) (hX2.2.2.2.2.2 j hj).symm) (fun _ σ3 _ τ3 _ _ hh => o2_ret (stay σ3 τ3 _ _ _ (kq_trans hK2 hh.2) hh.1))) (fun _ σ3 _ τ3 _ _ hh => o2_ret hh)
    · have e0 : f_X12_ends N n τ2 0 3 = some (0, sg (sg τ2 89 0 3) 93 0 0) := ends_eq (m := 0) (by decide) 3
      rw [e, e', bd_s, bd_s, if_pos rfl, if_pos rfl, e0, bd_s, bd_s, bd_s]
      exact o2_ret (sp_end hX2 (by decide))
  have pop2 : 2 ≤ d → ∃ ra rc σ3 τ3, Ok2 (f_X8_pop N n σ) (f_X12_pop N n τ1) (fun a b => a.1 = ra ∧ b.1 = ra ∧ f_X8_pop N n a.2 = some (rc, σ3) ∧ f_X12_pop N n b.2 = some (rc, τ3)) ∧ TF σ3 τ3 q (lo f) (bt q) (d - 1 - 1) ∧ Kq σ σ3 τ1 τ3 q (bt q) := by
    intro hd2
    obtain ⟨⟨ra, σ2⟩, ⟨rb, τ2⟩, z1, z2, hx, hT2, hK2⟩ := popd (d - 1) (by omega)
    have hT2 : TF σ2 τ2 q (lo f) (bt q) (d - 1) := hT2
    obtain ⟨⟨rc, σ3⟩, ⟨rd, τ3⟩, z3, z4, hy, hT3, hK3⟩ := tf_pop (N := N) (n := n) (s := d - 1 - 1) (by rw [show d - 1 - 1 + 1 = d - 1 by omega]; exact hT2)
    have hx : ra = rb := hx
    have hy : rc = rd := hy
    refine ⟨ra, rc, σ3, τ3, ⟨(ra, σ2), (rb, τ2), z1, z2, rfl, hx.symm, z3, ?_⟩, hT3, kq_trans hK2 hK3⟩
    rw [hy]; exact z4
  refine o2_if Iff.rfl (fun c => ?_) (fun n17 => ?_)
  · obtain rfl : k = 17 := kk 17 (by decide) c
    have e1 : tkN ar 17 y = 2 := rfl
    obtain ⟨ra, rc, σ3, τ3, ⟨⟨r1, σ2⟩, ⟨r2, τ2⟩, z1, z2, hr1, hr2, z3, z4⟩, hT3, hK3⟩ := pop2 (by omega)
    have hr1 : r1 = ra := hr1
    have hr2 : r2 = ra := hr2
    subst hr1
    subst hr2
    have z3 : f_X8_pop N n σ2 = some (rc, σ3) := z3
    have z4 : f_X12_pop N n τ2 = some (rc, τ3) := z4
    unfold f_X12_writeStack f_X8_store
    rw [z1, z2, bd_s, bd_s, z3, z4, bd_s, bd_s]
    have hX3 := xs_kq hX hK3
    rcases cell_rel (N := N) (n := n) σ3 τ3 r2 with ⟨j, hj, rfl, e, e'⟩ | ⟨e, e'⟩
    · rw [e, e', bd_s, bd_s, if_neg (by decide), if_neg (by decide), gb_nI hj (by decide), gb_nI (show j < 128 by omega) (by decide), ix_nI (k := j) (by omega), bd_s, bd_s]
      exact o2_ret (memo σ3 τ3 _ _ _ _ j hK3 hT3)
    · have e0 : f_X12_ends N n τ3 0 3 = some (0, sg (sg τ3 89 0 3) 93 0 0) := ends_eq (m := 0) (by decide) 3
      rw [e, e', bd_s, bd_s, if_pos rfl, if_pos rfl, e0, bd_s, bd_s, bd_s]
      exact o2_ret (sp_end hX3 (by decide))
  have hn : 3 ≤ k ∧ k ≤ 8 := by
    have z0 : k ≠ 0 := fun q => n0 (by rw [q]; rfl)
    have z1 : k ≠ 1 := fun q => n1 (by rw [q]; rfl)
    have z2 : k ≠ 2 := fun q => n2 (by rw [q]; rfl)
    have z9 : k ≠ 9 := fun q => n9 (by rw [q]; rfl)
    have z10 : k ≠ 10 := fun q => n10 (by rw [q]; rfl)
    have z11 : k ≠ 11 := fun q => n11 (by rw [q]; rfl)
    have z12 : k ≠ 12 := fun q => n12 (by rw [q]; rfl)
    have z13 : k ≠ 13 := fun q => n13 (by rw [q]; rfl)
    have z14 : k ≠ 14 := fun q => n14 (by rw [q]; rfl)
    have z15 : k ≠ 15 := fun q => n15 (by rw [q]; rfl)
    have z16 : k ≠ 16 := fun q => n16 (by rw [q]; rfl)
    have z17 : k ≠ 17 := fun q => n17 (by rw [q]; rfl)
    omega
  have e2 : tkN ar k y = 2 := by
    match k, hn with
    | 3, _ => rfl
    | 4, _ => rfl
    | 5, _ => rfl
    | 6, _ => rfl
    | 7, _ => rfl
    | 8, _ => rfl
    | 0, h => omega
    | 1, h => omega
    | 2, h => omega
    | k + 9, h => omega
  obtain ⟨ra, rc, σ3, τ3, ⟨⟨r1, σ2⟩, ⟨r2, τ2⟩, z1, z2, hr1, hr2, z3, z4⟩, hT3, hK3⟩ := pop2 (by omega)
  have hr1 : r1 = ra := hr1
  have hr2 : r2 = ra := hr2
  subst hr1
  subst hr2
  have z3 : f_X8_pop N n σ2 = some (rc, σ3) := z3
  have z4 : f_X12_pop N n τ2 = some (rc, τ3) := z4
  have hX3 := xs_kq hX hK3
  unfold f_X12_workStack f_X8_work f_X4_canReckon_X8
  rw [z1, z2, bd_s, bd_s, z3, z4, bd_s, bd_s]
  have push : ¬ (nI k = 6 ∧ r2 = 0) → Ok2 (bd (bd (f_X11_reckon N n σ3 (nI k) rc r2) (fun r5 σ6 => bd (f_X8_push N n σ6 r5) (fun _ σ9 => some ((0 : Int32), σ9)))) (fun _ σ85 => some ((0 : Int32), σ85))) (bd (bd (f_X12_works N n τ3 (nI k) rc r2) (fun r15 σ16 => bd (f_X12_push N n σ16 r15) (fun _ σ19 => some ((0 : Int32), σ19)))) (fun _ σ71 => some ((0 : Int32), σ71))) (SP lo) := by
    intro hno
    refine o2_bd (P1 := SP lo) (o2_bd (works_rel hno) (fun ra σ4 rb τ4 _ _ hh => ?_)) (fun _ σ3 _ τ3 _ _ hh => o2_ret hh)
    obtain ⟨w1, w2, w3⟩ := hh
    have w2 : σ4 = σ3 := w2
    have w3 : τ4 = τ3 := w3
    subst w2
    subst w3
    exact o2_bd (tf_push hT3 (by omega) w1) (fun _ σ5 _ τ5 _ _ hh => o2_ret (stay σ5 τ5 _ _ _ (kq_trans hK3 hh.2) hh.1))
  by_cases o6 : nI k = 6
  · rw [if_pos o6, if_pos o6]
    by_cases o0 : r2 = 0
    · have e0 : f_X12_ends N n τ3 0 2 = some (0, sg (sg τ3 89 0 2) 93 0 0) := ends_eq (m := 0) (by decide) 2
      rw [if_pos o0, if_pos o0, finish_eq, bd_s, bd_s, if_pos rfl, e0, bd_s, bd_s, bd_s]
      exact o2_ret (sp_end hX3 (by decide))
    · rw [if_neg o0, if_neg o0, bd_s, if_neg (by decide)]
      exact push (fun z => o0 z.2)
  · rw [if_neg o6, if_neg o6, bd_s, if_neg (by decide)]
    exact push (fun z => o6 z.1)
