section JM3
variable {N n : Nat} {σ σ1 τ τ' : Sg} {F Wd : Nat} {ar lo st le : Nat → Nat}
theorem g01_ok {v : Int32} {x : Option (Int32 × Sg)} (h : v = 0 ∨ v = 1) : g01 v x = x := by
  unfold g01
  rw [decide_eq_true h]
  rfl
/-- both begin: the class's cells up to 8 and its memory as they were, the reference's too -/
theorem jb_begin (h : JB σ τ F Wd ar lo st le) (h1 : σ 1 9 = 1) (c8 : ∀ c j, c ≤ 8 → σ1 c j = σ c j) (c46 : ∀ j, σ1 46 j = σ 46 j) (mz : MZ σ1) (hr : Hr τ τ') (e10 : τ' 59 10 = τ 59 10) (e88 : ∀ k, k < 64 → τ' 88 k = τ 88 k) (bg : BG τ') (co : COr τ') (code : ¬ τ' 59 37 = 0 → ∀ g, g < F → ∃ S z, FCr τ' F g S z) : JB σ1 τ' F Wd ar lo st le := by
  obtain ⟨hR, h2, h3, h4, h5, h6, h7, h8, h9⟩ := h
  have c9 : σ1 1 9 = 1 := (c8 1 9 (by decide)).trans h1
  refine ⟨rl_ref (rl_cls hR c8) hr, by rw [e10, h2, h1, c9], Or.inr c9, fun q f hf w hw => ?_, xr_begin mz bg (fun k hk => ?_) lo, fun q => mz, h93_bg bg, co, fun q => ⟨c9, code q, req_bg bg F⟩⟩
  · rw [hr.1 66 _ (by decide) (by decide), c8 8 _ (by decide)]; exact h4 h1 f hf w hw
  · rw [e88 k hk, c46]; exact h5.1.2.2.2.2.2 k hk
theorem j_again (hN : 1000 ≤ N) (hk : KX σ n) (hj : JX σ) : Ok (f_X11_again N n σ) (fun a => Ok (f_X12_again N n a.2) (fun z => KX z.2 n ∧ JX z.2)) := by
  obtain ⟨F, Wd, ar, lo, st, le, hj⟩ := hj
  obtain ⟨⟨r, σ1⟩, e, k1, fr⟩ := xagain_ok (N := N) hN hk
  have fr : ∀ c j, 58 < c → σ1 c j = σ c j := fr
  refine ⟨(r, σ1), e, j_fin k1 ?_ (fun r' σ' e' c j q => fr_X12_again (nt_hi (m := 58) (by decide) (by decide) q) e')⟩
  show Ok (f_X12_again N n σ1) _
  have hm := jx_mid hj fr
  have hm0 := hm
  obtain ⟨hR, h2, h3, h4, h5, h6, h7, h8, h9⟩ := hm
  have e0 := e
  unfold f_X11_again at e
  unfold f_X12_again
  have h01 : σ1 59 10 = 0 ∨ σ1 59 10 = 1 := by rw [h2]; exact h3
  by_cases c1 : σ 1 9 = 0
  · rw [if_pos c1] at e
    rw [if_pos (h2.trans c1), g01_ok h01]
    cases e
    exact jz_no hm0
  · rw [if_neg c1] at e
    rw [if_neg (fun q => c1 (h2.symm.trans q))]
    obtain ⟨r2, σ2, e2, e3⟩ := bd_some e
    cases e3
    have q1 := h3.resolve_left c1
    refine ok_bd (begin_ref hN) (fun r3 σ3 e3 h3' => ?_)
    have h3' : BG σ3 := h3'
    have f3 : ∀ c j, c ≤ 88 → ¬ (c = 59 ∧ j = 0) → σ3 c j = σ1 c j := fun c j q1 q2 => (fr_X12_begin (nt_hi (m := 88) (by decide) (by decide) q1) e3).trans (sg_o (by omega))
    rw [g01_ok (by rw [f3 59 10 (by decide) (by decide)]; exact h01)]
    refine ok_ret ⟨F, Wd, ar, lo, st, le, jb_begin hm0 q1 (fun c j q => fr_X11_beginMachines (nt_hi (m := 44) (by decide) (by decide) (by omega)) e2) (fun j => fr_X11_beginMachines (nt_mk (by simp <;> omega) (by simp <;> omega)) e2) (begin_mz e2) ⟨fun c j a b => f3 c j (by omega) (by omega), f3 59 1 (by decide) (by decide), f3 59 6 (by decide) (by decide)⟩ (f3 59 10 (by decide) (by decide)) (fun k _ => f3 88 k (by decide) (by omega)) h3' (fun v hv => ?_) (fun q g hg => ?_)⟩
    · show σ3 75 v = (-1) ∨ Bl (σ3 75 v) 22
      rw [f3 75 v (by decide) (by omega)]; exact h8 v hv
    · have q : ¬ σ3 59 37 = 0 := q
      rw [f3 59 37 (by decide) (by decide)] at q
      obtain ⟨S, z, b⟩ := (h9 q).2.1 g hg
      exact ⟨S, z, fcr_same b (f3 85 g (by decide) (by omega)) (f3 86 g (by decide) (by omega)) (fun i _ => f3 84 i (by decide) (by omega))⟩
theorem clear27_loop {τ0 : Sg} {K : Sg → Int32 → Option (Int32 × Sg)} {P : Int32 × Sg → Prop} (hK : ∀ (τ : Sg) (x : Int32), (∀ c j, c ≠ 88 → τ c j = τ0 c j) → (∀ j, j < 128 → τ 88 j = 0) → Ok (K τ x) P) :
    ∀ (k v : Nat) (τ : Sg), v ≤ 128 → 128 < v + k → (∀ c j, c ≠ 88 → τ c j = τ0 c j) → (∀ j, j < v → τ 88 j = 0) → Ok (lf_X12_clear_27 N n K k τ (nI v)) P := by
  intro k
  induction k with
  | zero => intro v τ q1 q2; omega
  | succ k ih =>
    intro v τ q1 q2 hs hv
    show Ok (lb_X12_clear_27 N n K (lf_X12_clear_27 N n K k) τ (nI v)) P
    unfold lb_X12_clear_27
    have e0 : ((128 : Int32) ≤ nI v) = (128 ≤ v) := le_ln (k := 128) (by omega) (by decide)
    refine ok_if (fun c => ?_) (fun c => ?_)
    · rw [e0] at c
      exact hK τ _ hs (fun j hj => hv j (by omega))
    · rw [e0] at c
      rw [gb_nI (show v < 128 by omega) (by decide), ix_nI (k := v) (by omega), ad_nl v 1]
      refine ih (v + 1) _ (by omega) (by omega) (fun c j q => (sg_c q).trans (hs c j q)) (fun j hj => ?_)
      rw [sg_if]
      by_cases z : j = v
      · rw [if_pos z]
      · rw [if_neg z]; exact hv j (by omega)
theorem j_clear (hN : 1000 ≤ N) (hk : KX σ n) (hj : JX σ) : Ok (f_X11_clear N n σ) (fun a => Ok (f_X12_clear N n a.2) (fun z => KX z.2 n ∧ JX z.2)) := by
  obtain ⟨F, Wd, ar, lo, st, le, hj⟩ := hj
  obtain ⟨⟨r, σ1⟩, e, k1, fr⟩ := xclear_ok (N := N) hN hk
  have fr : ∀ c j, 58 < c → σ1 c j = σ c j := fr
  refine ⟨(r, σ1), e, j_fin k1 ?_ (fun r' σ' e' c j q => fr_X12_clear (nt_hi (m := 58) (by decide) (by decide) q) e')⟩
  show Ok (f_X12_clear N n σ1) _
  obtain ⟨hR, h2, h3, h4, h5, h6, h7, h8, h9⟩ := jx_mid hj fr
  have main : σ1 1 7 = nI 0 ∧ σ1 1 8 = nI 0 ∧ σ1 1 9 = 0 ∧ MZ σ1 ∧ ∀ k, k < 64 → σ1 46 k = 0 := by
    have mm : Ok (f_X11_clear N n σ) (fun z => z.2 1 7 = nI 0 ∧ z.2 1 8 = nI 0 ∧ z.2 1 9 = 0 ∧ MZ z.2 ∧ ∀ k, k < 64 → z.2 46 k = 0) := by
      unfold f_X11_clear f_X6_empty
      rw [bd_s]
      refine ok_bd (begins_ok hN) (fun r1 σ1 e1 h1 => ok_bd (fill46_ok hN 0) (fun r2 σ2 e2 h2 => ok_bd (fill53_ok hN 0) (fun r3 σ3 e3 h3 => ok_ret ?_)))
      have f2 : ∀ c j, c ≠ 46 → c ≠ 53 → σ3 c j = σ1 c j := fun c j a b => (h3.1 c j b).trans (h2.1 c j a)
      have f1 : ∀ c j, c ≤ 44 → σ1 c j = _ := fun c j q => fr_X11_beginMachines (nt_hi (m := 44) (by decide) (by decide) q) e1
      exact ⟨(f2 1 7 (by decide) (by decide)).trans ((f1 1 7 (by decide)).trans rfl), (f2 1 8 (by decide) (by decide)).trans ((f1 1 8 (by decide)).trans rfl), (f2 1 9 (by decide) (by decide)).trans ((f1 1 9 (by decide)).trans rfl), mz_cls (begin_mz e1) (fun j => f2 45 j (by decide) (by decide)), fun k hk => (h3.1 46 k (by decide)).trans (h2.2 k hk)⟩
    obtain ⟨y, ey, hy⟩ := mm
    rw [e] at ey
    cases ey
    exact hy
  obtain ⟨m1, m2, m3, m4, m5⟩ := main
  unfold f_X12_clear
  rw [show (0 : Int32) = nI 0 from rfl]
  obtain ⟨τ0, t0⟩ : ∃ q, q = sg (sg (sg (sg (sg σ1 59 0 (nI 0)) 59 1 (nI 0)) 59 6 (nI 0)) 59 10 (nI 0)) 59 37 (nI 0) := ⟨_, rfl⟩
  rw [← t0]
  refine clear27_loop (τ0 := τ0) (fun τ x hs h88 => ?_) N 0 τ0 (by omega) (by omega) (fun _ _ _ => rfl) (fun j hj => by omega)
  refine ok_bd (begin_ref hN) (fun r3 τ3 e3 h3' => ok_ret ?_)
  have h3' : BG τ3 := h3'
  show JZ σ1 τ3
  have f3 : ∀ c j, c ≤ 88 → τ3 c j = τ c j := fun c j q1 => fr_X12_begin (nt_hi (m := 88) (by decide) (by decide) q1) e3
  have o1 : τ3 59 1 = nI 0 := by rw [f3 59 1 (by decide), hs 59 1 (by decide), t0, sg_ne (by decide), sg_ne (by decide), sg_ne (by decide), sg_at]
  have o6 : τ3 59 6 = nI 0 := by rw [f3 59 6 (by decide), hs 59 6 (by decide), t0, sg_ne (by decide), sg_ne (by decide), sg_at]
  have o10 : τ3 59 10 = nI 0 := by rw [f3 59 10 (by decide), hs 59 10 (by decide), t0, sg_ne (by decide), sg_at]
  have o37 : τ3 59 37 = nI 0 := by rw [f3 59 37 (by decide), hs 59 37 (by decide), t0, sg_at]
  refine ⟨0, 0, ar, lo, st, le, ⟨⟨m1, by omega, m2, by omega, fun f hf => by omega, fun f hf => by omega, fun f hf => by omega, fun f hf => by omega, fun f hf => by omega, fun f g _ hg => by omega, fun q => by omega⟩, ⟨o1, by omega, o6, by omega, fun f hf => by omega, fun f hf => by omega, fun f hf => by omega, fun f hf => by omega, fun f hf => by omega, fun f g _ hg => by omega, fun q => by omega⟩, fun j hj => by omega⟩, o10.trans m3.symm, Or.inl m3, fun q => absurd (m3.symm.trans q) (by decide), xr_begin m4 h3' (fun k hk => ?_) lo, fun _ => m4, h93_bg h3', fun v hv => ?_, fun q => absurd o37 q⟩
  · rw [f3 88 k (by decide), h88 k (by omega), m5 k hk]
  · rw [f3 75 v (by decide), hs 75 v (by decide), t0, sg_c (by decide), sg_c (by decide), sg_c (by decide), sg_c (by decide), sg_c (by decide)]
    exact h8 v hv
theorem j_runStack (hN : 30000 ≤ N) (hk : KX σ n) (hj : JX σ) (x : Int32) : Ok (f_X11_runStack N n σ x) (fun a => Ok (f_X12_runStack N n a.2 x) (fun z => KX z.2 n ∧ JX z.2)) := by
  obtain ⟨F, Wd, ar, lo, st, le, hj⟩ := hj
  obtain ⟨⟨r, σ1⟩, e, k1, fr⟩ := xrunStack_ok (N := N) hN hk x
  have fr : ∀ c j, 58 < c → σ1 c j = σ c j := fr
  refine ⟨(r, σ1), e, j_fin k1 ?_ (fun r' σ' e' c j q => fr_X12_runStack (nt_hi (m := 58) (by decide) (by decide) q) e')⟩
  show Ok (f_X12_runStack N n σ1 x) _
  obtain ⟨hR, h2, h3, h4, h5, h6, h7, h8, h9⟩ := jx_mid hj fr
  obtain ⟨w1, w2⟩ := kx_get hk hR.1
  obtain ⟨a, ⟨rb, τ2⟩, ea, eb, -, x3⟩ := runStack_rel (N := N) (n := n) hN hR h2 w1 h3 w2 h5 x
  rw [e] at ea
  cases ea
  have x3 : XR σ1 τ2 lo := x3
  have hw0 : HW (sg σ1 59 0 0) (sg σ1 59 0 0) := ⟨fun _ _ _ => rfl, by
    obtain ⟨m, a, b⟩ := h7
    exact ⟨m, a, (sg_c (by decide)).trans b⟩⟩
  obtain ⟨g1, g2⟩ := pc_runStack (N := N) (n := n) x hw0 (rb, τ2) eb
  have g1 : ∀ c j, Hc c j → τ2 c j = sg σ1 59 0 0 c j := g1
  have g2 : ∃ h, h ≤ 30 ∧ τ2 93 0 = nI h := g2
  have rf : ∀ c j, Hc c j → ¬ (c = 59 ∧ j = 0) → τ2 c j = σ1 c j := fun c j q1 q2 => (g1 c j q1).trans (sg_o (by omega))
  have lo87 : ∀ c j, c ≤ 87 → ¬ (c = 59 ∧ j = 0) → τ2 c j = σ1 c j := fun c j q1 q2 => rf c j (Or.inl q1) q2
  have cf : ∀ c j, c ≤ 44 → σ1 c j = σ c j := fun c j q => fr_X11_runStack (nt_hi (m := 44) (by decide) (by decide) q) e
  have c9 : σ1 1 9 = σ 1 9 := cf 1 9 (by decide)
  refine ⟨(rb, τ2), eb, F, Wd, ar, lo, st, le, ?_⟩
  show JB σ1 τ2 F Wd ar lo st le
  refine ⟨rl_ref (rl_cls hR (fun c j q => cf c j (by omega))) ⟨fun c j a b => lo87 c j (by omega) (by omega), lo87 59 1 (by decide) (by decide), lo87 59 6 (by decide) (by decide)⟩, by rw [lo87 59 10 (by decide) (by decide), h2, c9], by rw [c9]; exact h3, fun q f hf w hw => ?_, x3, fun q => ?_, g2, fun v hv => ?_, fun z => ?_⟩
  · rw [lo87 66 _ (by decide) (by omega), cf 8 _ (by decide)]; exact h4 (c9.symm.trans q) f hf w hw
  · have q0 : σ 1 9 = 0 := c9.symm.trans q
    unfold f_X11_runStack at e
    rw [if_pos q0] at e
    cases e
    exact h6 q0
  · rw [lo87 75 v (by decide) (by omega)]; exact h8 v hv
  · rw [lo87 59 37 (by decide) (by decide)] at z
    obtain ⟨a1, a2, a3⟩ := h9 z
    refine ⟨c9.trans a1, fun g hg => ?_, ?_⟩
    · obtain ⟨S, zz, b⟩ := a2 g hg
      exact ⟨S, zz, fcr_same b (lo87 85 g (by decide) (by omega)) (lo87 86 g (by decide) (by omega)) (fun i _ => lo87 84 i (by decide) (by omega))⟩
    · rcases a3 with q | ⟨m, q1, q2, q3⟩
      · exact Or.inl (by rw [rf 89 1 (by unfold Hc; omega) (by decide)]; exact q)
      · exact Or.inr ⟨m, (rf 93 1 (by unfold Hc; omega) (by decide)).trans q1, q2, fun r hr => rfq_same (q3 r hr) (rf 94 _ (by unfold Hc; omega) (by omega)) (rf 95 _ (by unfold Hc; omega) (by omega)) (fun j => lo87 86 j (by decide) (by omega))⟩
theorem j_runRegisters (hN : 30000 ≤ N) (hk : KX σ n) (hj : JX σ) (x : Int32) : Ok (f_X11_runRegisters N n σ x) (fun a => Ok (f_X12_runRegisters N n a.2 x) (fun z => KX z.2 n ∧ JX z.2)) := by
  obtain ⟨F, Wd, ar, lo, st, le, hj⟩ := hj
  obtain ⟨⟨r, σ1⟩, e, k1, fr⟩ := xrunRegisters_ok (N := N) hN hk x
  have fr : ∀ c j, 58 < c → σ1 c j = σ c j := fr
  refine ⟨(r, σ1), e, j_fin k1 ?_ (fun r' σ' e' c j q => fr_X12_runRegisters (nt_hi (m := 58) (by decide) (by decide) q) e')⟩
  show Ok (f_X12_runRegisters N n σ1 x) _
  have hm : JB σ1 σ1 F Wd ar lo st le := jb_cls (jx_mid hj fr) (fun c j q => fr_X11_runRegisters (nt_hi (m := 51) (by decide) (by decide) (by omega)) e)
  obtain ⟨w1, w2⟩ := kx_get k1 hm.1.1
  have hm0 := jb_thrown hm 0
  obtain ⟨hR, h2, h3, h4, h5, h6, h7, h8, h9⟩ := id hm
  refine ok_mono (rrunRegisters_ok (N := N) (n := n) hN hR.2.1 (fun q => (w1 (h9 q).1).1) (fun q => (h9 q).2.1) (fun q => (h9 q).2.2) x) (fun y hy => ?_)
  obtain ⟨y1, y2⟩ := hy
  obtain ⟨gR, g2, g3, g4, g5, g6, g7, g8, g9⟩ := hm0
  have lo87 : ∀ c j, c ≤ 87 → y.2 c j = sg σ1 59 0 0 c j := fun c j q => y2 c j (Or.inl q)
  refine ⟨F, Wd, ar, lo, st, le, rl_ref gR ⟨fun c j a b => lo87 c j (by omega), lo87 59 1 (by decide), lo87 59 6 (by decide)⟩, (lo87 59 10 (by decide)).trans g2, g3, fun q f hf w hw => (lo87 66 _ (by decide)).trans (g4 q f hf w hw), xr_lw g5 y2 g7 (fun q r hr => ?_), g6, ?_, fun v hv => ?_, fun z => ?_⟩
  · have hr : r < ix (σ1 45 7) := hr
    show lo (ix (σ1 47 r)) ≤ 10
    rcases h3 with z | z
    · rw [(h6 z).2.2.2.2] at hr
      exact absurd hr (by show ¬ r < 0; omega)
    · rcases w2 z with u | ⟨h, fn, nx, bt, tp, s1, s2, s3, s4, -⟩
      · exact absurd q u
      · have s1 : σ1 45 7 = nI h := s1
        have s4 : ∀ (r : Nat), r < h → fn r < F ∧ σ1 47 r = nI (fn r) ∧ σ1 51 r = nI (bt r) ∧ bt r ≤ 12 * r := s4
        rw [s1, ix_nI (by omega)] at hr
        obtain ⟨u1, u2, -⟩ := s4 r hr
        have hF := hR.1.2.1
        rw [u2, ix_nI (by omega)]
        have := hR.1.2.2.2.2.2.2.2.2.1 (fn r) u1
        omega
  · obtain ⟨m, a, b⟩ := g7
    exact ⟨m, a, (y2 93 0 (by unfold Lc; omega)).trans b⟩
  · rw [lo87 75 v (by decide)]; exact g8 v hv
  · rw [lo87 59 37 (by decide)] at z
    obtain ⟨a1, a2, a3⟩ := g9 z
    refine ⟨a1, fun g hg => ?_, y1 (by rw [← sg_ne (σ := σ1) (c := 59) (i := 0) (j := 37) (v := 0) (by decide)]; exact z)⟩
    obtain ⟨S, zz, b⟩ := a2 g hg
    exact ⟨S, zz, fcr_same b (lo87 85 g (by decide)) (lo87 86 g (by decide)) (fun i _ => lo87 84 i (by decide))⟩
end JM3
