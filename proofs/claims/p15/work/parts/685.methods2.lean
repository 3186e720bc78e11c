section JM2
variable {N n : Nat} {σ σ1 τ τ' : Sg} {F Wd : Nat} {ar lo st le : Nat → Nat}
theorem begin_mz {σ' : Sg} {r : Int32} (e : f_X11_beginMachines N n σ = some (r, σ')) : MZ σ' := by
  unfold f_X11_beginMachines f_X8_begin f_X4_begin_X8 at e
  rw [bd_s, bd_s] at e
  obtain ⟨r2, σ2, e2, e3⟩ := bd_some e
  cases e3
  have f : ∀ j, σ' 45 j = _ := fun j => fr_X7_begin (c := 45) (j := j) (nt_hi (m := 45) (by decide) (by decide) (by decide)) e2
  exact ⟨(f 3).trans rfl, (f 4).trans rfl, (f 5).trans rfl, (f 6).trans rfl, (f 7).trans rfl⟩
theorem j_check (hN : 200000 ≤ N) (hk : KX σ n) (hj : JX σ) : Ok (f_X11_check N n σ) (fun a => Ok (f_X12_check N n a.2) (fun z => KX z.2 n ∧ JX z.2)) := by
  obtain ⟨F, Wd, ar, lo, st, le, hj⟩ := hj
  obtain ⟨⟨r, σ1⟩, e, k1, fr⟩ := xcheck_ok (N := N) (by omega) hk
  have fr : ∀ c j, 58 < c → σ1 c j = σ c j := fr
  refine ⟨(r, σ1), e, j_fin k1 ?_ (fun r' σ' e' c j q => fr_X12_check (nt_hi (m := 58) (by decide) (by decide) q) e')⟩
  show Ok (f_X12_check N n σ1) _
  have hm := jx_mid hj fr
  obtain ⟨hR, h2, h3, h4, h5, h6, h7, h8, h9⟩ := id hm
  obtain ⟨a, ⟨rb, τ2⟩, ea, eb, -, x2, x3⟩ := check_rel (N := N) (n := n) hN hR h2 h3
  rw [e] at ea
  cases ea
  have x2 : τ2 59 10 = σ1 1 9 := x2
  have cf : ∀ c j, c ≠ 8 → c ≠ 10 → ¬ (c = 1 ∧ j = 9) → ¬ (c = 9 ∧ j = 2) → σ1 c j = σ c j := fun c j q1 q2 q3 q4 => fr_X11_check (nt_mk (by simp <;> omega) (by simp <;> omega)) e
  have rf : ∀ c j, c ≠ 66 → c ≠ 67 → ¬ (89 ≤ c ∧ c ≤ 93) → c ≠ 100 → c ≠ 101 → ¬ (c = 59 ∧ j = 0) → ¬ (c = 59 ∧ j = 10) → τ2 c j = σ1 c j := fun c j q1 q2 q3 q4 q5 q6 q7 => fr_X12_check (nt_mk (by simp <;> omega) (by simp <;> omega)) eb
  have hp1 : PI σ1 F Wd ar lo st le := pi_17 hR.1 (fun c j q1 q2 => cf c j (by omega) (by omega) q2 (by omega))
  have hp2 : PR τ2 F Wd ar lo st le := by
    obtain ⟨p1, p2, p3, p4, p5, p6, p7, p8, p9⟩ := hR.2.1
    exact ⟨(rf 59 1 (by decide) (by decide) (by decide) (by decide) (by decide) (by decide) (by decide)).trans p1, p2, (rf 59 6 (by decide) (by decide) (by decide) (by decide) (by decide) (by decide) (by decide)).trans p3, p4, fun f hf => (rf 60 f (by decide) (by decide) (by omega) (by decide) (by decide) (by omega) (by omega)).trans (p5 f hf), fun f hf => (rf 61 f (by decide) (by decide) (by omega) (by decide) (by decide) (by omega) (by omega)).trans (p6 f hf), fun f hf => (rf 62 f (by decide) (by decide) (by omega) (by decide) (by decide) (by omega) (by omega)).trans (p7 f hf), fun f hf => (rf 63 f (by decide) (by decide) (by omega) (by decide) (by decide) (by omega) (by omega)).trans (p8 f hf), p9⟩
  have hR1 : Rl σ1 τ2 F Wd ar lo st le := ⟨hp1, hp2, fun j hj => ⟨by
    rw [rf 64 j (by decide) (by decide) (by omega) (by decide) (by decide) (by omega) (by omega), cf 6 j (by decide) (by decide) (by omega) (by omega)]
    exact (hR.2.2 j hj).1, by
    rw [rf 65 j (by decide) (by decide) (by omega) (by decide) (by decide) (by omega) (by omega), cf 7 j (by decide) (by decide) (by omega) (by omega)]
    exact (hR.2.2 j hj).2⟩⟩
  refine ⟨(rb, τ2), eb, ?_⟩
  show JZ σ1 τ2
  rcases x3 with ⟨y1, y2, y3⟩ | ⟨y1, y2, y3, y4⟩ | ⟨y1, y2, y3⟩
  · have y1 : σ1 = σ := y1
    have y2 : τ2 = sg σ1 59 0 0 := y2
    rw [y2]
    exact ⟨F, Wd, ar, lo, st, le, jb_cls (jb_thrown hm 0) (fun c j _ => by rw [y1])⟩
  · have y2 : σ1 1 9 = 1 := y2
    have y4 : BG τ2 := y4
    have m1 : MZ σ1 := mz_cls (h6 y1) (fun j => cf 45 j (by decide) (by decide) (by omega) (by omega))
    refine ⟨F, Wd, ar, lo, st, le, hR1, x2, Or.inr y2, fun _ => y3, xr_begin m1 y4 (fun k hk => ?_) lo, fun z => absurd (y2.symm.trans z) (by decide), h93_bg y4, fun v hv => ?_, fun z => ?_⟩
    · rw [rf 88 k (by decide) (by decide) (by omega) (by decide) (by decide) (by omega) (by omega), cf 46 k (by decide) (by decide) (by omega) (by omega)]
      exact h5.1.2.2.2.2.2 k hk
    · rw [rf 75 v (by decide) (by decide) (by omega) (by decide) (by decide) (by omega) (by omega)]; exact h8 v hv
    · rw [rf 59 37 (by decide) (by decide) (by decide) (by decide) (by decide) (by decide) (by decide)] at z
      exact absurd (y1.symm.trans (h9 z).1) (by decide)
  · have y2 : σ1 1 9 = 0 := y2
    have y3 : ∀ c j, c ≠ 66 → c ≠ 67 → τ2 c j = sg σ1 59 0 0 c j := y3
    exact ⟨F, Wd, ar, lo, st, le, jb_unch hm y1 y2 ((y3 59 10 (by decide) (by decide)).trans (sg_ne (by decide))) ((y3 59 37 (by decide) (by decide)).trans (sg_ne (by decide))) (fun c j q1 q2 => cf c j (by omega) (by omega) (by omega) (by omega)) (fun c j q => (y3 c j (by omega) (by omega)).trans (sg_c (by omega))) hR1⟩
theorem xr_mem {lo : Nat → Nat} (h : XR σ τ lo) (e : ∀ c j, 45 ≤ c → c ≤ 51 → c ≠ 46 → σ1 c j = σ c j) (e' : ∀ c j, 88 < c → c ≤ 100 → τ' c j = τ c j) (hm : ∀ k, k < 64 → τ' 88 k = σ1 46 k) : XR σ1 τ' lo := by
  obtain ⟨⟨x1, x2, x3, x4, x5, x6⟩, h2⟩ := h
  have a1 : ∀ j, σ1 45 j = σ 45 j := fun j => e 45 j (by decide) (by decide) (by decide)
  refine ⟨⟨?_, ?_, ?_, ?_, ?_, hm⟩, fun q => ?_⟩
  · rw [a1, e' 89 0 (by decide) (by decide)]; exact x1
  · rw [a1, e' 90 0 (by decide) (by decide)]; exact x2
  · rw [a1, e' 91 0 (by decide) (by decide)]; exact x3
  · rw [a1, e' 92 0 (by decide) (by decide)]; exact x4
  · rw [a1, e' 93 0 (by decide) (by decide)]; exact x5
  · rw [a1] at q
    obtain ⟨y1, y2⟩ := h2 q
    refine ⟨fun r hr => ?_, fun z k hk => (e' 100 k (by decide) (by decide)).trans (y2 (by rw [← a1]; exact z) k hk)⟩
    rw [a1] at hr
    have a := y1 r hr
    unfold en FRm at a ⊢
    rw [a1, a1]
    simp only [e 47 _ (by decide) (by decide) (by decide), e 48 _ (by decide) (by decide) (by decide), e 49 _ (by decide) (by decide) (by decide), e 50 _ (by decide) (by decide) (by decide), e 51 _ (by decide) (by decide) (by decide), e' 94 _ (by decide) (by decide), e' 95 _ (by decide) (by decide), e' 96 _ (by decide) (by decide), e' 97 _ (by decide) (by decide)]
    exact a
theorem j_cell (hk : KX σ n) (hj : JX σ) (x y : Int32) : Ok (f_X11_cell N n σ x y) (fun a => Ok (f_X12_cell N n a.2 x y) (fun z => a.1 = z.1 ∧ KX z.2 n ∧ JX z.2)) := by
  obtain ⟨F, Wd, ar, lo, st, le, hj⟩ := hj
  obtain ⟨⟨r, σ1⟩, e, v1, k1, fr⟩ := xcell_ok (N := N) hk x y
  have fr : ∀ c j, 58 < c → σ1 c j = σ c j := fr
  obtain ⟨⟨rb, τ2⟩, eb, v2, fb⟩ := cellR_ok (N := N) (n := n) (σ := σ1) x y
  have fb : ∀ c j, c ≠ 88 → ¬ (c = 59 ∧ j = 0) → τ2 c j = σ1 c j := fb
  have hm := jx_mid hj fr
  obtain ⟨hR, h2, h3, h4, h5, h6, h7, h8, h9⟩ := id hm
  have cf : ∀ c j, c ≠ 46 → c ≠ 53 → σ1 c j = σ c j := fun c j q1 q2 => fr_X11_cell (nt_mk (by simp <;> omega) (by simp <;> omega)) e
  have mem : ∀ k, k < 64 → τ2 88 k = σ1 46 k := by
    have old : ∀ k, k < 64 → σ1 88 k = σ 46 k := h5.1.2.2.2.2.2
    unfold f_X11_cell at e
    unfold f_X12_cell f_X12_isCell at eb
    by_cases c1 : x < 0
    · rw [if_pos c1] at e
      rw [if_pos c1, bd_s, if_pos rfl] at eb
      cases e
      cases eb
      intro k hk
      rw [sg_c (by decide)]
      exact old k hk
    · rw [if_neg c1] at e
      rw [if_neg c1] at eb
      rcases cs_n x with q | ⟨m, hm2, rfl⟩
      · exact absurd q c1
      have f64 : ((64 : Int32) ≤ nI m) = (64 ≤ m) := le_ln (k := 64) (by omega) (by decide)
      have g64 : (nI m < 64) = (m < 64) := lt_nl (k := 64) (by omega) (by decide)
      by_cases c2 : m < 64
      · rw [if_pos (show nI m < 64 by rw [g64]; exact c2), gb_nI c2 (by decide), gb_nI c2 (by decide), ix_nI (k := m) (by omega)] at e
        rw [if_neg (show ¬ (64 : Int32) ≤ nI m by rw [f64]; omega), bd_s, if_neg (by decide), ad_ln] at eb
        have e64 : OfNat.ofNat 64 + m = 64 + m := rfl
        rw [e64, gb_nI (show m < 128 by omega) (by decide), gb_nI (show 64 + m < 128 by omega) (by decide), ix_nI (k := m) (by omega), ix_nI (k := 64 + m) (by omega)] at eb
        cases e
        cases eb
        intro k hk
        rw [sg_ne (by omega), sg_if, sg_c (c := 46) (d := 53) (by decide), sg_if, sg_c (by decide)]
        by_cases z : k = m
        · rw [if_pos z, if_pos z]
        · rw [if_neg z, if_neg z]; exact old k hk
      · rw [if_neg (show ¬ nI m < 64 by rw [g64]; exact c2)] at e
        rw [if_pos (show (64 : Int32) ≤ nI m by rw [f64]; omega), bd_s, if_pos rfl] at eb
        cases e
        cases eb
        intro k hk
        rw [sg_c (by decide)]
        exact old k hk
  refine ⟨(r, σ1), e, (rb, τ2), eb, ?_, jx_of k1 (F := F) (Wd := Wd) (ar := ar) (lo := lo) (st := st) (le := le) ?_ (fun c j q => fb c j (by omega) (by omega))⟩
  · show r = rb
    have v1 : r = _ := v1
    have v2 : rb = _ := v2
    rw [v1, v2]
  · show JB σ1 τ2 F Wd ar lo st le
    have c9 : σ1 1 9 = σ 1 9 := cf 1 9 (by decide) (by decide)
    refine ⟨rl_ref (rl_cls hR (fun c j q => cf c j (by omega) (by omega))) ⟨fun c j a b => fb c j (by omega) (by omega), fb 59 1 (by decide) (by decide), fb 59 6 (by decide) (by decide)⟩, by rw [fb 59 10 (by decide) (by decide), h2, c9], by rw [c9]; exact h3, fun q f hf w hw => ?_, xr_mem h5 (fun c j q1 q2 q3 => cf c j q3 (by omega)) (fun c j q1 q2 => fb c j (by omega) (by omega)) mem, fun q => mz_cls (h6 (c9.symm.trans q)) (fun j => cf 45 j (by decide) (by decide)), ?_, fun v hv => ?_, fun z => ?_⟩
    · rw [fb 66 _ (by decide) (by omega), cf 8 _ (by decide) (by decide)]; exact h4 (c9.symm.trans q) f hf w hw
    · obtain ⟨m, a, b⟩ := h7
      exact ⟨m, a, (fb 93 0 (by decide) (by decide)).trans b⟩
    · rw [fb 75 v (by decide) (by omega)]; exact h8 v hv
    · rw [fb 59 37 (by decide) (by decide)] at z
      obtain ⟨a1, a2, a3⟩ := h9 z
      refine ⟨c9.trans a1, fun g hg => ?_, req_same a3 (fun c j q => fb c j (by omega) (by omega))⟩
      obtain ⟨S, zz, b⟩ := a2 g hg
      exact ⟨S, zz, fcr_same b (fb 85 g (by decide) (by omega)) (fb 86 g (by decide) (by omega)) (fun i _ => fb 84 i (by decide) (by omega))⟩
end JM2
